theorem law_exit {p : Program} {l : Launch} {e : Env} {s : State} {m : MethodId} {below : List Frame} {meth : Method} {c : Code} {b : Nat} {cells slots : Nat} {H : Heap} {locs : List Loc} {ls : Array Slot} (F : CallFix p m c cL_law 9 s #[Value.ref b] wsL_law RL) (hr : meth.sig.returnType = ret) (hlocks : meth.locks = false) (hS : va_S (fun q => s.heap.size ≤ q) s.heap H locs) (h1 : cells ≤ 655552) (h2 : slots ≤ 7129414) : W p l e room_1 s m #[Value.ref b] below meth c H locs cells slots (lw_Z below #[Value.ref b] s) (F0 m 827 ls []) := by
  obtain ⟨hx, hb, hml, hown, hts⟩ := id F
  refine va_forget hS.2.2 ?_
  refine W.widen (k := 655552) (n := 7129414) h1 h2 ?_
  refine lv_iconst (v := 1) hx hb dL_law_827 (by decide) ?_
  refine W.base ?_
  exact lw_ret (Drawn.sameBut.refl s.drawn lw_cs) hx hb hr hlocks dL_law_828
set_option maxHeartbeats 1000000 in
set_option maxRecDepth 100000 in
theorem law_loop {p : Program} {l : Launch} {e : Env} {s : State} {m : MethodId} {below : List Frame} {meth : Method} {c : Code} {D : va_G} {ad : Nat → Nat} {cy : Nat → ClassId} {ao : Nat} {co : ClassId} {ad2 : Nat → Nat} {cy2 : Nat → ClassId} {b L : Nat} {xs : Nat → Int32} (hlt : l.stackTraces = false) (F : CallFix p m c cL_law 9 s #[Value.ref b] wsL_law RL) (hX : va_X b L xs s s.heap) (hbl : b < s.heap.size) (hxS : xS s) (hxH : xH (fun q => s.heap.size ≤ q) s s.heap) (hKc : va_K D vwCl (cT cy) s) (hKm : va_K D vwCl (mT cy2) s) (hKo : va_K D vwCl (oT co) s) (hL : L ≤ 2049) (hr : meth.sig.returnType = ret) (hlocks : meth.locks = false) (hL4 : 4 ≤ L) : ∀ (f t : Nat), L ≤ 4 * t + 4 * f → 4 * t ≤ L + 3 → ∀ (σ : CS) (μ : MS) (xo : Nat → Int64), Rel σ μ → ∀ (H : Heap) (locs : List Loc), va_P D vwCl ((cWs ad cy σ ++ oW ao co xo) ++ mWs ad2 cy2 μ) H → va_D (fun q => s.heap.size ≤ q) ((cWs ad cy σ ++ oW ao co xo) ++ mWs ad2 cy2 μ) → va_S (fun q => s.heap.size ≤ q) s.heap H locs → ∀ ls : Array Slot, lv_has ls 9 [(4, .int (nI (1 + 4 * t))), (0, .ref b), (1, .ref (ad 0)), (2, .ref (ad2 0)), (3, .ref ao)] → W p l e room_1 s m #[Value.ref b] below meth c H locs (30 + t) (600 + 6 * t) (lw_Z below #[Value.ref b] s) (F0 m 33 ls []) := by
  obtain ⟨hx, hb, hml, hown, hts⟩ := id F
  have hbA : ¬ (fun q => s.heap.size ≤ q) b := Nat.not_le.mpr hbl
  intro f
  induction f with
  | zero =>
    intro t hf ht σ μ xo hR H locs hP hD hS ls hl
    refine lv_iload hx hb dL_law_33 (lv_at hl 0 rfl) ?_
    refine lv_aload_n hx hb dL_law_35 rfl (lv_at hl 1 rfl) ?_
    refine va_slen hx hb hX hbl hbA hS dL_law_36 ?_
    refine lv_iconst (v := nI 4) hx hb dL_law_37 (by decide) ?_
    refine lv_isub hx hb dL_law_38 ?_
    refine z_topi (y := nI (L - 4)) (pk_sub hL4) ?_
    refine zb_gt (tgt := 827) hx hb dL_law_39 (by decide) (by omega) (by omega) (fun c39 => ?_) (fun c39 => ?_)
    · exact law_exit F hr hlocks hS (by omega) (by omega)
    · omega
  | succ f ih =>
    intro t hf ht σ μ xo hR H locs hP hD hS ls hl
    refine lv_iload hx hb dL_law_33 (lv_at hl 0 rfl) ?_
    refine lv_aload_n hx hb dL_law_35 rfl (lv_at hl 1 rfl) ?_
    refine va_slen hx hb hX hbl hbA hS dL_law_36 ?_
    refine lv_iconst (v := nI 4) hx hb dL_law_37 (by decide) ?_
    refine lv_isub hx hb dL_law_38 ?_
    refine z_topi (y := nI (L - 4)) (pk_sub hL4) ?_
    refine zb_gt (tgt := 827) hx hb dL_law_39 (by decide) (by omega) (by omega) (fun c39 => ?_) (fun c39 => ?_)
    · exact law_exit F hr hlocks hS (by omega) (by omega)
    · have ht9 : 1 + 4 * t + 3 < L := by omega
      have hcs : 30 + t + 1 ≤ 655552 ∧ 600 + 6 * t + 6 ≤ 7129414 := ⟨by omega, by omega⟩
      refine lv_aload_n hx hb dL_law_42 rfl (lv_at hl 1 rfl) ?_
      refine lv_iload hx hb dL_law_43 (lv_at hl 0 rfl) ?_
      refine ax_sld hx hb hX hbl hbA hS (by omega) (by omega) dL_law_45 ?_
      refine lv_bipush (v := nI 15) hx hb dL_law_46 (by decide) ?_
      refine lv_iand hx hb dL_law_48 ?_
      have tail : ∀ (σ3 : CS) (μ3 : MS) (xo3 : Nat → Int64), Rel σ3 μ3 → ∀ (H : Heap) (locs : List Loc), va_P D vwCl ((cWs ad cy σ3 ++ oW ao co xo3) ++ mWs ad2 cy2 μ3) H → va_D (fun q => s.heap.size ≤ q) ((cWs ad cy σ3 ++ oW ao co xo3) ++ mWs ad2 cy2 μ3) → va_S (fun q => s.heap.size ≤ q) s.heap H locs → ∀ ls : Array Slot, lv_has ls 9 [(4, .int (nI (1 + 4 * t))), (0, .ref b), (1, .ref (ad 0)), (2, .ref (ad2 0)), (3, .ref ao)] → W p l e room_1 s m #[Value.ref b] below meth c H locs (30 + t + 1) (600 + 6 * t + 6) (lw_Z below #[Value.ref b] s) (F0 m 821 ls []) := by
        intro σ3 μ3 xo3 hR3 H locs hP hD hS ls hl
        refine lv_iinc (v := nI (1 + 4 * (t + 1))) (lv' := [(4, .int (nI (1 + 4 * (t + 1)))), (0, .ref b), (1, .ref (ad 0)), (2, .ref (ad2 0)), (3, .ref ao)]) hx hb dL_law_821 hl (k := 0) rfl (by rw [show 1 + 4 * (t + 1) = 1 + 4 * t + 4 by omega]; exact nI_add _ 4) (by decide) rfl (fun ls hl => ?_)
        refine lv_goto (tgt := 33) hx hb dL_law_824 (by decide) ?_
        exact ih (t + 1) (by omega) (by omega) σ3 μ3 xo3 hR3 H locs hP hD hS ls hl
      obtain ⟨j, hj, ej⟩ := pk_andE (xs (1 + 4 * t)) (m := nI 15) 4 (by decide)
      refine z_topi ej ?_
      have cases16 : j = 0 ∨ j = 1 ∨ j = 2 ∨ j = 3 ∨ j = 4 ∨ j = 5 ∨ j = 6 ∨ j = 7 ∨ j = 8 ∨ j = 9 ∨ j = 10 ∨ j = 11 ∨ j = 12 ∨ j = 13 ∨ j = 14 ∨ j = 15 := by omega
      rcases cases16 with rfl | rfl | rfl | rfl | rfl | rfl | rfl | rfl | rfl | rfl | rfl | rfl | rfl | rfl | rfl | rfl
      · refine lv_tableIn (off := 71) (tgt := 120) hx hb dL_law_49 (by decide) (by decide) (by decide) (by decide) ?_
        exact lc_value hlt F hX hbl hxS hxH hKc hKm hKo hL t ht9 σ μ xo hR (30 + t) (600 + 6 * t) hcs tail H locs hP hD hS ls hl
      · refine lv_tableIn (off := 156) (tgt := 205) hx hb dL_law_49 (by decide) (by decide) (by decide) (by decide) ?_
        exact lc_touches hlt F hX hbl hxS hxH hKc hKm hKo hL t ht9 σ μ xo hR (30 + t) (600 + 6 * t) hcs tail H locs hP hD hS ls hl
      · refine lv_tableIn (off := 231) (tgt := 280) hx hb dL_law_49 (by decide) (by decide) (by decide) (by decide) ?_
        exact lc_batches hlt F hX hbl hxS hxH hKc hKm hKo hL t ht9 σ μ xo hR (30 + t) (600 + 6 * t) hcs tail H locs hP hD hS ls hl
      · refine lv_tableIn (off := 244) (tgt := 293) hx hb dL_law_49 (by decide) (by decide) (by decide) (by decide) ?_
        exact lc_batch hlt F hX hbl hxS hxH hKc hKm hKo hL t ht9 σ μ xo hR (30 + t) (600 + 6 * t) hcs tail H locs hP hD hS ls hl
      · refine lv_tableIn (off := 300) (tgt := 349) hx hb dL_law_49 (by decide) (by decide) (by decide) (by decide) ?_
        exact lc_run hlt F hX hbl hxS hxH hKc hKm hKo hL t ht9 σ μ xo hR (30 + t) (600 + 6 * t) hcs tail H locs hP hD hS ls hl
      · refine lv_tableIn (off := 400) (tgt := 449) hx hb dL_law_49 (by decide) (by decide) (by decide) (by decide) ?_
        exact lc_joined hlt F hX hbl hxS hxH hKc hKm hKo hL t ht9 σ μ xo hR (30 + t) (600 + 6 * t) hcs tail H locs hP hD hS ls hl
      · refine lv_tableIn (off := 441) (tgt := 490) hx hb dL_law_49 (by decide) (by decide) (by decide) (by decide) ?_
        exact lc_plain hlt F hX hbl hxS hxH hKc hKm hKo hL t ht9 σ μ xo hR (30 + t) (600 + 6 * t) hcs tail H locs hP hD hS ls hl
      · refine lv_tableIn (off := 482) (tgt := 531) hx hb dL_law_49 (by decide) (by decide) (by decide) (by decide) ?_
        exact lc_failAt hlt F hX hbl hxS hxH hKc hKm hKo hL t ht9 σ μ xo hR (30 + t) (600 + 6 * t) hcs tail H locs hP hD hS ls hl
      · refine lv_tableIn (off := 557) (tgt := 606) hx hb dL_law_49 (by decide) (by decide) (by decide) (by decide) ?_
        exact lc_times hlt F hX hbl hxS hxH hKc hKm hKo hL t ht9 σ μ xo hR (30 + t) (600 + 6 * t) hcs tail H locs hP hD hS ls hl
      · refine lv_tableIn (off := 613) (tgt := 662) hx hb dL_law_49 (by decide) (by decide) (by decide) (by decide) ?_
        exact lc_act hlt F hX hbl hxS hxH hKc hKm hKo hL t ht9 σ μ xo hR (30 + t) (600 + 6 * t) hcs tail H locs hP hD hS ls hl
      · refine lv_tableIn (off := 669) (tgt := 718) hx hb dL_law_49 (by decide) (by decide) (by decide) (by decide) ?_
        exact lc_work hlt F hX hbl hxS hxH hKc hKm hKo hL t ht9 σ μ xo hR (30 + t) (600 + 6 * t) hcs tail H locs hP hD hS ls hl
      · refine lv_tableIn (off := 683) (tgt := 732) hx hb dL_law_49 (by decide) (by decide) (by decide) (by decide) ?_
        exact lc_stop hlt F hX hbl hxS hxH hKc hKm hKo hL t ht9 σ μ xo hR (30 + t) (600 + 6 * t) hcs tail H locs hP hD hS ls hl
      · refine lv_tableIn (off := 746) (tgt := 795) hx hb dL_law_49 (by decide) (by decide) (by decide) (by decide) ?_
        exact lc_broken hlt F hX hbl hxS hxH hKc hKm hKo hL t ht9 σ μ xo hR (30 + t) (600 + 6 * t) hcs tail H locs hP hD hS ls hl
      · refine lv_tableIn (off := 759) (tgt := 808) hx hb dL_law_49 (by decide) (by decide) (by decide) (by decide) ?_
        exact lc_live hlt F hX hbl hxS hxH hKc hKm hKo hL t ht9 σ μ xo hR (30 + t) (600 + 6 * t) hcs tail H locs hP hD hS ls hl
      · refine lv_tableOut (tgt := 821) hx hb dL_law_49 (by decide) (by decide) ?_
        refine W.widen (k := 30 + t + 1) (n := 600 + 6 * t + 6) (by omega) (by omega) ?_
        exact tail σ μ xo hR H locs hP hD hS ls hl
      · refine lv_tableOut (tgt := 821) hx hb dL_law_49 (by decide) (by decide) ?_
        refine W.widen (k := 30 + t + 1) (n := 600 + 6 * t + 6) (by omega) (by omega) ?_
        exact tail σ μ xo hR H locs hP hD hS ls hl
