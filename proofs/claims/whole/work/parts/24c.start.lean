set_option maxHeartbeats 4000000 in
set_option maxRecDepth 100000 in
theorem whole_start {p : Program} {e : Env} {s : State} {m : MethodId} {below : List Frame} {meth : Method} {c : Code} (l : Launch) (hlt : l.stackTraces = false) {b L : Nat} {xs : Nat → Int32} (hL : L ≤ 2049) (C0 : lw_At p s m meth c b L xs) : W p l e room_1 s m #[Value.ref b] below meth c s.heap [] 0 0 (lw_Z below #[Value.ref b] s) (entryFrame m ([Value.ref b] : List Value).toArray 9) := by
  obtain ⟨hx, hb, hr, hml, hown, hts0, hX, hbl, hlocks, hgv⟩ := id C0
  have hxS := start_xS hts0 hgv
  have hxH := start_xH hts0 hgv
  have hts : ∀ w ∈ wsL_law, w.before #[Value.ref b] s = true := fun w h => hts0 w (wsL_law_in w h)
  have F : CallFix p m c cL_law 9 s #[Value.ref b] wsL_law RL := ⟨hx, hb, hml, hown, hts⟩
  have hA : ∀ q : Nat, s.heap.size ≤ q → (fun q : Nat => s.heap.size ≤ q) q := fun _ h => h
  have hbA : ¬ (fun q : Nat => s.heap.size ≤ q) b := Nat.not_le.mpr hbl
  obtain ⟨c0, iS0, hKn0⟩ := u_known (C := RX0) (T := TX0) (N := 3) (n := 3) hts inlX0 (hts0 (.instantiable RX0 3) (by decide +kernel))
  obtain ⟨c1, iS1, hKn1⟩ := u_known (C := RX1) (T := TX1) (N := 2) (n := 2) hts inlX1 (hts0 (.instantiable RX1 2) (by decide +kernel))
  obtain ⟨c2, iS2, hKn2⟩ := u_known (C := RX2) (T := TX2) (N := 13) (n := 13) hts inlX2 (hts0 (.instantiable RX2 13) (by decide +kernel))
  obtain ⟨c3, iS3, hKn3⟩ := u_known (C := RX3) (T := TX3) (N := 14) (n := 14) hts inlX3 (hts0 (.instantiable RX3 14) (by decide +kernel))
  obtain ⟨dC, dI, hKc⟩ : ∃ (dC : Nat → ClassId) (dI : Nat → Nat → Nat), ∀ (k : Nat) (q : vw_C), vwCl[k]? = some q → u_Kn s q.1 q.2.1 q.2.2 (dC k) (dI k) := by
    refine ⟨fun k => if k = 0 then c0 else if k = 1 then c1 else if k = 2 then c2 else c3, fun k => if k = 0 then iS0 else if k = 1 then iS1 else if k = 2 then iS2 else iS3, ?_⟩
    intro k q hq
    match k, hq with
    | 0, hq => cases hq; exact hKn0
    | 1, hq => cases hq; exact hKn1
    | 2, hq => cases hq; exact hKn2
    | 3, hq => cases hq; exact hKn3
    | k + 4, hq => simp [vwCl] at hq
  have hS : va_S (fun q : Nat => s.heap.size ≤ q) s.heap s.heap [] := va_S.rf
  have hK : va_K (dC, dI) vwCl [] s := ⟨hKc, fun k q h => by simp at h⟩
  have hP : va_P (dC, dI) vwCl [] s.heap := fun k q h => by simp at h
  have hD : va_D (fun q : Nat => s.heap.size ≤ q) [] := ⟨fun i j p q h => by simp at h, fun k q h => by simp at h⟩
  clear hKc hKn0 hKn1 hKn2 hKn3
  have hl := lv_entry ([.ref b]) (n := 9) (Nat.le_of_ble_eq_true rfl)
  rw [lg_entry_eq]
  generalize (lg_sl ([.ref b]) ++ List.replicate (9 - (lg_sl ([.ref b])).length) Slot.unset).toArray = ls at hl ⊢
  have hl : lv_has ls 9 [(0, .ref b)] := hl
  obtain ⟨x0, ex0⟩ : ∃ x0 : Int32, (if 0 < L then xs 0 else 0) = x0 := ⟨_, rfl⟩
  have hn := clN_le x0
  refine va_new (ci := 2) (fs := [.int 0, .null, .null, .null, .null, .null, .null, .int 0, .null, .null, .null, .long 0, .double 0]) (C := RX2) (T := TX2) (N := 13) hx hb hts inlX2 tyX2 tyX2_ok hown (hts (.classLink RL 8 RX2) (by decide +kernel)) (hts (.instantiable RX2 13) (by decide +kernel)) (hts (.initialized RX2) (by decide +kernel)) hK hP hD hS hA rfl (fun j hj => by rcases (show j = 0 ∨ j = 1 ∨ j = 2 ∨ j = 3 ∨ j = 4 ∨ j = 5 ∨ j = 6 ∨ j = 7 ∨ j = 8 ∨ j = 9 ∨ j = 10 ∨ j = 11 ∨ j = 12 by omega) with rfl | rfl | rfl | rfl | rfl | rfl | rfl | rfl | rfl | rfl | rfl | rfl | rfl <;> rfl) (Nat.le_of_ble_eq_true rfl) (Nat.le_of_ble_eq_true rfl) dL_law_0 (fun q0 H hP hD hS => ?_)
  have hP : va_P (dC, dI) vwCl [(q0, .inr (2, [.int 0, .null, .null, .null, .null, .null, .null, .int 0, .null, .null, .null, .long 0, .double 0]))] H := hP
  have hD : va_D (fun q : Nat => s.heap.size ≤ q) [(q0, .inr (2, [.int 0, .null, .null, .null, .null, .null, .null, .int 0, .null, .null, .null, .long 0, .double 0]))] := hD
  refine W.widen (k := 1) (n := 13) (by omega) (by omega) ?_
  refine lv_dup hx hb dL_law_3 rfl ?_
  refine lv_aload_n hx hb dL_law_4 rfl (lv_at hl 0 rfl) ?_
  refine lv_iconst (v := nI 0) hx hb dL_law_5 (by decide) ?_
  refine zcell F hX hbl hL hP hD hS hl.1 (Nat.le_of_ble_eq_true rfl) dL_law_6 ⟨by omega, by omega⟩ (fun H locs hP hD hS => ?_)
  rw [ex0]
  refine zciE (S := (Nat → Nat) × (Nat → ClassId)) [] [(q0, .inr (2, [.int 0, .null, .null, .null, .null, .null, .null, .int 0, .null, .null, .null, .long 0, .double 0]))] (As := [.int x0]) (rest := [.ref q0]) F (kX2_init l (dC, dI) H.size q0 (clN x0) x0 rfl) (cwI 1 hts gL_law_X2_init rfl rfl rfl (hts (.initialized RX2) (by decide +kernel)) (hts (.methodLink RL 48 yX2_init) (by decide +kernel)) (hts (.instanceMethod yX2_init) (by decide +kernel)) rfl (by decide +kernel) ⟨Nat.le_of_ble_eq_true rfl, Nat.le_of_ble_eq_true rfl⟩) hK hP hD hS hA rfl hl.1 rfl (Nat.le_of_ble_eq_true rfl) dL_law_9 ⟨Nat.le_of_ble_eq_true rfl, Nat.le_of_ble_eq_true rfl⟩ (fun u H locs hKc hP hD hS => ?_)
  have hKc : va_K (dC, dI) vwCl (cT u.2) s := hKc
  have hP : va_P (dC, dI) vwCl (cWs (zA q0 u.1) u.2 (σ0 (clN x0))) H := hP
  have hD : va_D (fun q : Nat => s.heap.size ≤ q) (cWs (zA q0 u.1) u.2 (σ0 (clN x0))) := hD
  refine W.widen (k := 11) (n := 308) (by omega) (by omega) ?_
  refine lv_astore_n (lv' := [(1, .ref q0), (0, .ref b)]) hx hb dL_law_12 rfl hl (by decide) rfl (fun ls hl => ?_)
  refine va_new (ci := 3) (fs := [.int 0, .int 0, .null, .null, .null, .null, .null, .int 0, .null, .null, .int 0, .int 0, .long 0, .long 0]) (C := RX3) (T := TX3) (N := 14) hx hb hts inlX3 tyX3 tyX3_ok hown (hts (.classLink RL 51 RX3) (by decide +kernel)) (hts (.instantiable RX3 14) (by decide +kernel)) (hts (.initialized RX3) (by decide +kernel)) hK hP hD hS hA rfl (fun j hj => by rcases (show j = 0 ∨ j = 1 ∨ j = 2 ∨ j = 3 ∨ j = 4 ∨ j = 5 ∨ j = 6 ∨ j = 7 ∨ j = 8 ∨ j = 9 ∨ j = 10 ∨ j = 11 ∨ j = 12 ∨ j = 13 by omega) with rfl | rfl | rfl | rfl | rfl | rfl | rfl | rfl | rfl | rfl | rfl | rfl | rfl | rfl <;> rfl) (Nat.le_of_ble_eq_true rfl) (Nat.le_of_ble_eq_true rfl) dL_law_13 (fun q1 H hP hD hS => ?_)
  refine W.widen (k := 12) (n := 322) (by omega) (by omega) ?_
  refine lv_dup hx hb dL_law_16 rfl ?_
  refine lv_aload_n hx hb dL_law_17 rfl (lv_at hl 1 rfl) ?_
  refine lv_iconst (v := nI 0) hx hb dL_law_18 (by decide) ?_
  refine zcell F hX hbl hL hP hD hS hl.1 (Nat.le_of_ble_eq_true rfl) dL_law_19 ⟨by omega, by omega⟩ (fun H locs hP hD hS => ?_)
  rw [ex0]
  refine zciE (S := (Nat → Nat) × (Nat → ClassId)) (cWs (zA q0 u.1) u.2 (σ0 (clN x0))) [(q1, .inr (3, [.int 0, .int 0, .null, .null, .null, .null, .null, .int 0, .null, .null, .int 0, .int 0, .long 0, .long 0]))] (As := [.int x0]) (rest := [.ref q1]) F (kX3_init l (dC, dI) H.size q1 (clN x0) x0 rfl) (cwI 1 hts gL_law_X3_init rfl rfl rfl (hts (.initialized RX3) (by decide +kernel)) (hts (.methodLink RL 53 yX3_init) (by decide +kernel)) (hts (.instanceMethod yX3_init) (by decide +kernel)) rfl (by decide +kernel) ⟨Nat.le_of_ble_eq_true rfl, Nat.le_of_ble_eq_true rfl⟩) hK hP hD hS hA rfl hl.1 rfl (Nat.le_of_ble_eq_true rfl) dL_law_22 ⟨Nat.le_of_ble_eq_true rfl, Nat.le_of_ble_eq_true rfl⟩ (fun v H locs hKm hP hD hS => ?_)
  have hKm : va_K (dC, dI) vwCl (mT v.2) s := hKm
  have hP : va_P (dC, dI) vwCl (cWs (zA q0 u.1) u.2 (σ0 (clN x0)) ++ mWs (zA q1 v.1) v.2 (μ0 (clN x0))) H := hP
  have hD : va_D (fun q : Nat => s.heap.size ≤ q) (cWs (zA q0 u.1) u.2 (σ0 (clN x0)) ++ mWs (zA q1 v.1) v.2 (μ0 (clN x0))) := hD
  refine W.widen (k := 19) (n := 558) (by omega) (by omega) ?_
  refine lv_astore_n (lv' := [(2, .ref q1), (1, .ref q0), (0, .ref b)]) hx hb dL_law_25 rfl hl (by decide) rfl (fun ls hl => ?_)
  refine lv_iconst (v := nI 1) hx hb dL_law_26 (by decide) ?_
  refine va_newa (atype := .long) (n := nI 1) (N' := 1) (ty := .long) (a0 := (1, .inr (.inl (fun _ => 0)))) hx hb (hts (.arrayClass .long) (by decide +kernel)) rfl hK hP hD hS hA (fun _ => rfl) (by decide) (by decide) (by decide) (Nat.le_of_ble_eq_true rfl) (Nat.le_of_ble_eq_true rfl) dL_law_27 (fun ao co H hKo hP hD hS => ?_)
  have hKo : va_K (dC, dI) vwCl (oT co) s := hKo
  have hP9 : va_P (dC, dI) vwCl ((cWs (zA q0 u.1) u.2 (σ0 (clN x0)) ++ oW ao co (fun _ => 0)) ++ mWs (zA q1 v.1) v.2 (μ0 (clN x0))) H := hP.sub [0, 1, 2, 3, 4, 5, 6, 7, 8, 9, 10, 19, 11, 12, 13, 14, 15, 16, 17, 18] rfl
  have hD9 : va_D (fun q : Nat => s.heap.size ≤ q) ((cWs (zA q0 u.1) u.2 (σ0 (clN x0)) ++ oW ao co (fun _ => 0)) ++ mWs (zA q1 v.1) v.2 (μ0 (clN x0))) := hD.sub [0, 1, 2, 3, 4, 5, 6, 7, 8, 9, 10, 19, 11, 12, 13, 14, 15, 16, 17, 18] (by decide) rfl
  refine lv_astore_n (lv' := [(3, .ref ao), (2, .ref q1), (1, .ref q0), (0, .ref b)]) hx hb dL_law_29 rfl hl (by decide) rfl (fun ls hl => ?_)
  refine lv_iconst (v := nI 1) hx hb dL_law_30 (by decide) ?_
  refine lv_istore (lv' := [(4, .int (nI 1)), (3, .ref ao), (2, .ref q1), (1, .ref q0), (0, .ref b)]) hx hb dL_law_31 hl (by decide) rfl (fun ls hl => ?_)
  refine W.widen (k := 30 + 0) (n := 600 + 6 * 0) (by omega) (by omega) ?_
  by_cases hL4 : 4 ≤ L
  · exact law_loop hlt F hX hbl hxS hxH hKc hKm hKo hL hr hlocks hL4 L 0 (by omega) (by omega) (σ0 (clN x0)) (μ0 (clN x0)) (fun _ => 0) (rel_0 hn.1 hn.2) H locs hP9 hD9 hS ls (lv_sub hl [0, 4, 3, 2, 1] rfl)
  · refine lv_iload hx hb dL_law_33 (lv_at hl 0 rfl) ?_
    refine lv_aload_n hx hb dL_law_35 rfl (lv_at hl 4 rfl) ?_
    refine va_slen hx hb hX hbl hbA hS dL_law_36 ?_
    refine lv_iconst (v := nI 4) hx hb dL_law_37 (by decide) ?_
    refine lv_isub hx hb dL_law_38 ?_
    refine lv_icmp_gt (tgt := 827) hx hb dL_law_39 (by decide) (fun c39 => ?_) (fun c39 => ?_)
    · exact law_exit F hr hlocks hS (by omega) (by omega)
    · refine absurd ?_ c39
      rcases (show L = 0 ∨ L = 1 ∨ L = 2 ∨ L = 3 by omega) with rfl | rfl | rfl | rfl <;> decide
