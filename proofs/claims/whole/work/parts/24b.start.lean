/-! the law's start -/
theorem kL_cell (l : Launch) (b L : Nat) (xs : Nat → Int32) (hL : L ≤ 2049) : Met l yL_cell wsL_cell ({ frames := 0, cells := 0, slots := 0, locals := 0 }) (va_Pc [.ref b, .int (nI 0)] (fun U => va_X b L xs U U.heap ∧ b < U.heap.size)) (va_Qi (fun r (_ : Unit) => r = (if 0 < L then xs 0 else 0)) (fun _ _ => True) (fun _ => False)) 0 0 (fun _ => False) := by
  refine Met.ofW (cc := cL_cell) (maxL := 2) (ret := some .int) (by decide) rfl ?_
  intro p e s m args below meth c s₁ B hml hv
  obtain ⟨rfl, hX, hbl⟩ := hv
  rw [lg_entry_eq]
  have hx := B.exec
  have hb := B.bytes
  have hS : va_S (fun _ => False) s.heap s.heap [] := va_S.rf
  have hbA : ¬ (fun _ : Nat => False) b := fun h => h
  have body : ∀ ls : Array Slot, lv_has ls 2 [(0, .ref b), (1, .int (nI 0))] → W p l e ({ frames := 0, cells := 0, slots := 0, locals := 0 }) s m ([Value.ref b, Value.int (nI 0)] : List Value).toArray below meth c s.heap [] 0 0 (MQ below (va_Qi (fun r (_ : Unit) => r = (if 0 < L then xs 0 else 0)) (fun _ _ => True) (fun _ => False)) ([Value.ref b, Value.int (nI 0)] : List Value).toArray s 0 0 (fun _ => False)) (F0 m 0 ls []) := by
    intro ls hl
    refine lv_iload_n hx hb dL_cell_0 rfl (lv_at hl 1 rfl) ?_
    refine lv_aload_n hx hb dL_cell_1 rfl (lv_at hl 0 rfl) ?_
    refine va_slen hx hb hX hbl hbA hS dL_cell_2 ?_
    refine zb_ge (a := 0) (b := L) (tgt := 12) hx hb dL_cell_3 (by decide) (by omega) (by omega) (fun c3 => ?_) (fun c3 => ?_)
    · refine lv_iconst (v := 0) hx hb dL_cell_12 (by decide) ?_
      exact W.iret (v := 0) hx hb B.returns (fun t ht hW => ⟨⟨0, (), rfl, (if_neg (by omega)).symm, trivial⟩, hS.F ht⟩) hS.2.2 dL_cell_13 B.notSynchronized
    · refine lv_aload_n hx hb dL_cell_6 rfl (lv_at hl 0 rfl) ?_
      refine lv_iload_n hx hb dL_cell_7 rfl (lv_at hl 1 rfl) ?_
      refine ax_sld hx hb hX hbl hbA hS (by omega) (by omega) dL_cell_8 ?_
      refine lv_goto (tgt := 13) hx hb dL_cell_9 (by decide) ?_
      exact W.iret (v := xs 0) hx hb B.returns (fun t ht hW => ⟨⟨xs 0, (), rfl, (if_pos (by omega)).symm, trivial⟩, hS.F ht⟩) hS.2.2 dL_cell_13 B.notSynchronized
  exact body _ (lv_entry _ (Nat.le_of_ble_eq_true rfl))
theorem zcell {p : Program} {l : Launch} {e : Env} {s : State} {m : MethodId} {below : List Frame} {meth : Method} {c : Code} {Q : State → Prop} {D : va_G} {b L : Nat} {xs : Nat → Int32} {H : Heap} {locs : List Loc} {cells slots pc : Nat} {ls : Array Slot} {rest : List Value} {ws : va_W} (F : CallFix p m c cL_law 9 s #[Value.ref b] wsL_law RL) (hX : va_X b L xs s s.heap) (hbl : b < s.heap.size) (hL : L ≤ 2049) (hP : va_P D vwCl ws H) (hD : va_D (fun q => s.heap.size ≤ q) ws) (hS : va_S (fun q => s.heap.size ≤ q) s.heap H locs) (hsz : ls.size = 9) (hW : (rest.map fun v => v.category).sum ≤ 8) (hdg : decode cL_law pc = .ok (.invokestatic 42, 3)) (hf : cells ≤ 655552 ∧ slots ≤ 7129414)
    (kk : ∀ (H1 : Heap) (locs1 : List Loc), va_P D vwCl ws H1 → va_D (fun q => s.heap.size ≤ q) ws → va_S (fun q => s.heap.size ≤ q) s.heap H1 locs1 → W p l e room_1 s m #[Value.ref b] below meth c H1 locs1 cells slots Q (F0 m (pc + 3) ls (.int (if 0 < L then xs 0 else 0) :: rest))) : W p l e room_1 s m #[Value.ref b] below meth c H locs cells slots Q (F0 m pc ls (.int (nI 0) :: .ref b :: rest)) := by
  have hbA : ¬ (fun q => s.heap.size ≤ q) b := Nat.not_le.mpr hbl
  refine va_calli (mc := 0) (ms := 0) (va_runS (As := [.ref b, .int (nI 0)]) (rest := rest) F (kL_cell l b L xs hL) (va_cwS 2 F.2.2.2.2 gL_law_L_cell rfl rfl rfl (by decide +kernel) ⟨Nat.le_of_ble_eq_true rfl, Nat.le_of_ble_eq_true rfl⟩) ⟨fun a U g mk q => ⟨q.1, va_X.moved (u := U) (U := U.calling g mk a) (Vm.Alike.refl U.vm) q.2.1, q.2.2⟩, fun U hU hW => ⟨rfl, by rw [hU]; exact va_X.moved hW.alike (hX.kept (hS.2.1 b hbl hbA)), by rw [hU]; exact Nat.lt_of_lt_of_le hbl hS.1⟩⟩ rfl rfl hsz rfl (lv_room hW) hdg hf) hS (fun q _ h => h.elim) (fun q h => h.elim) (fun r9 u t H1 locs1 ht hvm hw hB hz1 hk1 hS1 => ?_)
  subst hw
  obtain ⟨hP2, hD2⟩ := zjoin_l (a := []) (a' := []) (b := ws) hP hD (zfree (ws := []) ⟨fun i j p q h => by simp at h, fun k q h => by simp at h⟩ hS (fun _ h => h)) (fun q h _ => hk1 q h (fun f => f)) (fun k q h => by simp at h) ⟨fun i j p q h => by simp at h, fun k q h => by simp at h⟩
  exact kk H1 locs1 hP2 hD2 hS1
theorem mFb_0 : ∀ i, (mFb (fun _ => 0) (fun _ => 0) i).1 = (fun _ => 0) ∧ (mFb (fun _ => 0) (fun _ => 0) i).2 = (if i = 0 then 0 else 1) := by
  intro i
  induction i with
  | zero => exact ⟨rfl, rfl⟩
  | succ i ih =>
    have e : mLowF (mFb (fun _ => 0) (fun _ => 0) i).1 (fun _ => 0) i i 0 = 0 := by
      cases i with
      | zero => rfl
      | succ i => rw [mLowF, if_pos Int32.and_zero]
    have g1 : (mFb (fun _ => 0) (fun _ => 0) (i + 1)).1 = upd (mFb (fun _ => 0) (fun _ => 0) i).1 i (nI (mLowF (mFb (fun _ => 0) (fun _ => 0) i).1 (fun _ => 0) i i 0)) := rfl
    have g2 : (mFb (fun _ => 0) (fun _ => 0) (i + 1)).2 = (if mLowF (mFb (fun _ => 0) (fun _ => 0) i).1 (fun _ => 0) i i 0 + 1 ≤ (mFb (fun _ => 0) (fun _ => 0) i).2 then (mFb (fun _ => 0) (fun _ => 0) i).2 else mLowF (mFb (fun _ => 0) (fun _ => 0) i).1 (fun _ => 0) i i 0 + 1) := rfl
    rw [g1, g2, e, ih.1, ih.2]
    constructor
    · funext j
      unfold upd
      by_cases q : j = i
      · rw [if_pos q]; rfl
      · rw [if_neg q]
    · by_cases q : i = 0
      · rw [if_pos q, if_neg (by omega), if_neg (by omega)]
      · rw [if_neg q, if_pos (by omega), if_neg (by omega)]
abbrev σ0 (n : Nat) : CS := (n, fun _ => 0, fun _ => 0, fun _ => 0, fun _ => 0, fun _ => 0, fun _ => 0, 1, 0, 0, 0, fun _ => 0, 0, fun _ => 0, 0, Dz 0)
abbrev μ0 (n : Nat) : MS := (0, n, fun _ => 0, fun _ => 0, fun _ => 0, fun _ => 0, fun _ => 0, 0, fun _ => 0, fun _ => 0, 0, 0, 0, 0)
theorem dz_00 : (0 : UInt64) = Dz (8 * (0 : Int64).toInt) := by decide +kernel
theorem rel_0 {n : Nat} (h1 : 1 ≤ n) (hn : n ≤ 40) : Rel (σ0 n) (μ0 n) := by
  obtain ⟨e1, e2⟩ := mFb_0 n
  refine rel_mk h1 hn (fun k _ => ⟨dz_00, by decide⟩) (fun _ _ => rfl) (fun _ _ => rfl) (fun k _ => by rw [e1]) (by rw [e2, if_neg (by omega)]) (fun k w9 _ _ => ?_) ⟨rfl, by omega, fun k hk => absurd hk (Nat.not_lt_zero k), fun r _ => rfl⟩ (fun _ _ => rfl) rfl ⟨rfl, by decide⟩ (by decide) (by decide)
  rw [l_0]; exact BitVec.getLsbD_zero
theorem start_xS {s : State} {b : Nat} (hts : ∀ w ∈ lw_tbl, w.before #[Value.ref b] s = true) (hgv : (Jvm.Cond.and given_1 narrow_1).before #[Value.ref b] s = true) : xS s := by
  have hs := flat_of_before _ hgv
  have hst : ∀ k, (Cond.exactly (.string RX2 k) "java/lang/String").before #[Value.ref b] s = true → ∃ a, (Term.string RX2 k).eval #[Value.ref b] s none [] s = some (.ref a) := fun k h => by
    obtain ⟨a, c, cA, kA, q1, -⟩ := Cond.exactly_spec (args := #[Value.ref b]) (first := s) (o := none) (s := s) (idx := []) (t := .string RX2 k) (cls := "java/lang/String") h
    exact ⟨a, q1⟩
  obtain ⟨a1, e1⟩ := hst 141 (hs _ (by decide +kernel))
  obtain ⟨a2, e2⟩ := hst 81 (hs _ (by decide +kernel))
  obtain ⟨a3, e3⟩ := hst 90 (hs _ (by decide +kernel))
  obtain ⟨a4, e4⟩ := hst 96 (hs _ (by decide +kernel))
  obtain ⟨a5, e5⟩ := hst 124 (hs _ (by decide +kernel))
  obtain ⟨a6, e6⟩ := hst 130 (hs _ (by decide +kernel))
  refine ⟨⟨⟨va_Nw.of rfl (hts (.castable eIO eIO) (by decide +kernel)), va_Nw.of rfl (hts (.castable eIA eIA) (by decide +kernel)), va_Nc.of (hs (.not (.castable eIA eIO)) (by decide +kernel))⟩, va_Nw.of rfl (hts eD1 (by decide +kernel)), va_Nw.of rfl (hts eD2 (by decide +kernel)), va_Nw.of rfl (hts eD3 (by decide +kernel))⟩, fun k => if k = 141 then a1 else if k = 81 then a2 else if k = 90 then a3 else if k = 96 then a4 else if k = 124 then a5 else a6, ?_, ?_, ?_, ?_, ?_, ?_⟩
  · exact vk_R.of (hts (.stringRef RX2 141 "no such share") (by decide +kernel)) e1
  · exact vk_R.of (hts (.stringRef RX2 81 "a value is -1000.0 to 1000.0") (by decide +kernel)) e2
  · exact vk_R.of (hts (.stringRef RX2 90 "no such region") (by decide +kernel)) e3
  · exact vk_R.of (hts (.stringRef RX2 96 "workers are 1 to 16") (by decide +kernel)) e4
  · exact vk_R.of (hts (.stringRef RX2 124 "no such worker") (by decide +kernel)) e5
  · exact vk_R.of (hts (.stringRef RX2 130 "a rank is 0 to 9") (by decide +kernel)) e6
theorem start_xH {s : State} {b : Nat} (hts : ∀ w ∈ lw_tbl, w.before #[Value.ref b] s = true) (hgv : (Jvm.Cond.and given_1 narrow_1).before #[Value.ref b] s = true) : xH (fun q => s.heap.size ≤ q) s s.heap := by
  have hs := flat_of_before _ hgv
  exact ⟨vx_Zqof (hts (.laysStatic Bundle.tN "UNASSIGNED_STACK" Bundle.steD) (by decide +kernel)) (hts (.initialized Bundle.tN) (by decide +kernel)) (hs (.isRef (.static Bundle.tN "UNASSIGNED_STACK" Bundle.steD)) (by decide +kernel)) (fun a h h2 => absurd h (Nat.not_lt.mpr h2)), vx_Zqof (hts (.laysStatic Bundle.tN "SUPPRESSED_SENTINEL" Bundle.listD) (by decide +kernel)) (hts (.initialized Bundle.tN) (by decide +kernel)) (hs (.isRef (.static Bundle.tN "SUPPRESSED_SENTINEL" Bundle.listD)) (by decide +kernel)) (fun a h h2 => absurd h (Nat.not_lt.mpr h2))⟩
