/-! an operation at related states: both answer alike and stay related -/
theorem rel_mk {n : Nat} {V : Nat → UInt64} {Z R K B M : Nat → Int32} {bc : Nat} {G L : Int32} {S : Int64} {q : Nat → Int32} {w : Int32} {U : Nat → Int32} {wk : Int64} {jo : UInt64} {th : Int32} {E : Nat → Int64} {R2 Z2 B2 : Nat → Int32} {BR : Nat → Int64} {wt : Nat} {rk U2 : Nat → Int32} {br lc : Int32} {jo2 wk2 : Int64} (h1 : 1 ≤ n) (hn : n ≤ 40)
    (hE : ∀ k, k < n → V k = Dz (8 * (E k).toInt) ∧ (E k).toInt.natAbs ≤ 8000) (hZ : ∀ k, k < n → Z k = Z2 k) (hRR : ∀ k, k < n → R k = R2 k) (hB : ∀ k, k < n → B k = (mFb R2 (fun _ => 0) n).1 k) (hbc : bc = (mFb R2 (fun _ => 0) n).2) (hK : ∀ k w9, k < n → w9 < 16 → bt (K k) w9 = bl (BR w9) k)
    (hw : w = nI wt ∧ wt ≤ 20 ∧ (∀ k, k < wt → ∃ r, r < 10 ∧ rk k = nI r) ∧ ∀ r, r < 10 → q r = nI (cntR rk (nI r) wt)) (hU : ∀ k, k < n → U k = U2 k) (hwk : wk = wk2) (hj : jo = Dz jo2.toInt ∧ jo2.toInt.natAbs ≤ 2600000000) (hlc : lc = pBC L) (hbr : br = G - pBC L) :
    Rel (n, V, Z, R, K, B, M, bc, G, L, S, q, w, U, wk, jo) (th, n, E, R2, Z2, B2, BR, wt, rk, U2, br, lc, jo2, wk2) :=
  ⟨⟨rfl, h1, hn⟩, hE, hZ, hRR, hB, hbc, hK, hw, hU, hwk, hj, hlc, hbr⟩
theorem ix_or (x : Int32) {n : Nat} (hn : n < 2 ^ 31) : (x < 0 ∨ nI n ≤ x) ∨ ∃ k, k < n ∧ x = nI k := by
  rcases pk_ix x hn with h | h | h
  · exact Or.inl (Or.inl h)
  · exact Or.inl (Or.inr h)
  · exact Or.inr h
theorem up_cg {α : Type} {f g : Nat → α} {n k : Nat} {x : α} (h : ∀ j, j < n → f j = g j) : ∀ j, j < n → (if j = k then x else f j) = (if j = k then x else g j) := by
  intro j hj
  by_cases q : j = k
  · rw [if_pos q, if_pos q]
  · rw [if_neg q, if_neg q]; exact h j hj
theorem cnt_up {rk : Nat → Int32} {wt r : Nat} (r' : Int32) : cntR (upd rk wt (nI r)) r' (wt + 1) = cntR rk r' wt + (if nI r = r' then 1 else 0) := by
  rw [cntR, upd_at, cnt_cg (rk := upd rk wt (nI r)) (rk' := rk) wt (fun k hk => if_neg (by omega))]
theorem brk_or {K : Nat → Int32} {BR : Nat → Int64} {n g k : Nat} (hn : n ≤ 40) (hg : g < 16) (hk : k < n) (hK : ∀ k w9, k < n → w9 < 16 → bt (K k) w9 = bl (BR w9) k) : ∀ k' w9, k' < n → w9 < 16 → bt (upd K k (K k ||| pBit (nI g)) k') w9 = bl (vp_updL BR g (BR g ||| ((1 : Int64) <<< ((nI k).toInt64 &&& 63))) w9) k' := by
  intro k' w9 h1 h2
  unfold upd vp_updL
  by_cases q : k' = k
  · rw [if_pos q, q_or (K k) (by omega)]
    by_cases q2 : w9 = g
    · rw [if_pos q2, l_or (BR g) (by omega), decide_eq_true q, decide_eq_true q2, Bool.or_true, Bool.or_true]
    · rw [if_neg q2, decide_eq_false q2, Bool.or_false, q]; exact hK k w9 hk h2
  · rw [if_neg q]
    by_cases q2 : w9 = g
    · rw [if_pos q2, l_or (BR g) (by omega), decide_eq_false q, Bool.or_false, q2]; exact hK k' g h1 hg
    · rw [if_neg q2]; exact hK k' w9 h1 h2
theorem brk_same {K : Nat → Int32} {BR : Nat → Int64} {n g k : Nat} (hg : g < 16) (hb9 : bt (K k) g = true) (hK : ∀ k w9, k < n → w9 < 16 → bt (K k) w9 = bl (BR w9) k) : ∀ k' w9, k' < n → w9 < 16 → bt (upd K k (K k ||| pBit (nI g)) k') w9 = bl (BR w9) k' := by
  intro k' w9 h1 h2
  rw [← hK k' w9 h1 h2]
  unfold upd
  by_cases q : k' = k
  · rw [if_pos q, q_or (K k) (by omega), q]
    by_cases q2 : w9 = g
    · rw [q2, hb9]; rfl
    · rw [decide_eq_false q2, Bool.or_false]
  · rw [if_neg q]
theorem b9_cases (b : Bool) : b = true ∨ b = false := by cases b with
  | true => exact Or.inl rfl
  | false => exact Or.inr rfl

theorem op_value (l : Launch) (hlt : l.stackTraces = false) (D : va_G) (ad : Nat → Nat) (cy : Nat → ClassId) (ao : Nat) (co : ClassId) (ad2 : Nat → Nat) (cy2 : Nat → ClassId) (σ : CS) (μ : MS) (xo : Nat → Int64) (a1 a2 a3 : Int32) (hR : Rel σ μ) : ∃ (σ2 : CS) (μ2 : MS) (xo2 : Nat → Int64) (k bb : Int32), Rel σ2 μ2 ∧ (∀ sz, mH l yL_value wsL_value ({ frames := 9, cells := 1, slots := 6, locals := 200 }) [.ref (ad 0), .int a1, .double (Dz (8 * a2.toInt)), .ref ao] D (cT cy ++ oT co) (cWs ad cy σ ++ oW ao co xo) sz k (cWs ad cy σ2 ++ oW ao co xo2)) ∧ (∀ sz, mI l yX3_value wsX3_value ({ frames := 1, cells := 0, slots := 0, locals := 40 }) [.ref (ad2 0), .int a1, .double (Dz (8 * a2.toInt))] D (mT cy2) (mWs ad2 cy2 μ) sz bb (mWs ad2 cy2 μ2) 0 0) ∧ μ2.1 = k ∧ (k = 0 → xo2 0 = (if bb = 0 then 0 else 1 : Int64)) := by
  obtain ⟨n0, V, Z, R, K, B, M, bc, G, L, S, q, w, U, wk, jo⟩ := σ
  obtain ⟨th, n, E, R2, Z2, B2, BR, wt, rk, U2, br, lc, jo2, wk2⟩ := μ
  obtain ⟨⟨hn2, h1, hn⟩, hE, hZ, hRR, hB, hbc, hK, hw, hU, hwk, hj, hlc, hbr⟩ := hR
  subst hn2
  rcases ix_or a1 (n := n) (by omega) with hxo | ⟨k, hk, rfl⟩
  ·
    refine ⟨(n, V, Z, R, K, B, M, bc, G, L, S, q, w, U, wk, jo), (1, n, E, R2, Z2, B2, BR, wt, rk, U2, br, lc, jo2, wk2), xo, 1, 0, (rel_mk h1 hn hE hZ hRR hB hbc hK hw hU hwk hj hlc hbr), fun sz => ?_, fun sz => ?_, rfl, fun e => absurd e (by decide)⟩
    · exact xL_value1 l D ad cy ao co sz _ _ _ _ _ _ _ _ _ _ _ _ _ _ _ _ xo _ _ (fun sz => xX2_valueX l hlt D ad cy sz _ _ _ _ _ _ _ _ _ _ _ _ _ _ _ _ _ _ hxo)
    · exact kX3_valueX l D ad2 cy2 sz _ _ _ _ _ _ _ _ _ _ _ _ _ _ _ _ hxo
  · by_cases hx9 : a2.toInt < -8000 ∨ 8000 < a2.toInt
    ·
      refine ⟨(n, V, Z, R, K, B, M, bc, G, L, S, q, w, U, wk, jo), (2, n, E, R2, Z2, B2, BR, wt, rk, U2, br, lc, jo2, wk2), xo, 2, 0, (rel_mk h1 hn hE hZ hRR hB hbc hK hw hU hwk hj hlc hbr), fun sz => ?_, fun sz => ?_, rfl, fun e => absurd e (by decide)⟩
      · exact xL_value2 l D ad cy ao co sz _ _ _ _ _ _ _ _ _ _ _ _ _ _ _ _ xo _ _ (fun sz => xX2_value2 l hlt D ad cy sz _ _ _ _ _ _ _ _ _ _ _ _ _ _ _ _ _ _ hx9 hk hn)
      · exact kX3_value2 l D ad2 cy2 sz _ _ _ _ _ _ _ _ _ _ _ _ _ _ _ _ hx9 hk hn
    · have g1 : -8000 ≤ a2.toInt := by omega
      have g2 : a2.toInt ≤ 8000 := by omega
      have hE9 : ∀ j, j < n → vf_upd V k (Dz (8 * a2.toInt)) j = Dz (8 * (vp_updL E k a2.toInt64 j).toInt) ∧ (vp_updL E k a2.toInt64 j).toInt.natAbs ≤ 8000 := by
        intro j hj9
        unfold vf_upd vp_updL
        by_cases q9 : j = k
        · rw [if_pos q9, if_pos q9, Int32.toInt_toInt64]; exact ⟨rfl, by omega⟩
        · rw [if_neg q9, if_neg q9]; exact hE j hj9
      by_cases hv : (E k).toInt = a2.toInt
      · have hv2 : E k = a2.toInt64 := Int64.toInt_inj.mp (by rw [Int32.toInt_toInt64]; exact hv)
        refine ⟨(n, vf_upd V k (Dz (8 * a2.toInt)), Z, R, K, B, M, bc, G, L, S, q, w, U, wk, jo), (0, n, vp_updL E k a2.toInt64, R2, Z2, B2, BR, wt, rk, U2, br, lc, jo2, wk2), vp_updL xo 0 (if 0 = 0 then 0 else 1 : Int64), 0, 0, (rel_mk h1 hn hE9 hZ hRR hB hbc hK hw hU hwk hj hlc hbr), fun sz => ?_, fun sz => ?_, rfl, fun _ => if_pos rfl⟩
        · exact kL_value l D ad cy ao co sz _ _ _ _ _ _ _ _ _ _ _ _ _ _ _ _ xo _ _ _ _ _ _ _ _ _ _ _ _ _ _ _ _ _ _ 0 _ ⟨rfl, rfl, by decide, by decide⟩ (fun sz => kX2_value0 l D ad cy sz _ _ _ _ _ _ _ _ _ _ _ _ _ _ _ _ k a2 (fun j => (E j).toInt) hE hv g1 g2 hk hn)
        · exact kX3_value0 l D ad2 cy2 sz _ _ _ _ _ _ _ _ _ _ _ _ _ _ k a2 hv2 g1 g2 hk hn
      · have hv2 : ¬ E k = a2.toInt64 := fun e => hv (by rw [e, Int32.toInt_toInt64])
        refine ⟨(n, vf_upd V k (Dz (8 * a2.toInt)), Z, R, K, B, M, bc, G, L, S, q, w, U, wk, jo), (0, n, vp_updL E k a2.toInt64, R2, Z2, B2, BR, wt, rk, U2, br, lc, jo2, wk2), vp_updL xo 0 (if 1 = 0 then 0 else 1 : Int64), 0, 1, (rel_mk h1 hn hE9 hZ hRR hB hbc hK hw hU hwk hj hlc hbr), fun sz => ?_, fun sz => ?_, rfl, fun _ => if_pos rfl⟩
        · exact kL_value l D ad cy ao co sz _ _ _ _ _ _ _ _ _ _ _ _ _ _ _ _ xo _ _ _ _ _ _ _ _ _ _ _ _ _ _ _ _ _ _ 1 _ ⟨rfl, rfl, by decide, by decide⟩ (fun sz => kX2_value1 l D ad cy sz _ _ _ _ _ _ _ _ _ _ _ _ _ _ _ _ k a2 (fun j => (E j).toInt) hE hv g1 g2 hk hn)
        · exact kX3_value1 l D ad2 cy2 sz _ _ _ _ _ _ _ _ _ _ _ _ _ _ k a2 hv2 g1 g2 hk hn

theorem op_touches (l : Launch) (hlt : l.stackTraces = false) (D : va_G) (ad : Nat → Nat) (cy : Nat → ClassId) (ao : Nat) (co : ClassId) (ad2 : Nat → Nat) (cy2 : Nat → ClassId) (σ : CS) (μ : MS) (xo : Nat → Int64) (a1 a2 a3 : Int32) (hR : Rel σ μ) : ∃ (σ2 : CS) (μ2 : MS) (xo2 : Nat → Int64) (k bb : Int32), Rel σ2 μ2 ∧ (∀ sz, mH l yL_touches wsL_touches ({ frames := 9, cells := 1, slots := 6, locals := 200 }) [.ref (ad 0), .int a1, .int a2, .ref ao] D (cT cy ++ oT co) (cWs ad cy σ ++ oW ao co xo) sz k (cWs ad cy σ2 ++ oW ao co xo2)) ∧ (∀ sz, mI l yX3_touches wsX3_touches ({ frames := 1, cells := 0, slots := 0, locals := 40 }) [.ref (ad2 0), .int a1, .int a2] D (mT cy2) (mWs ad2 cy2 μ) sz bb (mWs ad2 cy2 μ2) 0 0) ∧ μ2.1 = k ∧ (k = 0 → xo2 0 = (if bb = 0 then 0 else 1 : Int64)) := by
  obtain ⟨n0, V, Z, R, K, B, M, bc, G, L, S, q, w, U, wk, jo⟩ := σ
  obtain ⟨th, n, E, R2, Z2, B2, BR, wt, rk, U2, br, lc, jo2, wk2⟩ := μ
  obtain ⟨⟨hn2, h1, hn⟩, hE, hZ, hRR, hB, hbc, hK, hw, hU, hwk, hj, hlc, hbr⟩ := hR
  subst hn2
  rcases ix_or a1 (n := n) (by omega) with hxo | ⟨k, hk, rfl⟩
  ·
    refine ⟨(n, V, Z, R, K, B, M, bc, G, L, S, q, w, U, wk, jo), (1, n, E, R2, Z2, B2, BR, wt, rk, U2, br, lc, jo2, wk2), xo, 1, 0, (rel_mk h1 hn hE hZ hRR hB hbc hK hw hU hwk hj hlc hbr), fun sz => ?_, fun sz => ?_, rfl, fun e => absurd e (by decide)⟩
    · exact xL_touches1 l D ad cy ao co sz _ _ _ _ _ _ _ _ _ _ _ _ _ _ _ _ xo _ _ (fun sz => xX2_touchesX l hlt D ad cy sz _ _ _ _ _ _ _ _ _ _ _ _ _ _ _ _ _ _ hxo)
    · exact kX3_touchesX l D ad2 cy2 sz _ _ _ _ _ _ _ _ _ _ _ _ _ _ _ _ hxo
  · rcases ix_or a2 (n := 31) (by omega) with hyo | ⟨g, hg, rfl⟩
    ·
      refine ⟨(n, V, Z, R, K, B, M, bc, G, L, S, q, w, U, wk, jo), (1, n, E, R2, Z2, B2, BR, wt, rk, U2, br, lc, jo2, wk2), xo, 1, 0, (rel_mk h1 hn hE hZ hRR hB hbc hK hw hU hwk hj hlc hbr), fun sz => ?_, fun sz => ?_, rfl, fun e => absurd e (by decide)⟩
      · exact xL_touches1 l D ad cy ao co sz _ _ _ _ _ _ _ _ _ _ _ _ _ _ _ _ xo _ _ (fun sz => xX2_touchesY l hlt D ad cy sz _ _ _ _ _ _ _ _ _ _ _ _ _ _ _ _ _ _ hyo hk hn)
      · exact kX3_touchesY l D ad2 cy2 sz _ _ _ _ _ _ _ _ _ _ _ _ _ _ _ _ hyo hk hn
    · have e9 := q_shr (R2 k) (w := g) (by omega)
      have e8 := q_test (R k) (w := g) (by omega)
      rw [hRR k hk] at e8
      rcases b9_cases (bt (R2 k) g) with hb9 | hb9
      · have c1 : ¬ R k &&& pBit (nI g) = 0 := by
          rw [hRR k hk]; intro e7; rw [e8.mp e7] at hb9; cases hb9
        have c2 : (R2 k >>> (nI g &&& 31)) &&& 1 = 1 := by rw [e9, if_pos hb9]
        refine ⟨(n, V, Z, R, K, B, M, bc, G, L, S, q, w, U, wk, jo), (0, n, E, R2, Z2, B2, BR, wt, rk, U2, br, lc, jo2, wk2), vp_updL xo 0 (if 0 = 0 then 0 else 1 : Int64), 0, 0, (rel_mk h1 hn hE hZ hRR hB hbc hK hw hU hwk hj hlc hbr), fun sz => ?_, fun sz => ?_, rfl, fun _ => if_pos rfl⟩
        · exact kL_touches l D ad cy ao co sz _ _ _ _ _ _ _ _ _ _ _ _ _ _ _ _ xo _ _ _ _ _ _ _ _ _ _ _ _ _ _ _ _ _ _ 0 _ ⟨rfl, rfl, by decide, by decide⟩ (fun sz => kX2_touches0 l D ad cy sz _ _ _ _ _ _ _ _ _ _ _ _ _ _ _ _ k g c1 hk hg hn)
        · exact kX3_touches0 l D ad2 cy2 sz _ _ _ _ _ _ _ _ _ _ _ _ _ _ k g c2 hk hg hn
      · have c1 : R k &&& pBit (nI g) = 0 := by rw [hRR k hk]; exact e8.mpr hb9
        have c2 : ¬ (R2 k >>> (nI g &&& 31)) &&& 1 = 1 := by rw [e9, if_neg (by rw [hb9]; decide)]; decide
        have hR9 : ∀ j, j < n → upd R k (R k ||| pBit (nI g)) j = upd R2 k (R2 k ||| pBit (nI g)) j := by rw [hRR k hk]; exact up_cg hRR
        obtain ⟨s1, s2, -⟩ := pSo_eq B M (fun _ => 0) hn hR9 n (Nat.le_refl _)
        refine ⟨(n, V, Z, upd R k (R k ||| pBit (nI g)), K, (pSo (upd R k (R k ||| pBit (nI g))) B M n).1, (pSo (upd R k (R k ||| pBit (nI g))) B M n).2.1, (pSo (upd R k (R k ||| pBit (nI g))) B M n).2.2, G, L, S, q, w, U, wk, jo), (0, n, E, upd R2 k (R2 k ||| pBit (nI g)), Z2, B2, BR, wt, rk, U2, br, lc, jo2, wk2), vp_updL xo 0 (if 1 = 0 then 0 else 1 : Int64), 0, 1, (rel_mk h1 hn hE hZ hR9 s1 s2 hK hw hU hwk hj hlc hbr), fun sz => ?_, fun sz => ?_, rfl, fun _ => if_pos rfl⟩
        · exact kL_touches l D ad cy ao co sz _ _ _ _ _ _ _ _ _ _ _ _ _ _ _ _ xo _ _ _ _ _ _ _ _ _ _ _ _ _ _ _ _ _ _ 1 _ ⟨rfl, rfl, by decide, by decide⟩ (fun sz => kX2_touches1 l D ad cy sz _ _ _ _ _ _ _ _ _ _ _ _ _ _ _ _ k g c1 hk hg hn)
        · exact kX3_touches1 l D ad2 cy2 sz _ _ _ _ _ _ _ _ _ _ _ _ _ _ k g c2 hk hg hn

theorem op_batch (l : Launch) (hlt : l.stackTraces = false) (D : va_G) (ad : Nat → Nat) (cy : Nat → ClassId) (ao : Nat) (co : ClassId) (ad2 : Nat → Nat) (cy2 : Nat → ClassId) (σ : CS) (μ : MS) (xo : Nat → Int64) (a1 a2 a3 : Int32) (hR : Rel σ μ) : ∃ (σ2 : CS) (μ2 : MS) (xo2 : Nat → Int64) (k bb : Int32), Rel σ2 μ2 ∧ (∀ sz, mH l yL_batch wsL_batch ({ frames := 9, cells := 1, slots := 6, locals := 200 }) [.ref (ad 0), .int a1, .ref ao] D (cT cy ++ oT co) (cWs ad cy σ ++ oW ao co xo) sz k (cWs ad cy σ2 ++ oW ao co xo2)) ∧ (∀ sz, mI l yX3_batch wsX3_batch ({ frames := 2, cells := 0, slots := 0, locals := 60 }) [.ref (ad2 0), .int a1] D (mT cy2) (mWs ad2 cy2 μ) sz bb (mWs ad2 cy2 μ2) 0 0) ∧ μ2.1 = k ∧ (k = 0 → xo2 0 = bb.toInt64) := by
  obtain ⟨n0, V, Z, R, K, B, M, bc, G, L, S, q, w, U, wk, jo⟩ := σ
  obtain ⟨th, n, E, R2, Z2, B2, BR, wt, rk, U2, br, lc, jo2, wk2⟩ := μ
  obtain ⟨⟨hn2, h1, hn⟩, hE, hZ, hRR, hB, hbc, hK, hw, hU, hwk, hj, hlc, hbr⟩ := hR
  subst hn2
  rcases ix_or a1 (n := n) (by omega) with hxo | ⟨k, hk, rfl⟩
  ·
    refine ⟨(n, V, Z, R, K, B, M, bc, G, L, S, q, w, U, wk, jo), (1, n, E, R2, Z2, B2, BR, wt, rk, U2, br, lc, jo2, wk2), xo, 1, 0, (rel_mk h1 hn hE hZ hRR hB hbc hK hw hU hwk hj hlc hbr), fun sz => ?_, fun sz => ?_, rfl, fun e => absurd e (by decide)⟩
    · exact xL_batch1 l D ad cy ao co sz _ _ _ _ _ _ _ _ _ _ _ _ _ _ _ _ xo _ (fun sz => xX2_batchX l hlt D ad cy sz _ _ _ _ _ _ _ _ _ _ _ _ _ _ _ _ _ hxo)
    · exact kX3_batchX l D ad2 cy2 sz _ _ _ _ _ _ _ _ _ _ _ _ _ _ _ hxo
  · obtain ⟨f1, f2⟩ := mFb_cg (R := R2) (R' := R2) B2 (fun _ => 0) (n := n) (fun _ _ => rfl) n (Nat.le_refl _)
    have f3 : B k = (mFb R2 B2 n).1 k := by rw [f1 k hk]; exact hB k hk
    refine ⟨(n, V, Z, R, K, B, M, bc, G, L, S, q, w, U, wk, jo), (0, n, E, R2, Z2, (mFb R2 B2 n).1, BR, wt, rk, U2, br, lc, jo2, wk2), vp_updL xo 0 (((B k) : Int32).toInt64), 0, (B k), (rel_mk h1 hn hE hZ hRR hB hbc hK hw hU hwk hj hlc hbr), fun sz => ?_, fun sz => ?_, rfl, fun _ => if_pos rfl⟩
    · exact kL_batch l D ad cy ao co sz _ _ _ _ _ _ _ _ _ _ _ _ _ _ _ _ xo _ _ _ _ _ _ _ _ _ _ _ _ _ _ _ _ _ (B k) _ ⟨rfl, rfl, by decide, by decide⟩ (fun sz => kX2_batch l D ad cy sz _ _ _ _ _ _ _ _ _ _ _ _ _ _ _ _ k hk hn)
    · exact by rw [f3]; exact kX3_batch1 l D ad2 cy2 sz _ _ _ _ _ _ _ _ _ _ _ _ _ _ k hk hn

theorem op_times (l : Launch) (hlt : l.stackTraces = false) (D : va_G) (ad : Nat → Nat) (cy : Nat → ClassId) (ao : Nat) (co : ClassId) (ad2 : Nat → Nat) (cy2 : Nat → ClassId) (σ : CS) (μ : MS) (xo : Nat → Int64) (a1 a2 a3 : Int32) (hR : Rel σ μ) : ∃ (σ2 : CS) (μ2 : MS) (xo2 : Nat → Int64) (k bb : Int32), Rel σ2 μ2 ∧ (∀ sz, mH l yL_times wsL_times ({ frames := 9, cells := 1, slots := 6, locals := 200 }) [.ref (ad 0), .int a1, .ref ao] D (cT cy ++ oT co) (cWs ad cy σ ++ oW ao co xo) sz k (cWs ad cy σ2 ++ oW ao co xo2)) ∧ (∀ sz, mI l yX3_times wsX3_times ({ frames := 1, cells := 0, slots := 0, locals := 40 }) [.ref (ad2 0), .int a1] D (mT cy2) (mWs ad2 cy2 μ) sz bb (mWs ad2 cy2 μ2) 0 0) ∧ μ2.1 = k ∧ (k = 0 → xo2 0 = bb.toInt64) := by
  obtain ⟨n0, V, Z, R, K, B, M, bc, G, L, S, q, w, U, wk, jo⟩ := σ
  obtain ⟨th, n, E, R2, Z2, B2, BR, wt, rk, U2, br, lc, jo2, wk2⟩ := μ
  obtain ⟨⟨hn2, h1, hn⟩, hE, hZ, hRR, hB, hbc, hK, hw, hU, hwk, hj, hlc, hbr⟩ := hR
  subst hn2
  rcases ix_or a1 (n := n) (by omega) with hxo | ⟨k, hk, rfl⟩
  ·
    refine ⟨(n, V, Z, R, K, B, M, bc, G, L, S, q, w, U, wk, jo), (1, n, E, R2, Z2, B2, BR, wt, rk, U2, br, lc, jo2, wk2), xo, 1, 0, (rel_mk h1 hn hE hZ hRR hB hbc hK hw hU hwk hj hlc hbr), fun sz => ?_, fun sz => ?_, rfl, fun e => absurd e (by decide)⟩
    · exact xL_times1 l D ad cy ao co sz _ _ _ _ _ _ _ _ _ _ _ _ _ _ _ _ xo _ (fun sz => xX2_timesX l hlt D ad cy sz _ _ _ _ _ _ _ _ _ _ _ _ _ _ _ _ _ hxo)
    · exact kX3_timesX l D ad2 cy2 sz _ _ _ _ _ _ _ _ _ _ _ _ _ _ _ hxo
  ·
    refine ⟨(n, V, Z, R, K, B, M, bc, G, L, S, q, w, U, wk, jo), (0, n, E, R2, Z2, B2, BR, wt, rk, U2, br, lc, jo2, wk2), vp_updL xo 0 (((U k) : Int32).toInt64), 0, (U k), (rel_mk h1 hn hE hZ hRR hB hbc hK hw hU hwk hj hlc hbr), fun sz => ?_, fun sz => ?_, rfl, fun _ => if_pos rfl⟩
    · exact kL_times l D ad cy ao co sz _ _ _ _ _ _ _ _ _ _ _ _ _ _ _ _ xo _ _ _ _ _ _ _ _ _ _ _ _ _ _ _ _ _ (U k) _ ⟨rfl, rfl, by decide, by decide⟩ (fun sz => kX2_times l D ad cy sz _ _ _ _ _ _ _ _ _ _ _ _ _ _ _ _ k hk hn)
    · exact by rw [hU k hk]; exact kX3_times1 l D ad2 cy2 sz _ _ _ _ _ _ _ _ _ _ _ _ _ _ k hk hn

theorem op_stop (l : Launch) (hlt : l.stackTraces = false) (D : va_G) (ad : Nat → Nat) (cy : Nat → ClassId) (ao : Nat) (co : ClassId) (ad2 : Nat → Nat) (cy2 : Nat → ClassId) (σ : CS) (μ : MS) (xo : Nat → Int64) (a1 a2 a3 : Int32) (hR : Rel σ μ) : ∃ (σ2 : CS) (μ2 : MS) (xo2 : Nat → Int64) (k bb : Int32), Rel σ2 μ2 ∧ (∀ sz, mH l yL_stop wsL_stop ({ frames := 9, cells := 1, slots := 6, locals := 200 }) [.ref (ad 0), .int a1, .ref ao] D (cT cy ++ oT co) (cWs ad cy σ ++ oW ao co xo) sz k (cWs ad cy σ2 ++ oW ao co xo2)) ∧ (∀ sz, mI l yX3_stop wsX3_stop ({ frames := 1, cells := 0, slots := 0, locals := 40 }) [.ref (ad2 0), .int a1] D (mT cy2) (mWs ad2 cy2 μ) sz bb (mWs ad2 cy2 μ2) 0 0) ∧ μ2.1 = k ∧ (k = 0 → xo2 0 = (if bb = 0 then 0 else 1 : Int64)) := by
  obtain ⟨n0, V, Z, R, K, B, M, bc, G, L, S, q, w, U, wk, jo⟩ := σ
  obtain ⟨th, n, E, R2, Z2, B2, BR, wt, rk, U2, br, lc, jo2, wk2⟩ := μ
  obtain ⟨⟨hn2, h1, hn⟩, hE, hZ, hRR, hB, hbc, hK, hw, hU, hwk, hj, hlc, hbr⟩ := hR
  subst hn2
  rcases ix_or a1 (n := n) (by omega) with hxo | ⟨k, hk, rfl⟩
  ·
    refine ⟨(n, V, Z, R, K, B, M, bc, G, L, S, q, w, U, wk, jo), (1, n, E, R2, Z2, B2, BR, wt, rk, U2, br, lc, jo2, wk2), xo, 1, 0, (rel_mk h1 hn hE hZ hRR hB hbc hK hw hU hwk hj hlc hbr), fun sz => ?_, fun sz => ?_, rfl, fun e => absurd e (by decide)⟩
    · exact xL_stop1 l D ad cy ao co sz _ _ _ _ _ _ _ _ _ _ _ _ _ _ _ _ xo _ (fun sz => xX2_stopX l hlt D ad cy sz _ _ _ _ _ _ _ _ _ _ _ _ _ _ _ _ _ hxo)
    · exact kX3_stopX l D ad2 cy2 sz _ _ _ _ _ _ _ _ _ _ _ _ _ _ _ hxo
  · by_cases hz : Z k = 0
    · have hz2 : Z2 k = 0 := by rw [← hZ k hk]; exact hz
      refine ⟨(n, V, upd Z k 1, R, K, B, M, bc, G, L, S, q, w, U, wk, jo), (0, n, E, R2, upd Z2 k 1, B2, BR, wt, rk, U2, br, lc, jo2, wk2), vp_updL xo 0 (if 1 = 0 then 0 else 1 : Int64), 0, 1, (rel_mk h1 hn hE (up_cg hZ) hRR hB hbc hK hw hU hwk hj hlc hbr), fun sz => ?_, fun sz => ?_, rfl, fun _ => if_pos rfl⟩
      · exact kL_stop l D ad cy ao co sz _ _ _ _ _ _ _ _ _ _ _ _ _ _ _ _ xo _ _ _ _ _ _ _ _ _ _ _ _ _ _ _ _ _ 1 _ ⟨rfl, rfl, by decide, by decide⟩ (fun sz => kX2_stop1 l D ad cy sz _ _ _ _ _ _ _ _ _ _ _ _ _ _ _ _ k hz hk hn)
      · exact kX3_stop1 l D ad2 cy2 sz _ _ _ _ _ _ _ _ _ _ _ _ _ _ k hz2 hk hn
    · have hz2 : ¬ Z2 k = 0 := by rw [← hZ k hk]; exact hz
      refine ⟨(n, V, upd Z k 0, R, K, B, M, bc, G, L, S, q, w, U, wk, jo), (0, n, E, R2, upd Z2 k 0, B2, BR, wt, rk, U2, br, lc, jo2, wk2), vp_updL xo 0 (if 0 = 0 then 0 else 1 : Int64), 0, 0, (rel_mk h1 hn hE (up_cg hZ) hRR hB hbc hK hw hU hwk hj hlc hbr), fun sz => ?_, fun sz => ?_, rfl, fun _ => if_pos rfl⟩
      · exact kL_stop l D ad cy ao co sz _ _ _ _ _ _ _ _ _ _ _ _ _ _ _ _ xo _ _ _ _ _ _ _ _ _ _ _ _ _ _ _ _ _ 0 _ ⟨rfl, rfl, by decide, by decide⟩ (fun sz => kX2_stop0 l D ad cy sz _ _ _ _ _ _ _ _ _ _ _ _ _ _ _ _ k hz hk hn)
      · exact kX3_stop0 l D ad2 cy2 sz _ _ _ _ _ _ _ _ _ _ _ _ _ _ k hz2 hk hn

theorem op_failAt (l : Launch) (hlt : l.stackTraces = false) (D : va_G) (ad : Nat → Nat) (cy : Nat → ClassId) (ao : Nat) (co : ClassId) (ad2 : Nat → Nat) (cy2 : Nat → ClassId) (σ : CS) (μ : MS) (xo : Nat → Int64) (a1 a2 a3 : Int32) (hR : Rel σ μ) : ∃ (σ2 : CS) (μ2 : MS) (xo2 : Nat → Int64) (k bb : Int32), Rel σ2 μ2 ∧ (∀ sz, mH l yL_failAt wsL_failAt ({ frames := 9, cells := 1, slots := 6, locals := 200 }) [.ref (ad 0), .int a1, .int a2, .ref ao] D (cT cy ++ oT co) (cWs ad cy σ ++ oW ao co xo) sz k (cWs ad cy σ2 ++ oW ao co xo2)) ∧ (∀ sz, mI l yX3_failAt wsX3_failAt ({ frames := 1, cells := 0, slots := 0, locals := 40 }) [.ref (ad2 0), .int a1, .int a2] D (mT cy2) (mWs ad2 cy2 μ) sz bb (mWs ad2 cy2 μ2) 0 0) ∧ μ2.1 = k ∧ (k = 0 → xo2 0 = (if bb = 0 then 0 else 1 : Int64)) := by
  obtain ⟨n0, V, Z, R, K, B, M, bc, G, L, S, q, w, U, wk, jo⟩ := σ
  obtain ⟨th, n, E, R2, Z2, B2, BR, wt, rk, U2, br, lc, jo2, wk2⟩ := μ
  obtain ⟨⟨hn2, h1, hn⟩, hE, hZ, hRR, hB, hbc, hK, hw, hU, hwk, hj, hlc, hbr⟩ := hR
  subst hn2
  rcases ix_or a1 (n := 16) (by omega) with hyo | ⟨g, hg, rfl⟩
  ·
    refine ⟨(n, V, Z, R, K, B, M, bc, G, L, S, q, w, U, wk, jo), (1, n, E, R2, Z2, B2, BR, wt, rk, U2, br, lc, jo2, wk2), xo, 1, 0, (rel_mk h1 hn hE hZ hRR hB hbc hK hw hU hwk hj hlc hbr), fun sz => ?_, fun sz => ?_, rfl, fun e => absurd e (by decide)⟩
    · exact xL_failAt1 l D ad cy ao co sz _ _ _ _ _ _ _ _ _ _ _ _ _ _ _ _ xo _ _ (fun sz => xX2_failAtY l hlt D ad cy sz _ _ _ _ _ _ _ _ _ _ _ _ _ _ _ _ _ _ hyo)
    · exact kX3_failAtY l D ad2 cy2 sz _ _ _ _ _ _ _ _ _ _ _ _ _ _ _ _ hyo
  · rcases ix_or a2 (n := n) (by omega) with hxo | ⟨k, hk, rfl⟩
    ·
      refine ⟨(n, V, Z, R, K, B, M, bc, G, L, S, q, w, U, wk, jo), (1, n, E, R2, Z2, B2, BR, wt, rk, U2, br, lc, jo2, wk2), xo, 1, 0, (rel_mk h1 hn hE hZ hRR hB hbc hK hw hU hwk hj hlc hbr), fun sz => ?_, fun sz => ?_, rfl, fun e => absurd e (by decide)⟩
      · exact xL_failAt1 l D ad cy ao co sz _ _ _ _ _ _ _ _ _ _ _ _ _ _ _ _ xo _ _ (fun sz => xX2_failAtX l hlt D ad cy sz _ _ _ _ _ _ _ _ _ _ _ _ _ _ _ _ g _ hg hxo)
      · exact kX3_failAtX l D ad2 cy2 sz _ _ _ _ _ _ _ _ _ _ _ _ _ _ g _ hg hxo
    · have e9 := l_shr (BR g) (k := k) (by omega)
      have e8 := q_test (K k) (w := g) (by omega)
      have e7 := hK k g hk hg
      rcases b9_cases (bt (K k) g) with hb9 | hb9
      · have c1 : ¬ K k &&& pBit (nI g) = 0 := by
          intro e6; rw [e8.mp e6] at hb9; cases hb9
        have c2 : (BR g >>> ((nI k).toInt64 &&& 63)) &&& 1 = 1 := by rw [e9, if_pos (by rw [← e7]; exact hb9)]
        refine ⟨(n, V, Z, R, upd K k (K k ||| pBit (nI g)), B, M, bc, G, L, S, q, w, U, wk, jo), (0, n, E, R2, Z2, B2, BR, wt, rk, U2, br, lc, jo2, wk2), vp_updL xo 0 (if 0 = 0 then 0 else 1 : Int64), 0, 0, (rel_mk h1 hn hE hZ hRR hB hbc (brk_same hg hb9 hK) hw hU hwk hj hlc hbr), fun sz => ?_, fun sz => ?_, rfl, fun _ => if_pos rfl⟩
        · exact kL_failAt l D ad cy ao co sz _ _ _ _ _ _ _ _ _ _ _ _ _ _ _ _ xo _ _ _ _ _ _ _ _ _ _ _ _ _ _ _ _ _ _ 0 _ ⟨rfl, rfl, by decide, by decide⟩ (fun sz => kX2_failAt1 l D ad cy sz _ _ _ _ _ _ _ _ _ _ _ _ _ _ _ _ g k c1 hk hg hn)
        · exact kX3_failAt0 l D ad2 cy2 sz _ _ _ _ _ _ _ _ _ _ _ _ _ _ g k c2 hg hk hn
      · have c1 : K k &&& pBit (nI g) = 0 := e8.mpr hb9
        have c2 : ¬ (BR g >>> ((nI k).toInt64 &&& 63)) &&& 1 = 1 := by rw [e9, if_neg (by rw [← e7, hb9]; decide)]; decide
        refine ⟨(n, V, Z, R, upd K k (K k ||| pBit (nI g)), B, M, bc, G, L, S, q, w, U, wk, jo), (0, n, E, R2, Z2, B2, vp_updL BR g (BR g ||| ((1 : Int64) <<< ((nI k).toInt64 &&& 63))), wt, rk, U2, br, lc, jo2, wk2), vp_updL xo 0 (if 1 = 0 then 0 else 1 : Int64), 0, 1, (rel_mk h1 hn hE hZ hRR hB hbc (brk_or hn hg hk hK) hw hU hwk hj hlc hbr), fun sz => ?_, fun sz => ?_, rfl, fun _ => if_pos rfl⟩
        · exact kL_failAt l D ad cy ao co sz _ _ _ _ _ _ _ _ _ _ _ _ _ _ _ _ xo _ _ _ _ _ _ _ _ _ _ _ _ _ _ _ _ _ _ 1 _ ⟨rfl, rfl, by decide, by decide⟩ (fun sz => kX2_failAt0 l D ad cy sz _ _ _ _ _ _ _ _ _ _ _ _ _ _ _ _ g k c1 hk hg hn)
        · exact kX3_failAt1 l D ad2 cy2 sz _ _ _ _ _ _ _ _ _ _ _ _ _ _ g k c2 hg hk hn

theorem op_act (l : Launch) (hlt : l.stackTraces = false) (D : va_G) (ad : Nat → Nat) (cy : Nat → ClassId) (ao : Nat) (co : ClassId) (ad2 : Nat → Nat) (cy2 : Nat → ClassId) (σ : CS) (μ : MS) (xo : Nat → Int64) (a1 a2 a3 : Int32) (hR : Rel σ μ) : ∃ (σ2 : CS) (μ2 : MS) (xo2 : Nat → Int64) (k bb : Int32), Rel σ2 μ2 ∧ (∀ sz, mH l yL_act wsL_act ({ frames := 9, cells := 1, slots := 6, locals := 200 }) [.ref (ad 0), .int a1, .ref ao] D (cT cy ++ oT co) (cWs ad cy σ ++ oW ao co xo) sz k (cWs ad cy σ2 ++ oW ao co xo2)) ∧ (∀ sz, mI l yX3_act wsX3_act ({ frames := 0, cells := 0, slots := 0, locals := 0 }) [.ref (ad2 0), .int a1] D (mT cy2) (mWs ad2 cy2 μ) sz bb (mWs ad2 cy2 μ2) 0 0) ∧ μ2.1 = k ∧ (k = 0 → xo2 0 = bb.toInt64) := by
  obtain ⟨n0, V, Z, R, K, B, M, bc, G, L, S, q, w, U, wk, jo⟩ := σ
  obtain ⟨th, n, E, R2, Z2, B2, BR, wt, rk, U2, br, lc, jo2, wk2⟩ := μ
  obtain ⟨⟨hn2, h1, hn⟩, hE, hZ, hRR, hB, hbc, hK, hw, hU, hwk, hj, hlc, hbr⟩ := hR
  subst hn2
  obtain ⟨w1, w2, w3, w4⟩ := hw
  rcases ix_or a1 (n := 10) (by omega) with hxo | ⟨r, hr, rfl⟩
  ·
    refine ⟨(n, V, Z, R, K, B, M, bc, G, L, S, q, w, U, wk, jo), (1, n, E, R2, Z2, B2, BR, wt, rk, U2, br, lc, jo2, wk2), xo, 1, 0, (rel_mk h1 hn hE hZ hRR hB hbc hK ⟨w1, w2, w3, w4⟩ hU hwk hj hlc hbr), fun sz => ?_, fun sz => ?_, rfl, fun e => absurd e (by decide)⟩
    · exact xL_act1 l D ad cy ao co sz _ _ _ _ _ _ _ _ _ _ _ _ _ _ _ _ xo _ (fun sz => xX2_actX l hlt D ad cy sz _ _ _ _ _ _ _ _ _ _ _ _ _ _ _ _ _ hxo)
    · exact kX3_actX l D ad2 cy2 sz _ _ _ _ _ _ _ _ _ _ _ _ _ _ _ hxo
  · by_cases ht : wt < 20
    · have c1 : w < nI 20 := by rw [w1]; exact nI_lt ht (by omega)
      have a9 := add_eq hr w3 w4
      have w9 : w + 1 = nI (wt + 1) ∧ wt + 1 ≤ 20 ∧ (∀ k, k < wt + 1 → ∃ r', r' < 10 ∧ upd rk wt (nI r) k = nI r') ∧ ∀ r', r' < 10 → upd q r (q r + 1) r' = nI (cntR (upd rk wt (nI r)) (nI r') (wt + 1)) := by
        refine ⟨by rw [w1]; exact nI_add wt 1, by omega, ?_, ?_⟩
        · intro k hk
          by_cases q9 : k = wt
          · exact ⟨r, hr, if_pos q9⟩
          · obtain ⟨r', x1, x2⟩ := w3 k (by omega)
            exact ⟨r', x1, (if_neg q9).trans x2⟩
        · intro r' hr'
          rw [cnt_up]
          by_cases q9 : r' = r
          · rw [q9, upd_at, if_pos rfl, w4 r hr]; exact nI_add _ 1
          · rw [if_neg (fun e => q9 ((nI_eq (by omega) (by omega)).mp e).symm)]
            exact (if_neg q9).trans (w4 r' hr')
      refine ⟨(n, V, Z, R, K, B, M, bc, G, L, S, upd q r (q r + 1), w + 1, U, wk, jo), (0, n, E, R2, Z2, B2, BR, wt + 1, upd rk wt (nI r), U2, br, lc, jo2, wk2), vp_updL xo 0 (((pAdF q (10 - r) r 0) : Int32).toInt64), 0, (pAdF q (10 - r) r 0), (rel_mk h1 hn hE hZ hRR hB hbc hK w9 hU hwk hj hlc hbr), fun sz => ?_, fun sz => ?_, rfl, fun _ => if_pos rfl⟩
      · exact kL_act l D ad cy ao co sz _ _ _ _ _ _ _ _ _ _ _ _ _ _ _ _ xo _ _ _ _ _ _ _ _ _ _ _ _ _ _ _ _ _ (pAdF q (10 - r) r 0) _ ⟨rfl, rfl, by decide, by decide⟩ (fun sz => kX2_act1 l D ad cy sz _ _ _ _ _ _ _ _ _ _ _ _ _ _ _ _ r c1 hr)
      · exact by rw [a9]; exact kX3_act1 l D ad2 cy2 sz _ _ _ _ _ _ _ _ _ _ _ _ _ _ r ht hr
    · have e20 : wt = 20 := by omega
      have c1 : ¬ w < nI 20 := by rw [w1, e20]; decide
      refine ⟨(n, V, Z, R, K, B, M, bc, G, L, S, q, w, U, wk, jo), (0, n, E, R2, Z2, B2, BR, wt, rk, U2, br, lc, jo2, wk2), vp_updL xo 0 (((-1) : Int32).toInt64), 0, (-1), (rel_mk h1 hn hE hZ hRR hB hbc hK ⟨w1, w2, w3, w4⟩ hU hwk hj hlc hbr), fun sz => ?_, fun sz => ?_, rfl, fun _ => if_pos rfl⟩
      · exact kL_act l D ad cy ao co sz _ _ _ _ _ _ _ _ _ _ _ _ _ _ _ _ xo _ _ _ _ _ _ _ _ _ _ _ _ _ _ _ _ _ (-1) _ ⟨rfl, rfl, by decide, by decide⟩ (fun sz => kX2_act0 l D ad cy sz _ _ _ _ _ _ _ _ _ _ _ _ _ _ _ _ r c1 hr)
      · exact kX3_act0 l D ad2 cy2 sz _ _ _ _ _ _ _ _ _ _ _ _ _ _ r e20 hr

theorem op_run (l : Launch) (hlt : l.stackTraces = false) (D : va_G) (ad : Nat → Nat) (cy : Nat → ClassId) (ao : Nat) (co : ClassId) (ad2 : Nat → Nat) (cy2 : Nat → ClassId) (σ : CS) (μ : MS) (xo : Nat → Int64) (a1 a2 a3 : Int32) (hR : Rel σ μ) : ∃ (σ2 : CS) (μ2 : MS) (xo2 : Nat → Int64) (k bb : Int32), Rel σ2 μ2 ∧ (∀ sz, mH l yL_run wsL_run ({ frames := 9, cells := 1, slots := 6, locals := 200 }) [.ref (ad 0), .int a1, .long ((a2.toInt64 <<< ((nI 32).toInt64 &&& 63)) ||| (a3.toInt64 &&& 4294967295)), .ref ao] D (cT cy ++ oT co) (cWs ad cy σ ++ oW ao co xo) sz k (cWs ad cy σ2 ++ oW ao co xo2)) ∧ (∀ sz, mI l yX3_run wsX3_run ({ frames := 2, cells := 0, slots := 0, locals := 60 }) [.ref (ad2 0), .int a1, .long ((a2.toInt64 <<< ((nI 32).toInt64 &&& 63)) ||| (a3.toInt64 &&& 4294967295))] D (mT cy2) (mWs ad2 cy2 μ) sz bb (mWs ad2 cy2 μ2) 0 0) ∧ μ2.1 = k ∧ (k = 0 → xo2 0 = bb.toInt64) := by
  obtain ⟨n0, V, Z, R, K, B, M, bc, G, L, S, q, w, U, wk, jo⟩ := σ
  obtain ⟨th, n, E, R2, Z2, B2, BR, wt, rk, U2, br, lc, jo2, wk2⟩ := μ
  obtain ⟨⟨hn2, h1, hn⟩, hE, hZ, hRR, hB, hbc, hK, hw, hU, hwk, hj, hlc, hbr⟩ := hR
  subst hn2
  generalize ((a2.toInt64 <<< ((nI 32).toInt64 &&& 63)) ||| (a3.toInt64 &&& 4294967295)) = sd
  rcases ru_or a1 with hxo | ⟨uw, hu1, hu2, rfl⟩
  · refine ⟨(n, V, Z, R, K, B, M, bc, G, L, S, q, w, U, wk, jo), (1, n, E, R2, Z2, B2, BR, wt, rk, U2, br, lc, jo2, wk2), xo, 1, 0, (rel_mk h1 hn hE hZ hRR hB hbc hK hw hU hwk hj hlc hbr), fun sz => ?_, fun sz => ?_, rfl, fun e => absurd e (by decide)⟩
    · exact xL_run1 l D ad cy ao co sz _ _ _ _ _ _ _ _ _ _ _ _ _ _ _ _ xo _ _ (fun sz => xX2_runX l hlt D ad cy sz _ _ _ _ _ _ _ _ _ _ _ _ _ _ _ _ _ _ hxo)
    · exact kX3_runX l D ad2 cy2 sz _ _ _ _ _ _ _ _ _ _ _ _ _ _ _ _ hxo
  · obtain ⟨f1, f2⟩ := mFb_cg (R := R2) (R' := R2) B2 (fun _ => 0) (n := n) (fun _ _ => rfl) n (Nat.le_refl _)
    have hBB : ∀ k, k < n → B k = (mFb R2 B2 n).1 k := fun k hk => by rw [f1 k hk]; exact hB k hk
    have hbcB : bc = (mFb R2 B2 n).2 := by rw [f2]; exact hbc
    have hle := mFb_le R2 B2 n
    have hcn := mFb_cnt R2 B2 n
    have hcB : ∀ k, k < n → ∃ c, c < bc ∧ B k = nI c := fun k hk => by
      obtain ⟨c, c1, c2⟩ := hcn k hk
      exact ⟨c, by omega, by rw [hBB k hk]; exact c2⟩
    have hc40 : ∀ k, k < n → ∃ c, c ≤ 40 ∧ (mFb R2 B2 n).1 k = nI c := fun k hk => by
      obtain ⟨c, c1, c2⟩ := hcn k hk
      exact ⟨c, by omega, c2⟩
    obtain ⟨d, d1, d2, d3, d4⟩ := pAh_n (Z := Z) (B := B) (bc := bc) (by omega) hcB n (Nat.le_refl _)
    have hst : ∀ b, b < d → pSt (mFb R2 B2 n).1 Z2 (nI b) n = 0 := fun b hb9 => pSt_z n (fun k hk e => by rw [← hZ k hk]; exact d3 k hk b hb9 (by rw [hBB k hk]; exact e))
    have hend : d = (mFb R2 B2 n).2 ∨ ¬ pSt (mFb R2 B2 n).1 Z2 (nI d) n = 0 := by
      rcases d4 with e | ⟨k, k1, k2, k3⟩
      · exact Or.inl (by omega)
      · exact Or.inr (pSt_nz (by rw [← hBB k k1]; exact k2) (by rw [← hZ k k1]; exact k3) n k1)
    have hBK : ∀ kk w9, kk < n → w9 < 16 → ((BR w9 >>> ((nI kk).toInt64 &&& 63)) &&& 1 = 0 ↔ K kk &&& pBit (nI w9) = 0) := by
      intro kk w9 g1 g2
      rw [q_test (K kk) (w := w9) (by omega), l_shr (BR w9) (k := kk) (by omega), hK kk w9 g1 g2]
      rcases b9_cases (bl (BR w9) kk) with e | e
      · rw [e]; exact ⟨fun x => absurd x (by decide), fun x => absurd x (by decide)⟩
      · rw [e]; exact ⟨fun _ => rfl, fun _ => rfl⟩
    obtain ⟨m1, m2, -⟩ := mask_n uw (by omega) hu1
    have hY : YR n (sd, pBit (nI uw) - 1, pZr U n, wk) (sd, nI (2 ^ uw - 1), pZr U2 40, wk2) := by
      refine ⟨rfl, m1, fun k hk => ?_, hwk⟩
      show pZr U n k = pZr U2 40 k
      unfold pZr
      rw [if_pos hk, if_pos (by omega)]
    obtain ⟨r1, r2, r3, r4, r5⟩ := pRn_cg (K := K) hBB d 0 _ _ hY
    have c1 : ¬ nI uw < nI 1 := fun e => by have := (nI_ltI (by omega) (by omega)).mp e; omega
    have c2 : nI uw ≤ nI 16 := nI_le (by omega) (by omega)
    have hx2 := fun sz => kX2_run l D ad cy sz n V Z R K B M bc G L S q w U wk jo (nI uw) sd c1 c2 d d1 (by omega) (fun j => (E j).toInt) hE hn
    rcases b9_cases (pRn K (mFb R2 B2 n).1 n d 0 (sd, nI (2 ^ uw - 1), pZr U2 40, wk2)).1 with hT | hT
    · have hx3 := fun sz => kX3_run1 l D ad2 cy2 sz th n E R2 Z2 B2 BR wt rk U2 br lc jo2 wk2 uw sd hu1 hu2 K d hn hBK (by omega) hst hend hw.2.1 hT
      have hA : AR (q, w, (pRn K B n d 0 (sd, pBit (nI uw) - 1, pZr U n, wk)).2.2.2.2) (rk, wt, (pRn K (mFb R2 B2 n).1 n d 0 (sd, nI (2 ^ uw - 1), pZr U2 40, wk2)).2.2.2.2) := ⟨hw.1, hw.2.1, hw.2.2.1, hw.2.2.2, r5⟩
      have hL := AR_let d _ _ hA
      have hS := mSm_all E (mFb R2 B2 n).1 hn (d := d) (by omega) (fun k hk => (hE k hk).2) hc40
      rw [← pSm_cg (nI d) hBB n (Nat.le_refl _)] at hS
      have hC := mCt_all (mFb R2 B2 n).1 (d := d) (n := n) (by omega) hc40
      rw [← pCt_cg (nI d) hBB n (Nat.le_refl _)] at hC
      have bd := pSm_bd (E := fun j => (E j).toInt) hn (fun k hk => (hE k hk).2) B (nI d) n (Nat.le_refl _)
      rw [← hS] at bd
      rw [← hC] at hx2
      rw [← hS] at hx2
      rw [← r1] at hT
      simp only [hT, if_true] at hx2
      clear hT d4 hst hend hA hS hC
      generalize pRn K B n d 0 (sd, pBit (nI uw) - 1, pZr U n, wk) = x at *
      generalize pRn K (mFb R2 B2 n).1 n d 0 (sd, nI (2 ^ uw - 1), pZr U2 40, wk2) = y at *
      generalize pLet d (q, w, x.2.2.2.2) = x3 at *
      generalize mLet d (rk, wt, y.2.2.2.2) = y3 at *
      generalize mSmR E (mFb R2 B2 n).1 n d 0 0 = sm at *
      generalize nI (mCtR (mFb R2 B2 n).1 n d 0 0) = cm at *
      refine ⟨(n, V, Z, R, K, B, M, bc, nI uw, x.2.2.1, x.2.1, x3.1, x3.2.1, x.2.2.2.1, x3.2.2, Dz sm.toInt), (0, n, E, R2, Z2, (mFb R2 B2 n).1, BR, y3.2.1, y3.1, y.2.2.2.1, nI uw - pBC y.2.2.1, pBC y.2.2.1, sm, y3.2.2), vp_updL xo 0 cm.toInt64, 0, cm, ?_, fun sz => ?_, fun sz => ?_, rfl, fun _ => if_pos rfl⟩
      · exact rel_mk h1 hn hE hZ hRR hB hbc hK ⟨hL.1, hL.2.1, hL.2.2.1, hL.2.2.2.1⟩ r4 hL.2.2.2.2 ⟨rfl, by generalize sm.toInt = z at bd ⊢; omega⟩ (by rw [r3]) (by rw [r3])
      · exact kL_run l D ad cy ao co sz _ _ _ _ _ _ _ _ _ _ _ _ _ _ _ _ xo _ _ _ _ _ _ _ _ _ _ _ _ _ _ _ _ _ _ cm _ ⟨rfl, rfl, by decide, by decide⟩ hx2
      · exact hx3 sz
    · have hx3 := fun sz => kX3_run0 l D ad2 cy2 sz th n E R2 Z2 B2 BR wt rk U2 br lc jo2 wk2 uw sd hu1 hu2 K d hn hBK (by omega) hst hend hw.2.1 hT
      rw [← r1] at hT
      simp only [hT, if_neg (show ¬ false = true by decide)] at hx2
      clear hT d4 hst hend
      generalize pRn K B n d 0 (sd, pBit (nI uw) - 1, pZr U n, wk) = x at *
      generalize pRn K (mFb R2 B2 n).1 n d 0 (sd, nI (2 ^ uw - 1), pZr U2 40, wk2) = y at *
      refine ⟨(n, V, Z, R, K, B, M, bc, nI uw, x.2.2.1, x.2.1, q, w, x.2.2.2.1, x.2.2.2.2, jo), (0, n, E, R2, Z2, (mFb R2 B2 n).1, BR, wt, rk, y.2.2.2.1, nI uw - pBC y.2.2.1, pBC y.2.2.1, jo2, y.2.2.2.2), vp_updL xo 0 ((-1 : Int32).toInt64), 0, -1, ?_, fun sz => ?_, fun sz => ?_, rfl, fun _ => if_pos rfl⟩
      · exact rel_mk h1 hn hE hZ hRR hB hbc hK hw r4 r5 hj (by rw [r3]) (by rw [r3])
      · exact kL_run l D ad cy ao co sz _ _ _ _ _ _ _ _ _ _ _ _ _ _ _ _ xo _ _ _ _ _ _ _ _ _ _ _ _ _ _ _ _ _ _ (-1) _ ⟨rfl, rfl, by decide, by decide⟩ hx2
      · exact hx3 sz

theorem op_batches (l : Launch) (D : va_G) (ad : Nat → Nat) (cy : Nat → ClassId) (ad2 : Nat → Nat) (cy2 : Nat → ClassId) (σ : CS) (μ : MS) (hR : Rel σ μ) : ∃ (μ2 : MS) (r : Int32), Rel σ μ2 ∧ (∀ sz, mI l yX2_batches wsX2_batches ({ frames := 0, cells := 0, slots := 0, locals := 0 }) [.ref (ad 0)] D (cT cy) (cWs ad cy σ) sz r (cWs ad cy σ) 0 0) ∧ (∀ sz, mI l yX3_batches wsX3_batches ({ frames := 2, cells := 0, slots := 0, locals := 60 }) [.ref (ad2 0)] D (mT cy2) (mWs ad2 cy2 μ) sz r (mWs ad2 cy2 μ2) 0 0) := by
  obtain ⟨n0, V, Z, R, K, B, M, bc, G, L, S, q, w, U, wk, jo⟩ := σ
  obtain ⟨th, n, E, R2, Z2, B2, BR, wt, rk, U2, br, lc, jo2, wk2⟩ := μ
  obtain ⟨⟨hn2, h1, hn⟩, hE, hZ, hRR, hB, hbc, hK, hw, hU, hwk, hj, hlc, hbr⟩ := hR
  subst hn2
  obtain ⟨f1, f2⟩ := mFb_cg (R := R2) (R' := R2) B2 (fun _ => 0) (n := n) (fun _ _ => rfl) n (Nat.le_refl _)
  have f3 : bc = (mFb R2 B2 n).2 := by rw [f2]; exact hbc
  refine ⟨(0, n, E, R2, Z2, (mFb R2 B2 n).1, BR, wt, rk, U2, br, lc, jo2, wk2), nI bc, (rel_mk h1 hn hE hZ hRR hB hbc hK hw hU hwk hj hlc hbr), fun sz => ?_, fun sz => ?_⟩
  · exact kX2_batches l D ad cy sz _ _ _ _ _ _ _ _ _ _ _ _ _ _ _ _ 
  · exact by rw [f3]; exact kX3_batches l D ad2 cy2 sz _ _ _ _ _ _ _ _ _ _ _ _ _ _ hn

theorem op_joined (l : Launch) (D : va_G) (ad : Nat → Nat) (cy : Nat → ClassId) (ad2 : Nat → Nat) (cy2 : Nat → ClassId) (σ : CS) (μ : MS) (hR : Rel σ μ) : ∃ (μ2 : MS) (r : Int), Rel σ μ2 ∧ (∀ sz, mD l yX2_joined wsX2_joined ({ frames := 0, cells := 0, slots := 0, locals := 0 }) [.ref (ad 0)] D (cT cy) (cWs ad cy σ) sz (Dz r) (cWs ad cy σ) 0 0) ∧ (∀ sz, mD l yX3_joined wsX3_joined ({ frames := 0, cells := 0, slots := 0, locals := 0 }) [.ref (ad2 0)] D (mT cy2) (mWs ad2 cy2 μ) sz (Dz r) (mWs ad2 cy2 μ2) 0 0) ∧ r.natAbs < 2 ^ 53 := by
  obtain ⟨n0, V, Z, R, K, B, M, bc, G, L, S, q, w, U, wk, jo⟩ := σ
  obtain ⟨th, n, E, R2, Z2, B2, BR, wt, rk, U2, br, lc, jo2, wk2⟩ := μ
  obtain ⟨⟨hn2, h1, hn⟩, hE, hZ, hRR, hB, hbc, hK, hw, hU, hwk, hj, hlc, hbr⟩ := hR
  subst hn2
  refine ⟨(0, n, E, R2, Z2, B2, BR, wt, rk, U2, br, lc, jo2, wk2), jo2.toInt, (rel_mk h1 hn hE hZ hRR hB hbc hK hw hU hwk hj hlc hbr), fun sz => ?_, fun sz => ?_, Nat.lt_of_le_of_lt hj.2 (by decide)⟩
  · exact by rw [← hj.1]; exact kX2_joined l D ad cy sz _ _ _ _ _ _ _ _ _ _ _ _ _ _ _ _ 
  · exact kX3_joined l D ad2 cy2 sz _ _ _ _ _ _ _ _ _ _ _ _ _ _ (Nat.lt_of_le_of_lt hj.2 (by decide))

theorem op_plain (l : Launch) (D : va_G) (ad : Nat → Nat) (cy : Nat → ClassId) (ad2 : Nat → Nat) (cy2 : Nat → ClassId) (σ : CS) (μ : MS) (hR : Rel σ μ) : ∃ (μ2 : MS) (r : Int), Rel σ μ2 ∧ (∀ sz, mD l yX2_plain wsX2_plain ({ frames := 2, cells := 0, slots := 0, locals := 50 }) [.ref (ad 0)] D (cT cy) (cWs ad cy σ) sz (Dz r) (cWs ad cy σ) 0 0) ∧ (∀ sz, mD l yX3_plain wsX3_plain ({ frames := 1, cells := 0, slots := 0, locals := 40 }) [.ref (ad2 0)] D (mT cy2) (mWs ad2 cy2 μ) sz (Dz r) (mWs ad2 cy2 μ2) 0 0) ∧ r.natAbs < 2 ^ 53 := by
  obtain ⟨n0, V, Z, R, K, B, M, bc, G, L, S, q, w, U, wk, jo⟩ := σ
  obtain ⟨th, n, E, R2, Z2, B2, BR, wt, rk, U2, br, lc, jo2, wk2⟩ := μ
  obtain ⟨⟨hn2, h1, hn⟩, hE, hZ, hRR, hB, hbc, hK, hw, hU, hwk, hj, hlc, hbr⟩ := hR
  subst hn2
  have hc : ∀ k, k < n → ¬ nI bc ≤ B k := by
    intro k hk e
    obtain ⟨c, c1, c2⟩ := mFb_cnt R2 (fun _ => 0) n k hk
    have := mFb_le R2 (fun _ => 0) n
    rw [hB k hk, c2, hbc, nI_leI (by omega) (by omega)] at e
    omega
  have e1 : (mPl E n).toInt = pSm (fun j => (E j).toInt) B (nI bc) n := by
    rw [← gL_pl E B hc n (Nat.le_refl _)]; exact gL_n hn (fun k hk => (hE k hk).2) B (nI bc) n (Nat.le_refl _)
  have bd := pSm_bd (E := fun j => (E j).toInt) hn (fun k hk => (hE k hk).2) B (nI bc) n (Nat.le_refl _)
  rw [← e1] at bd
  refine ⟨(0, n, E, R2, Z2, B2, BR, wt, rk, U2, br, lc, jo2, wk2), (mPl E n).toInt, (rel_mk h1 hn hE hZ hRR hB hbc hK hw hU hwk hj hlc hbr), fun sz => ?_, fun sz => ?_, by generalize (mPl E n).toInt = z at bd ⊢; omega⟩
  · exact by rw [e1]; exact kX2_plain l D ad cy sz _ _ _ _ _ _ _ _ _ _ _ _ _ _ _ _ (fun j => (E j).toInt) hE hn
  · exact kX3_plain l D ad2 cy2 sz _ _ _ _ _ _ _ _ _ _ _ _ _ _ hn (by generalize (mPl E n).toInt = z at bd ⊢; omega)

theorem op_work (l : Launch) (D : va_G) (ad : Nat → Nat) (cy : Nat → ClassId) (ad2 : Nat → Nat) (cy2 : Nat → ClassId) (σ : CS) (μ : MS) (hR : Rel σ μ) : ∃ (μ2 : MS) (r : Int64), Rel σ μ2 ∧ (∀ sz, mL l yX2_work wsX2_work ({ frames := 0, cells := 0, slots := 0, locals := 0 }) [.ref (ad 0)] D (cT cy) (cWs ad cy σ) sz r (cWs ad cy σ) 0 0) ∧ (∀ sz, mL l yX3_work wsX3_work ({ frames := 0, cells := 0, slots := 0, locals := 0 }) [.ref (ad2 0)] D (mT cy2) (mWs ad2 cy2 μ) sz r (mWs ad2 cy2 μ2) 0 0) := by
  obtain ⟨n0, V, Z, R, K, B, M, bc, G, L, S, q, w, U, wk, jo⟩ := σ
  obtain ⟨th, n, E, R2, Z2, B2, BR, wt, rk, U2, br, lc, jo2, wk2⟩ := μ
  obtain ⟨⟨hn2, h1, hn⟩, hE, hZ, hRR, hB, hbc, hK, hw, hU, hwk, hj, hlc, hbr⟩ := hR
  subst hn2
  refine ⟨(0, n, E, R2, Z2, B2, BR, wt, rk, U2, br, lc, jo2, wk2), wk, (rel_mk h1 hn hE hZ hRR hB hbc hK hw hU hwk hj hlc hbr), fun sz => ?_, fun sz => ?_⟩
  · exact kX2_work l D ad cy sz _ _ _ _ _ _ _ _ _ _ _ _ _ _ _ _ 
  · exact by rw [hwk]; exact kX3_work l D ad2 cy2 sz _ _ _ _ _ _ _ _ _ _ _ _ _ _ 

theorem op_broken (l : Launch) (D : va_G) (ad : Nat → Nat) (cy : Nat → ClassId) (ad2 : Nat → Nat) (cy2 : Nat → ClassId) (σ : CS) (μ : MS) (hR : Rel σ μ) : ∃ (μ2 : MS) (r : Int32), Rel σ μ2 ∧ (∀ sz, mI l yX2_broken wsX2_broken ({ frames := 3, cells := 0, slots := 0, locals := 60 }) [.ref (ad 0)] D (cT cy) (cWs ad cy σ) sz r (cWs ad cy σ) 0 0) ∧ (∀ sz, mI l yX3_broken wsX3_broken ({ frames := 0, cells := 0, slots := 0, locals := 0 }) [.ref (ad2 0)] D (mT cy2) (mWs ad2 cy2 μ) sz r (mWs ad2 cy2 μ2) 0 0) := by
  obtain ⟨n0, V, Z, R, K, B, M, bc, G, L, S, q, w, U, wk, jo⟩ := σ
  obtain ⟨th, n, E, R2, Z2, B2, BR, wt, rk, U2, br, lc, jo2, wk2⟩ := μ
  obtain ⟨⟨hn2, h1, hn⟩, hE, hZ, hRR, hB, hbc, hK, hw, hU, hwk, hj, hlc, hbr⟩ := hR
  subst hn2
  refine ⟨(0, n, E, R2, Z2, B2, BR, wt, rk, U2, br, lc, jo2, wk2), (G - pBC L), (rel_mk h1 hn hE hZ hRR hB hbc hK hw hU hwk hj hlc hbr), fun sz => ?_, fun sz => ?_⟩
  · exact kX2_broken l D ad cy sz _ _ _ _ _ _ _ _ _ _ _ _ _ _ _ _ 
  · exact by rw [← hbr]; exact kX3_broken l D ad2 cy2 sz _ _ _ _ _ _ _ _ _ _ _ _ _ _ 

theorem op_live (l : Launch) (D : va_G) (ad : Nat → Nat) (cy : Nat → ClassId) (ad2 : Nat → Nat) (cy2 : Nat → ClassId) (σ : CS) (μ : MS) (hR : Rel σ μ) : ∃ (μ2 : MS) (r : Int32), Rel σ μ2 ∧ (∀ sz, mI l yX2_live wsX2_live ({ frames := 2, cells := 0, slots := 0, locals := 40 }) [.ref (ad 0)] D (cT cy) (cWs ad cy σ) sz r (cWs ad cy σ) 0 0) ∧ (∀ sz, mI l yX3_live wsX3_live ({ frames := 0, cells := 0, slots := 0, locals := 0 }) [.ref (ad2 0)] D (mT cy2) (mWs ad2 cy2 μ) sz r (mWs ad2 cy2 μ2) 0 0) := by
  obtain ⟨n0, V, Z, R, K, B, M, bc, G, L, S, q, w, U, wk, jo⟩ := σ
  obtain ⟨th, n, E, R2, Z2, B2, BR, wt, rk, U2, br, lc, jo2, wk2⟩ := μ
  obtain ⟨⟨hn2, h1, hn⟩, hE, hZ, hRR, hB, hbc, hK, hw, hU, hwk, hj, hlc, hbr⟩ := hR
  subst hn2
  refine ⟨(0, n, E, R2, Z2, B2, BR, wt, rk, U2, br, lc, jo2, wk2), (pBC L), (rel_mk h1 hn hE hZ hRR hB hbc hK hw hU hwk hj hlc hbr), fun sz => ?_, fun sz => ?_⟩
  · exact kX2_live l D ad cy sz _ _ _ _ _ _ _ _ _ _ _ _ _ _ _ _ 
  · exact by rw [← hlc]; exact kX3_live l D ad2 cy2 sz _ _ _ _ _ _ _ _ _ _ _ _ _ _ 

