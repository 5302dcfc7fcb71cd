/-! the live bits as a number below 65536; who is drawn -/
theorem cb_half (m : Nat) : ∀ k, cb m (k + 1) = m % 2 + cb (m / 2) k := by
  intro k
  induction k with
  | zero =>
    show 0 + (if m.testBit 0 = true then 1 else 0) = m % 2 + 0
    rw [Nat.testBit_zero]
    rcases Nat.mod_two_eq_zero_or_one m with q | q <;> rw [q] <;> simp
  | succ k ih =>
    show cb m (k + 1) + (if m.testBit (k + 1) = true then 1 else 0) = m % 2 + (cb (m / 2) k + (if (m / 2).testBit k = true then 1 else 0))
    rw [ih, Nat.testBit_succ]; omega
theorem pN_cb : ∀ (k m : Nat), k ≤ 16 → m < 2 ^ k → pN m = cb m k := by
  intro k
  induction k with
  | zero =>
    intro m _ h
    obtain rfl : m = 0 := by omega
    rfl
  | succ k ih =>
    intro m hk h
    rw [Nat.pow_succ] at h
    have hp : 2 ^ k ≤ 2 ^ 15 := Nat.pow_le_pow_right (by decide) (by omega)
    have ht := tk_all (m := m / 2) (by omega)
    unfold tk at ht
    rw [Bool.and_eq_true] at ht
    have h1 : pN (m / 2 + m / 2) = pN (m / 2) := Nat.eq_of_beq_eq_true ht.1
    have h2 : pN (m / 2 + m / 2 + 1) = pN (m / 2) + 1 := Nat.eq_of_beq_eq_true ht.2
    rw [cb_half, ← ih (m / 2) (by omega) (by omega)]
    rcases Nat.mod_two_eq_zero_or_one m with q | q
    · rw [show m / 2 + m / 2 = m by omega] at h1; rw [q, h1]; omega
    · rw [show m / 2 + m / 2 + 1 = m by omega] at h2; rw [q, h2]; omega
theorem pBC_cb {m : Nat} (h : m < 65536) : pBC (nI m) = nI (cb m 16) := by rw [pBC_n h, pN_cb 16 m (Nat.le_refl _) h]
theorem bt_nI {m i : Nat} (hi : i < 32) : bt (nI m) i = m.testBit i := by
  unfold bt
  show (BitVec.ofNat 32 m).getLsbD i = _
  rw [BitVec.getLsbD_ofNat]
  simp [hi]
theorem bt_hi {m i : Nat} (h : m < 65536) (hi : 16 ≤ i) : m.testBit i = false := Nat.testBit_lt_two_pow (Nat.lt_of_lt_of_le h (Nat.pow_le_pow_right (by decide) hi : 2 ^ 16 ≤ 2 ^ i))
/-- bit w goes -/
theorem clear_n {m w : Nat} (h : m < 65536) (hw : w < 16) (hb : m.testBit w = true) : nI m &&& (pBit (nI w) ^^^ (-1)) = nI (m ^^^ 2 ^ w) := by
  refine b_ext (fun i hi => ?_)
  rw [q_clear _ (by omega) hi, bt_nI hi, bt_nI hi, Nat.testBit_xor, Nat.testBit_two_pow]
  by_cases q : i = w
  · subst q; rw [hb]; simp
  · rw [decide_eq_false q, show decide (w = i) = false from decide_eq_false (fun z => q z.symm)]; simp
theorem clear_lt {m w : Nat} (h : m < 65536) (hw : w < 16) : m ^^^ 2 ^ w < 65536 := Nat.xor_lt_two_pow (n := 16) h (Nat.pow_lt_pow_right (by decide) hw)
theorem cb_clear {m w : Nat} (hb : m.testBit w = true) : ∀ k, cb (m ^^^ 2 ^ w) k + (if w < k then 1 else 0) = cb m k := by
  intro k
  induction k with
  | zero => rfl
  | succ k ih =>
    show cb (m ^^^ 2 ^ w) k + _ + _ = cb m k + _
    rw [Nat.testBit_xor, Nat.testBit_two_pow]
    by_cases q : w = k
    · subst q
      rw [if_neg (Nat.lt_irrefl w)] at ih
      rw [hb]
      simp
      omega
    · rw [show decide (w = k) = false from decide_eq_false q, Bool.xor_false]
      by_cases q2 : w < k
      · rw [if_pos q2] at ih; rw [if_pos (show w < k + 1 by omega)]; omega
      · rw [if_neg q2] at ih; rw [if_neg (show ¬ w < k + 1 by omega)]; omega
theorem mask_n : ∀ u, u < 17 → 1 ≤ u → pBit (nI u) - 1 = nI (2 ^ u - 1) ∧ 2 ^ u - 1 < 65536 ∧ cb (2 ^ u - 1) 16 = u := by decide +kernel
/-- the worker of a number: he is live -/
theorem lw_n {m : Nat} (h : m < 65536) : ∀ (k w j : Nat), w + k = 16 → cb m w + j < cb m 16 → j < 16 → ∃ v, v < 16 ∧ pLwF (nI m) k w (nI j) = nI v ∧ m.testBit v = true := by
  intro k
  induction k with
  | zero =>
    intro w j hw hc hj
    obtain rfl : w = 16 := by omega
    omega
  | succ k ih =>
    intro w j hw hc hj
    have hs : cb m (w + 1) = cb m w + (if m.testBit w = true then 1 else 0) := rfl
    by_cases hb : m.testBit w = true
    · have ht : ¬ nI m &&& pBit (nI w) = 0 := fun e => by rw [q_test _ (by omega), bt_nI (by omega), hb] at e; cases e
      rw [if_pos hb] at hs
      cases j with
      | zero =>
        refine ⟨w, by omega, ?_, hb⟩
        rw [pLwF, if_neg ht, if_pos nI_0]
      | succ j =>
        obtain ⟨v, h1, h2, h3⟩ := ih (w + 1) j (by omega) (by omega) (by omega)
        refine ⟨v, h1, ?_, h3⟩
        rw [pLwF, if_neg ht, if_neg (nI_ne0 (by omega) (by omega)), pk_m1]
        exact h2
    · have ht : nI m &&& pBit (nI w) = 0 := by rw [q_test _ (by omega), bt_nI (by omega)]; simpa using hb
      rw [if_neg hb] at hs
      obtain ⟨v, h1, h2, h3⟩ := ih (w + 1) j (by omega) (by omega) hj
      exact ⟨v, h1, by rw [pLwF, if_pos ht]; exact h2, h3⟩
theorem ix_n (S : Int64) {k : Nat} (h0 : 0 < k) (hk : k < 2 ^ 31) : ∃ j, j < k ∧ pIx S (nI k) = nI j := by
  obtain ⟨u, hu, rfl⟩ := wb_of S
  refine ⟨u / 2 ^ 33 % k, Nat.mod_lt _ h0, ?_⟩
  have e : ul (lN u) (nI 33) = lN (u / 2 ^ 33) := wb_shr hu (by decide)
  unfold pIx
  rw [e, nI_l hk, pk_lRem (by omega) h0 (by omega), lN_i]
/-- somebody is drawn, and he is live -/
theorem draw_n {m : Nat} (h : m < 65536) (h0 : ¬ pBC (nI m) = 0) (S : Int64) : ∃ v, v < 16 ∧ pLw (nI m) (pIx S (pBC (nI m))) = nI v ∧ m.testBit v = true ∧ pIx S (pBC (nI m)) < nI 16 ∧ ∃ j, j < 16 ∧ pIx S (pBC (nI m)) = nI j := by
  rw [pBC_cb h] at h0 ⊢
  have h1 := cb_le m 16
  have h2 : 0 < cb m 16 := by
    rcases Nat.eq_zero_or_pos (cb m 16) with q | q
    · rw [q] at h0; exact absurd nI_0 h0
    · exact q
  obtain ⟨j, hj, e⟩ := ix_n S h2 (by omega)
  obtain ⟨v, a1, a2, a3⟩ := lw_n h 16 0 j rfl (by show 0 + j < _; omega) (by omega)
  rw [e]
  exact ⟨v, a1, a2, a3, nI_lt (by omega) (by omega), j, by omega, rfl⟩
theorem nI_ne_m1 {v : Nat} (h : v < 2 ^ 31) : ¬ nI v = -1 := by
  intro e
  have h1 := congrArg Int32.toInt e
  rw [nI_toInt h] at h1
  have h2 : (-1 : Int32).toInt = -1 := by decide
  omega
