/-! bits of the masks; the count of bits; the draws -/
theorem i_nle {a b : Int32} (h : a < b) : ¬ b ≤ a := by rw [fa_lt] at h; rw [fa_le]; omega
theorem i_of_nlt {a b : Int32} (h : ¬ a < b) : b ≤ a := by rw [fa_lt] at h; rw [fa_le]; omega
theorem pBit_bv {w : Nat} (h : w < 32) : (pBit (nI w)).toBitVec = BitVec.twoPow 32 w := nf_sh w h
theorem b_pBit {w : Nat} (h : w < 32) (i : Nat) : bt (pBit (nI w)) i = decide (i = w) := by
  unfold bt
  rw [pBit_bv h, BitVec.getLsbD_twoPow]
  by_cases e : i = w
  · subst e; simp [h]
  · rw [decide_eq_false e, show decide (w = i) = false from decide_eq_false (fun q => e q.symm), Bool.and_false]
theorem q_test (x : Int32) {w : Nat} (h : w < 32) : x &&& pBit (nI w) = 0 ↔ bt x w = false := by
  constructor
  · intro e
    have h1 := congrArg (fun z => bt z w) e
    simp only [b_and, b_pBit h, b_0] at h1
    simpa using h1
  · intro e
    refine b_ext (fun i hi => ?_)
    rw [b_and, b_pBit h, b_0]
    by_cases q : i = w
    · rw [q, e, Bool.false_and]
    · rw [decide_eq_false q, Bool.and_false]
theorem q_or (x : Int32) {w : Nat} (h : w < 32) (i : Nat) : bt (x ||| pBit (nI w)) i = (bt x i || decide (i = w)) := by rw [b_or, b_pBit h]
theorem q_clear (x : Int32) {w : Nat} (h : w < 32) {i : Nat} (hi : i < 32) : bt (x &&& (pBit (nI w) ^^^ (-1))) i = (bt x i && !decide (i = w)) := by
  rw [b_and, b_xor, b_pBit h, b_m1 i hi, Bool.xor_true]
theorem q_and1 (z : Int32) : z &&& 1 = if bt z 0 = true then 1 else 0 := by
  have h1 : ∀ i, bt 1 i = decide (i = 0) := fun i => b_pBit (w := 0) (by decide) i
  refine b_ext (fun i hi => ?_)
  rw [b_and, h1]
  by_cases q : i = 0
  · subst q
    cases hz : bt z 0
    · rw [if_neg (by decide), b_0]; rfl
    · rw [if_pos rfl, h1]; rfl
  · rw [decide_eq_false q, Bool.and_false]
    cases hz : bt z 0
    · rw [if_neg (by decide), b_0]
    · rw [if_pos rfl, h1, decide_eq_false q]
theorem q_shr (x : Int32) {w : Nat} (h : w < 32) : (x >>> (nI w &&& 31)) &&& 1 = if bt x w = true then 1 else 0 := by
  rw [q_and1, b_sshr w h x (by decide), Nat.add_zero, if_pos h]
def bl (y : Int64) (k : Nat) : Bool := y.toBitVec.getLsbD k
theorem l_ext {x y : Int64} (h : ∀ i, i < 64 → bl x i = bl y i) : x = y := Int64.toBitVec_inj.mp (BitVec.eq_of_getLsbD_eq (fun i hi => h i hi))
theorem l_0 (i : Nat) : bl 0 i = false := BitVec.getLsbD_zero
theorem l_sm : ∀ k, k < 64 → (((nI k).toInt64 &&& 63).toBitVec.smod 64).toNat = k := by decide +kernel
theorem l_tp : ∀ k, k < 64 → ((1 : Int64) <<< ((nI k).toInt64 &&& 63)).toBitVec = BitVec.twoPow 64 k := by decide +kernel
theorem l_bit {k : Nat} (h : k < 64) (i : Nat) : bl ((1 : Int64) <<< ((nI k).toInt64 &&& 63)) i = decide (i = k) := by
  unfold bl
  rw [l_tp k h, BitVec.getLsbD_twoPow]
  by_cases e : i = k
  · subst e; simp [h]
  · rw [decide_eq_false e, show decide (k = i) = false from decide_eq_false (fun q => e q.symm), Bool.and_false]
theorem l_or (x : Int64) {k : Nat} (h : k < 64) (i : Nat) : bl (x ||| ((1 : Int64) <<< ((nI k).toInt64 &&& 63))) i = (bl x i || decide (i = k)) := by
  have e := l_bit h i
  unfold bl at e ⊢
  rw [Int64.toBitVec_or, BitVec.getLsbD_or, e]
theorem l_and1 (z : Int64) : z &&& 1 = if bl z 0 = true then 1 else 0 := by
  have h1 : ∀ i, bl 1 i = decide (i = 0) := fun i => l_bit (k := 0) (by decide) i
  have ha : ∀ i, bl (z &&& 1) i = (bl z i && bl 1 i) := fun i => by unfold bl; rw [Int64.toBitVec_and, BitVec.getLsbD_and]
  refine l_ext (fun i hi => ?_)
  rw [ha, h1]
  by_cases q : i = 0
  · subst q
    cases hz : bl z 0
    · rw [if_neg (by decide), l_0]; rfl
    · rw [if_pos rfl, h1]; rfl
  · rw [decide_eq_false q, Bool.and_false]
    cases hz : bl z 0
    · rw [if_neg (by decide), l_0]
    · rw [if_pos rfl, h1, decide_eq_false q]
theorem l_shr (x : Int64) {k : Nat} (h : k < 64) : (x >>> ((nI k).toInt64 &&& 63)) &&& 1 = if bl x k = true then 1 else 0 := by
  have e : bl (x >>> ((nI k).toInt64 &&& 63)) 0 = bl x k := by
    unfold bl
    rw [Int64.toBitVec_shiftRight]
    show (x.toBitVec.sshiftRight (((nI k).toInt64 &&& 63).toBitVec.smod 64).toNat).getLsbD 0 = _
    rw [l_sm k h, BitVec.getLsbD_sshiftRight]
    simp [h]
  rw [l_and1, e]
/-! the count of bits -/
def cb (m : Nat) : Nat → Nat
  | 0 => 0
  | k + 1 => cb m k + (if m.testBit k = true then 1 else 0)
theorem cb_le (m : Nat) : ∀ k, cb m k ≤ k := by
  intro k
  induction k with
  | zero => exact Nat.le_refl _
  | succ k ih => show cb m k + _ ≤ _; split <;> omega
theorem cb_mono (m : Nat) : ∀ j k, cb m k ≤ cb m (k + j) := by
  intro j k
  induction j with
  | zero => exact Nat.le_refl _
  | succ j ih => show _ ≤ cb m (k + j) + _; omega
def pN1 (m : Nat) : Nat := m - (m / 2 &&& 1431655765)
def pN2 (m : Nat) : Nat := (m &&& 858993459) + (m / 4 &&& 858993459)
def pN3 (m : Nat) : Nat := (m + m / 16) &&& 252645135
def pN4 (m : Nat) : Nat := m + m / 256
def pN5 (m : Nat) : Nat := m + m / 65536
def pN (m : Nat) : Nat := pN5 (pN4 (pN3 (pN2 (pN1 m)))) &&& 63
theorem us_n {n k p : Nat} (hn : n < 2 ^ 32) (hk : k < 32) (hp : 2 ^ k = p) : us (nI n) (nI k) = nI (n / p) := by
  rw [← hp]; exact pk_ushrN hn (nI k) k (s_u k hk)
theorem and_le (a b : Nat) : a &&& b ≤ b := Nat.and_le_right
theorem pBC_n {m : Nat} (h : m < 65536) : pBC (nI m) = nI (pN m) := by
  have e1 : pB1 (nI m) = nI (pN1 m) := by
    unfold pB1 pN1
    rw [show (1 : Int32) = nI 1 from rfl, us_n (by omega) (by decide) (p := 2) rfl, show (1431655765 : Int32) = nI 1431655765 from rfl, fa_and]
    exact pk_sub (Nat.le_trans Nat.and_le_left (Nat.div_le_self _ _))
  have h1 : pN1 m < 65536 := by unfold pN1; omega
  have e2 : pB2 (nI (pN1 m)) = nI (pN2 (pN1 m)) := by
    unfold pB2 pN2
    rw [show (2 : Int32) = nI 2 from rfl, us_n (by omega) (by decide) (p := 4) rfl, show (858993459 : Int32) = nI 858993459 from rfl, fa_and, fa_and, nI_add]
  have h2 : pN2 (pN1 m) < 131072 := by
    unfold pN2
    have := Nat.and_le_left (n := pN1 m) (m := 858993459)
    have := Nat.and_le_left (n := pN1 m / 4) (m := 858993459)
    omega
  have e3 : pB3 (nI (pN2 (pN1 m))) = nI (pN3 (pN2 (pN1 m))) := by
    unfold pB3 pN3
    rw [show (4 : Int32) = nI 4 from rfl, us_n (by omega) (by decide) (p := 16) rfl, nI_add, show (252645135 : Int32) = nI 252645135 from rfl, fa_and]
  have h3 : pN3 (pN2 (pN1 m)) < 262144 := by
    unfold pN3
    have := Nat.and_le_left (n := pN2 (pN1 m) + pN2 (pN1 m) / 16) (m := 252645135)
    omega
  have e4 : pB4 (nI (pN3 (pN2 (pN1 m)))) = nI (pN4 (pN3 (pN2 (pN1 m)))) := by
    unfold pB4 pN4
    rw [show (8 : Int32) = nI 8 from rfl, us_n (by omega) (by decide) (p := 256) rfl, nI_add]
  have h4 : pN4 (pN3 (pN2 (pN1 m))) < 524288 := by unfold pN4; omega
  have e5 : pB5 (nI (pN4 (pN3 (pN2 (pN1 m))))) = nI (pN5 (pN4 (pN3 (pN2 (pN1 m))))) := by
    unfold pB5 pN5
    rw [show (16 : Int32) = nI 16 from rfl, us_n (by omega) (by decide) (p := 65536) rfl, nI_add]
  unfold pBC pN
  rw [e1, e2, e3, e4, e5, show (63 : Int32) = nI 63 from rfl, fa_and]
def kN1 (m : Nat) : Nat := Nat.sub m (Nat.land (Nat.div m 2) 1431655765)
def kN2 (m : Nat) : Nat := Nat.add (Nat.land m 858993459) (Nat.land (Nat.div m 4) 858993459)
def kN3 (m : Nat) : Nat := Nat.land (Nat.add m (Nat.div m 16)) 252645135
def kN4 (m : Nat) : Nat := Nat.add m (Nat.div m 256)
def kN5 (m : Nat) : Nat := Nat.add m (Nat.div m 65536)
def kN (m : Nat) : Nat := Nat.land (kN5 (kN4 (kN3 (kN2 (kN1 m))))) 63
theorem kN_eq (m : Nat) : kN m = pN m := rfl
def tk (m : Nat) : Bool := and (Nat.beq (kN (Nat.add m m)) (kN m)) (Nat.beq (kN (Nat.succ (Nat.add m m))) (Nat.succ (kN m)))
def chk (lo n : Nat) : Bool := Nat.rec true (fun i ih => and (tk (Nat.add lo i)) ih) n
theorem chk_all (lo : Nat) : ∀ n, chk lo n = true → ∀ i, i < n → tk (lo + i) = true := by
  intro n
  induction n with
  | zero => intro _ m h; exact absurd h (Nat.not_lt_zero m)
  | succ n ih =>
    intro h m hm
    have h2 : and (tk (lo + n)) (chk lo n) = true := h
    rw [Bool.and_eq_true] at h2
    rcases Nat.lt_or_ge m n with q | q
    · exact ih h2.2 m q
    · obtain rfl : m = n := by omega
      exact h2.1
theorem chk_0 : chk 0 2048 = true := by decide +kernel
theorem chk_1 : chk 2048 2048 = true := by decide +kernel
theorem chk_2 : chk 4096 2048 = true := by decide +kernel
theorem chk_3 : chk 6144 2048 = true := by decide +kernel
theorem chk_4 : chk 8192 2048 = true := by decide +kernel
theorem chk_5 : chk 10240 2048 = true := by decide +kernel
theorem chk_6 : chk 12288 2048 = true := by decide +kernel
theorem chk_7 : chk 14336 2048 = true := by decide +kernel
theorem chk_8 : chk 16384 2048 = true := by decide +kernel
theorem chk_9 : chk 18432 2048 = true := by decide +kernel
theorem chk_10 : chk 20480 2048 = true := by decide +kernel
theorem chk_11 : chk 22528 2048 = true := by decide +kernel
theorem chk_12 : chk 24576 2048 = true := by decide +kernel
theorem chk_13 : chk 26624 2048 = true := by decide +kernel
theorem chk_14 : chk 28672 2048 = true := by decide +kernel
theorem chk_15 : chk 30720 2048 = true := by decide +kernel
theorem tk_all {m : Nat} (h : m < 32768) : tk m = true := by
  have e : m = m / 2048 * 2048 + m % 2048 := by omega
  have h1 : m / 2048 < 16 := by omega
  have h2 := Nat.mod_lt m (show 0 < 2048 by decide)
  rw [e]
  generalize m / 2048 = a at h1 ⊢
  match a, h1 with
  | 0, _ => exact chk_all 0 2048 chk_0 _ h2
  | 1, _ => exact chk_all 2048 2048 chk_1 _ h2
  | 2, _ => exact chk_all 4096 2048 chk_2 _ h2
  | 3, _ => exact chk_all 6144 2048 chk_3 _ h2
  | 4, _ => exact chk_all 8192 2048 chk_4 _ h2
  | 5, _ => exact chk_all 10240 2048 chk_5 _ h2
  | 6, _ => exact chk_all 12288 2048 chk_6 _ h2
  | 7, _ => exact chk_all 14336 2048 chk_7 _ h2
  | 8, _ => exact chk_all 16384 2048 chk_8 _ h2
  | 9, _ => exact chk_all 18432 2048 chk_9 _ h2
  | 10, _ => exact chk_all 20480 2048 chk_10 _ h2
  | 11, _ => exact chk_all 22528 2048 chk_11 _ h2
  | 12, _ => exact chk_all 24576 2048 chk_12 _ h2
  | 13, _ => exact chk_all 26624 2048 chk_13 _ h2
  | 14, _ => exact chk_all 28672 2048 chk_14 _ h2
  | 15, _ => exact chk_all 30720 2048 chk_15 _ h2
  | a + 16, h => exact absurd h (by omega)
