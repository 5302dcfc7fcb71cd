/-! numbers in sixty-fourths as doubles: exact while they are small -/
def Fz (z : Int) : FP.Core.Datum := .fin (decide (z < 0)) z.natAbs (-6)
def Dz (z : Int) : UInt64 := FP.Core.of64 (FP.Core.round FP.Core.b64 (Fz z))
theorem fz_round (s : Bool) (A k : Nat) : FP.Core.round FP.Core.b64 (.fin s (A * 2 ^ k) (-6 - (k : Int))) = FP.Core.round FP.Core.b64 (.fin s A (-6)) := by
  refine FP.Core.roundRatio_congr (by decide) (by decide) ?_
  rw [show ((-6 - (k : Int)) - -6).toNat = 0 by omega, show ((-6 : Int) - (-6 - (k : Int))).toNat = k by omega]
  simp
theorem fz_val {z : Int} (h : z.natAbs < 2 ^ 53) : ∃ k : Nat, FP.Core.val64 (Dz z) = .fin (decide (z < 0)) (z.natAbs * 2 ^ k) (-6 - (k : Int)) := by
  have hv : FP.Core.val64 (Dz z) = FP.Core.round FP.Core.b64 (Fz z) := FP.Core.val64_of64 (FP.Core.round_fits FP.Core.good_b64 _)
  by_cases h0 : z.natAbs = 0
  · refine ⟨1068, ?_⟩
    rw [hv, h0]
    show FP.Core.roundRatio _ _ _ _ _ = _
    unfold FP.Core.roundRatio
    rw [if_pos h0, Nat.zero_mul]
    rfl
  · have hl : z.natAbs.log2 < 53 := (Nat.log2_lt h0).mpr h
    refine ⟨52 - z.natAbs.log2, ?_⟩
    have h1 : 2 ^ z.natAbs.log2 ≤ z.natAbs := Nat.log2_self_le h0
    have h2 : z.natAbs < 2 ^ (z.natAbs.log2 + 1) := Nat.lt_log2_self
    generalize hL : z.natAbs.log2 = L at h1 h2 hl
    have e1 : (2 : Nat) ^ 52 = 2 ^ L * 2 ^ (52 - L) := by rw [← Nat.pow_add]; congr 1; omega
    have e2 : (2 : Nat) ^ 53 = 2 ^ (L + 1) * 2 ^ (52 - L) := by rw [← Nat.pow_add]; congr 1; omega
    have p := Nat.two_pow_pos (52 - L)
    rw [hv]
    refine FP.Core.roundRatio_exact FP.Core.good_b64 (by decide) ⟨?_, ?_, ?_, Or.inr ?_⟩ ?_
    · show z.natAbs * 2 ^ (52 - L) < 2 ^ 53
      rw [e2]; exact (Nat.mul_lt_mul_right p).mpr h2
    · show (-1074 : Int) ≤ _; omega
    · show _ ≤ (971 : Int); omega
    · show 2 ^ 52 ≤ z.natAbs * 2 ^ (52 - L)
      rw [e1]; exact Nat.mul_le_mul_right _ h1
    · rw [show ((-6 : Int) - (-6 - ((52 - L : Nat) : Int))).toNat = 52 - L by omega, show ((-6 - ((52 - L : Nat) : Int)) - -6).toNat = 0 by omega]
      simp
theorem fz_signed (z : Int) (m : Nat) : FP.Core.signed (decide (z < 0)) (z.natAbs * m) = z * (m : Int) := by
  unfold FP.Core.signed
  by_cases h : z < 0
  · rw [if_pos (by simpa using h)]
    have e : (z.natAbs : Int) = -z := by omega
    rw [Int.natCast_mul, e, Int.neg_mul, Int.neg_neg]
  · rw [if_neg (by simpa using h)]
    have e : (z.natAbs : Int) = z := by omega
    rw [Int.natCast_mul, e]
theorem fz_units (z : Int) (k M : Nat) (h : k ≤ M) : FP.Core.inUnits (z.natAbs * 2 ^ k) (-6 - (k : Int)) (-6 - (M : Int)) = z.natAbs * 2 ^ M := by
  unfold FP.Core.inUnits
  rw [show ((-6 - (k : Int)) - (-6 - (M : Int))).toNat = M - k by omega, Nat.mul_assoc, ← Nat.pow_add, show k + (M - k) = M by omega]
theorem fz_min (k j : Nat) : min (-6 - (k : Int)) (-6 - (j : Int)) = -6 - ((max k j : Nat) : Int) := by omega
theorem dz_add {a b : Int} (ha : a.natAbs < 2 ^ 53) (hb : b.natAbs < 2 ^ 53) : FP.dadd (Dz a) (Dz b) = Dz (a + b) := by
  obtain ⟨k, ea⟩ := fz_val ha
  obtain ⟨j, eb⟩ := fz_val hb
  show FP.Core.of64 (FP.Core.round FP.Core.b64 (FP.Core.exactSum (FP.Core.val64 (Dz a)) (FP.Core.val64 (Dz b)))) = FP.Core.of64 _
  rw [ea, eb]
  congr 1
  have hu : FP.Core.sumUnits (decide (a < 0)) (a.natAbs * 2 ^ k) (-6 - (k : Int)) (decide (b < 0)) (b.natAbs * 2 ^ j) (-6 - (j : Int)) (min (-6 - (k : Int)) (-6 - (j : Int))) = (a + b) * ((2 ^ max k j : Nat) : Int) := by
    unfold FP.Core.sumUnits
    rw [fz_min, fz_units _ _ _ (Nat.le_max_left k j), fz_units _ _ _ (Nat.le_max_right k j), fz_signed, fz_signed, Int.add_mul]
  show FP.Core.round FP.Core.b64 (.fin (FP.Core.sumSign _ _ _) _ _) = _
  rw [hu, fz_min]
  have hp : 0 < ((2 ^ max k j : Nat) : Int) := by have := Nat.two_pow_pos (max k j); omega
  have hs : FP.Core.sumSign (decide (a < 0)) (decide (b < 0)) ((a + b) * ((2 ^ max k j : Nat) : Int)) = decide (a + b < 0) := by
    unfold FP.Core.sumSign
    by_cases h : a + b = 0
    · rw [if_pos (by rw [h, Int.zero_mul]), h]
      rw [Bool.eq_iff_iff]; simp; omega
    · rw [if_neg (fun h2 => by rcases Int.mul_eq_zero.mp h2 with q | q; exact h q; omega)]
      rw [Bool.eq_iff_iff]; simp only [decide_eq_true_eq]
      constructor
      · intro h2
        rcases (show a + b < 0 ∨ 0 ≤ a + b by omega) with q | q
        · exact q
        · exact absurd (Int.mul_nonneg q (Int.le_of_lt hp)) (by omega)
      · intro h2; exact Int.mul_neg_of_neg_of_pos h2 hp
  rw [hs, Int.natAbs_mul, Int.natAbs_natCast]
  exact fz_round _ _ _
theorem dz_mul {a b z : Int} (ha : a.natAbs < 2 ^ 53) (hb : b.natAbs < 2 ^ 53) (hz : a * b = 64 * z) (hs : (decide (a < 0) != decide (b < 0)) = decide (z < 0)) : FP.dmul (Dz a) (Dz b) = Dz z := by
  obtain ⟨k, ea⟩ := fz_val ha
  obtain ⟨j, eb⟩ := fz_val hb
  show FP.Core.of64 (FP.Core.round FP.Core.b64 (FP.Core.exactProduct (FP.Core.val64 (Dz a)) (FP.Core.val64 (Dz b)))) = FP.Core.of64 _
  rw [ea, eb]
  congr 1
  show FP.Core.round FP.Core.b64 (.fin _ (a.natAbs * 2 ^ k * (b.natAbs * 2 ^ j)) (-6 - (k : Int) + (-6 - (j : Int)))) = _
  have e1 : a.natAbs * b.natAbs = 64 * z.natAbs := by rw [← Int.natAbs_mul, hz, Int.natAbs_mul]; rfl
  rw [hs, show a.natAbs * 2 ^ k * (b.natAbs * 2 ^ j) = z.natAbs * 2 ^ (k + j + 6) by
    rw [show a.natAbs * 2 ^ k * (b.natAbs * 2 ^ j) = (a.natAbs * b.natAbs) * (2 ^ k * 2 ^ j) by ac_rfl, e1, Nat.pow_add, Nat.pow_add]
    rw [show (2 : Nat) ^ 6 = 64 from rfl]; ac_rfl, show (-6 - (k : Int) + (-6 - (j : Int))) = -6 - ((k + j + 6 : Nat) : Int) by omega]
  exact fz_round _ _ _
theorem dz_div {a b z : Int} (ha : a.natAbs < 2 ^ 53) (hb : b.natAbs < 2 ^ 53) (h0 : 0 < b) (hz : 64 * a = z * b) : FP.ddiv (Dz a) (Dz b) = Dz z := by
  obtain ⟨k, ea⟩ := fz_val ha
  obtain ⟨j, eb⟩ := fz_val hb
  show FP.Core.of64 (FP.Core.quotient FP.Core.b64 (FP.Core.val64 (Dz a)) (FP.Core.val64 (Dz b))) = FP.Core.of64 _
  rw [ea, eb]
  congr 1
  have hb0 : 0 < b.natAbs := by omega
  have hd : 0 < b.natAbs * 2 ^ j := Nat.mul_pos hb0 (Nat.two_pow_pos j)
  show (if b.natAbs * 2 ^ j = 0 then _ else FP.Core.roundRatio _ _ _ _ _) = _
  rw [if_neg (by omega)]
  have e1 : 64 * a.natAbs = z.natAbs * b.natAbs := by rw [← Int.natAbs_mul, ← hz, Int.natAbs_mul]; rfl
  have hs : (decide (a < 0) != decide (b < 0)) = decide (z < 0) := by
    rw [decide_eq_false (show ¬ b < 0 by omega)]
    rw [Bool.eq_iff_iff]; simp
    constructor
    · intro h
      rcases (show z < 0 ∨ 0 ≤ z by omega) with q | q
      · exact q
      · have := Int.mul_nonneg q (Int.le_of_lt h0); omega
    · intro h
      have := Int.mul_neg_of_neg_of_pos h h0; omega
  rw [hs]
  refine FP.Core.roundRatio_congr hd (by decide) ?_
  rw [show ((-6 - (k : Int)) - (-6 - (j : Int)) - -6).toNat = j + 6 - k by omega, show ((-6 : Int) - ((-6 - (k : Int)) - (-6 - (j : Int)))).toNat = k - (j + 6) by omega]
  rw [Nat.mul_one, ← Nat.mul_assoc, ← e1, Nat.mul_assoc, ← Nat.pow_add]
  by_cases h : k ≤ j + 6
  · rw [show k + (j + 6 - k) = j + 6 by omega, show k - (j + 6) = 0 by omega, Nat.pow_add, Nat.pow_zero, Nat.mul_one]
    rw [show (2 : Nat) ^ 6 = 64 from rfl]; ac_rfl
  · rw [show j + 6 - k = 0 by omega, Nat.add_zero, Nat.mul_assoc, Nat.mul_assoc, ← Nat.pow_add]
    rw [show (2 : Nat) ^ k = 64 * 2 ^ (j + (k - (j + 6))) by rw [show (64 : Nat) = 2 ^ 6 from rfl, ← Nat.pow_add]; congr 1; omega]
    ac_rfl
theorem dz_cmp {a b : Int} (ha : a.natAbs < 2 ^ 53) (hb : b.natAbs < 2 ^ 53) : FP.dcmp (Dz a) (Dz b) = some (compare a b) := by
  obtain ⟨k, ea⟩ := fz_val ha
  obtain ⟨j, eb⟩ := fz_val hb
  show FP.Core.order (FP.Core.val64 (Dz a)) (FP.Core.val64 (Dz b)) = _
  rw [ea, eb]
  show some (compare (FP.Core.signed _ (FP.Core.inUnits _ _ _)) (FP.Core.signed _ (FP.Core.inUnits _ _ _))) = _
  rw [fz_min, fz_units _ _ _ (Nat.le_max_left k j), fz_units _ _ _ (Nat.le_max_right k j), fz_signed, fz_signed]
  have hp : 0 < ((2 ^ max k j : Nat) : Int) := by have := Nat.two_pow_pos (max k j); omega
  generalize ((2 ^ max k j : Nat) : Int) = P at hp
  congr 1
  rw [FP.Core.compare_ite, FP.Core.compare_ite]
  rcases Int.lt_trichotomy a b with h | h | h
  · rw [if_pos h, if_pos (Int.mul_lt_mul_of_pos_right h hp)]
  · rw [h, if_neg (Int.lt_irrefl _), if_neg (Int.lt_irrefl _), if_pos rfl, if_pos rfl]
  · have h2 := Int.mul_lt_mul_of_pos_right h hp
    rw [if_neg (by omega), if_neg (by omega), if_neg (by omega), if_neg (by omega)]
theorem dz_i2d (x : Int32) : FP.i2d x = Dz (64 * x.toInt) := by
  show FP.Core.of64 (FP.Core.round FP.Core.b64 (.fin (decide (x.toInt < 0)) x.toInt.natAbs 0)) = FP.Core.of64 (FP.Core.round FP.Core.b64 (.fin (decide (64 * x.toInt < 0)) (64 * x.toInt).natAbs (-6)))
  congr 1
  rw [show decide (64 * x.toInt < 0) = decide (x.toInt < 0) by rw [Bool.eq_iff_iff]; simp only [decide_eq_true_eq]; omega]
  refine FP.Core.roundRatio_congr (by decide) (by decide) ?_
  rw [show ((0 : Int) - -6).toNat = 6 from rfl, show ((-6 : Int) - 0).toNat = 0 from rfl]
  omega
theorem dz_l2d (x : Int64) : FP.l2d x = Dz (64 * x.toInt) := by
  show FP.Core.of64 (FP.Core.round FP.Core.b64 (.fin (decide (x.toInt < 0)) x.toInt.natAbs 0)) = FP.Core.of64 (FP.Core.round FP.Core.b64 (.fin (decide (64 * x.toInt < 0)) (64 * x.toInt).natAbs (-6)))
  congr 1
  rw [show decide (64 * x.toInt < 0) = decide (x.toInt < 0) by rw [Bool.eq_iff_iff]; simp only [decide_eq_true_eq]; omega]
  refine FP.Core.roundRatio_congr (by decide) (by decide) ?_
  rw [show ((0 : Int) - -6).toNat = 6 from rfl, show ((-6 : Int) - 0).toNat = 0 from rfl]
  omega
theorem dz_trunc {z y : Int} (hz : z = 64 * y) (k : Nat) : FP.Core.truncate (decide (z < 0)) (z.natAbs * 2 ^ k) (-6 - (k : Int)) = y := by
  unfold FP.Core.truncate
  rw [show (-6 - (k : Int)).toNat = 0 by omega, show (-(-6 - (k : Int))).toNat = 6 + k by omega, Nat.pow_zero, Nat.mul_one, Nat.pow_add, Nat.mul_div_mul_right _ _ (Nat.two_pow_pos k)]
  rw [show z.natAbs / 2 ^ 6 = y.natAbs by rw [show (2 : Nat) ^ 6 = 64 from rfl]; omega]
  have h := fz_signed y 1
  rw [Nat.mul_one, show ((1 : Nat) : Int) = 1 from rfl, Int.mul_one] at h
  rw [show decide (z < 0) = decide (y < 0) by rw [Bool.eq_iff_iff]; simp only [decide_eq_true_eq]; omega]
  exact h
theorem dz_d2i (x : Int32) : FP.d2i (Dz (64 * x.toInt)) = x := by
  have hr1 := x.toInt_lt
  have hr2 := x.le_toInt
  obtain ⟨k, ea⟩ := fz_val (z := 64 * x.toInt) (by omega)
  show FP.Core.toI (FP.Core.val64 (Dz (64 * x.toInt))) = x
  rw [ea]
  show Int32.ofInt (max _ (min _ (FP.Core.truncate _ _ _))) = x
  rw [dz_trunc rfl]
  rw [show max (-2 ^ 31) (min (2 ^ 31 - 1) x.toInt) = x.toInt by omega]
  exact Int32.ofInt_toInt x
theorem dz_d2l (x : Int32) : FP.d2l (Dz (64 * x.toInt)) = x.toInt64 := by
  have hr1 := x.toInt_lt
  have hr2 := x.le_toInt
  obtain ⟨k, ea⟩ := fz_val (z := 64 * x.toInt) (by omega)
  show FP.Core.toL (FP.Core.val64 (Dz (64 * x.toInt))) = x.toInt64
  rw [ea]
  show Int64.ofInt (max _ (min _ (FP.Core.truncate _ _ _))) = x.toInt64
  rw [dz_trunc rfl]
  rw [show max (-2 ^ 63) (min (2 ^ 63 - 1) x.toInt) = x.toInt by omega]
  apply Int64.toInt_inj.mp
  rw [Int32.toInt_toInt64, Int64.toInt_ofInt]
  exact Int.bmod_eq_of_le (show -(((2 ^ 64 : Nat) : Int) / 2) ≤ x.toInt by omega) (show x.toInt < (((2 ^ 64 : Nat) : Int) + 1) / 2 by omega)
theorem dz_n64 {z : Int} (h : z.natAbs < 2 ^ 53) : vf_n64 (Dz z) := by
  obtain ⟨k, ea⟩ := fz_val h
  have h1 : (Dz z).toNat % 2 ^ 63 ≤ 9218868437227405312 := (FP.Core.ne_nan (Dz z)).mp (by rw [ea]; exact fun h => by cases h)
  unfold vf_n64
  rw [UInt64.le_iff_toNat_le, UInt64.toNat_and]
  rw [show (0x7fffffffffffffff : UInt64).toNat = 2 ^ 63 - 1 from rfl, Nat.and_two_pow_sub_one_eq_mod]
  exact h1
theorem dz_0 : FP.dconst0 = Dz 0 := by decide +kernel
theorem dz_05 : (4602678819172646912 : UInt64) = Dz 32 := by decide +kernel
theorem dz_0125 : (4593671619917905920 : UInt64) = Dz 8 := by decide +kernel
theorem dz_8 : (4620693217682128896 : UInt64) = Dz 512 := by decide +kernel
theorem dz_64 : (4634204016564240384 : UInt64) = Dz 4096 := by decide +kernel
theorem dz_1000 : (4652007308841189376 : UInt64) = Dz 64000 := by decide +kernel
theorem dz_m1000 : (13875379345695965184 : UInt64) = Dz (-64000) := by decide +kernel
/-- the result of a share: v * v + v * 0.5 + its number -/
theorem dz_sq {e : Int} (h : e.natAbs ≤ 8000) : FP.dmul (Dz (8 * e)) (Dz (8 * e)) = Dz (e * e) := by
  refine dz_mul (by omega) (by omega) (by rw [show (8 * e) * (8 * e) = 64 * (e * e) by rw [Int.mul_assoc, Int.mul_left_comm e 8 e, ← Int.mul_assoc]; rfl]) ?_
  rw [bne_self_eq_false]
  exact (decide_eq_false (Int.not_lt.mpr (by rcases Int.le_total 0 e with q | q; exact Int.mul_nonneg q q; exact Int.mul_nonneg_of_nonpos_of_nonpos q q))).symm
theorem dz_half {e : Int} (h : e.natAbs ≤ 8000) : FP.dmul (Dz (8 * e)) (Dz 32) = Dz (4 * e) := by
  refine dz_mul (by omega) (by decide) (by omega) ?_
  rw [show decide ((32 : Int) < 0) = false from rfl, Bool.bne_false, Bool.eq_iff_iff]; simp only [decide_eq_true_eq]; omega
theorem dz_e2 {e : Int} (h : e.natAbs ≤ 8000) : 0 ≤ e * e ∧ e * e ≤ 64000000 := by
  have h1 : e.natAbs * e.natAbs ≤ 8000 * 8000 := Nat.mul_le_mul h h
  have h2 : (e * e).natAbs = e.natAbs * e.natAbs := Int.natAbs_mul e e
  have h3 : 0 ≤ e * e := by rcases Int.le_total 0 e with q | q; exact Int.mul_nonneg q q; exact Int.mul_nonneg_of_nonpos_of_nonpos q q
  omega
