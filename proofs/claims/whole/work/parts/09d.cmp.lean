/-! comparisons of exact doubles, of longs -/
def cv (a b : Int) : Int32 := if a < b then -1 else if a = b then 0 else 1
theorem dz_cv {a b : Int} (ha : a.natAbs < 2 ^ 53) (hb : b.natAbs < 2 ^ 53) (op : CmpOp) : Op.cmpValue (FP.dcmp (Dz a) (Dz b)) op = cv a b := by
  rw [dz_cmp ha hb, FP.Core.compare_ite]
  unfold cv
  by_cases h : a < b
  · rw [if_pos h, if_pos h]; cases op <;> rfl
  · rw [if_neg h, if_neg h]
    by_cases h2 : a = b
    · rw [if_pos h2, if_pos h2]; cases op <;> rfl
    · rw [if_neg h2, if_neg h2]; cases op <;> rfl
theorem cv_lt {a b : Int} : cv a b < 0 ↔ a < b := by
  unfold cv
  by_cases h : a < b
  · rw [if_pos h]; exact ⟨fun _ => h, fun _ => by decide⟩
  · rw [if_neg h]
    by_cases h2 : a = b
    · rw [if_pos h2]; exact ⟨fun q => absurd q (by decide), fun q => absurd q h⟩
    · rw [if_neg h2]; exact ⟨fun q => absurd q (by decide), fun q => absurd q h⟩
theorem cv_gt {a b : Int} : 0 < cv a b ↔ b < a := by
  unfold cv
  by_cases h : a < b
  · rw [if_pos h]; exact ⟨fun q => absurd q (by decide), fun q => by omega⟩
  · rw [if_neg h]
    by_cases h2 : a = b
    · rw [if_pos h2]; exact ⟨fun q => absurd q (by decide), fun q => by omega⟩
    · rw [if_neg h2]; exact ⟨fun _ => by omega, fun _ => by decide⟩
theorem cv_eq {a b : Int} : cv a b = 0 ↔ a = b := by
  unfold cv
  by_cases h : a < b
  · rw [if_pos h]; exact ⟨fun q => absurd q (by decide), fun q => by omega⟩
  · rw [if_neg h]
    by_cases h2 : a = b
    · rw [if_pos h2]; exact ⟨fun _ => h2, fun _ => rfl⟩
    · rw [if_neg h2]; exact ⟨fun q => absurd q (by decide), fun q => absurd q h2⟩
theorem lgc0 {x y : Int64} : lg_cmp x y = 0 ↔ x = y := by
  unfold lg_cmp
  by_cases h : x > y
  · rw [if_pos h]
    exact ⟨fun q => absurd q (by decide), fun q => by subst q; exact absurd h (by rw [gt_iff_lt, fa_lt64]; omega)⟩
  · rw [if_neg h]
    by_cases h2 : x = y
    · rw [if_pos h2]; exact ⟨fun _ => h2, fun _ => rfl⟩
    · rw [if_neg h2]; exact ⟨fun q => absurd q (by decide), fun q => absurd q h2⟩
theorem dz_v8 (x : Int32) : FP.dmul (Dz (8 * x.toInt)) (Dz 512) = Dz (64 * x.toInt) := by
  have h1 := x.toInt_lt
  have h2 := x.le_toInt
  refine dz_mul (by omega) (by decide) (by omega) ?_
  rw [show decide ((512 : Int) < 0) = false from rfl, Bool.bne_false, Bool.eq_iff_iff]; simp only [decide_eq_true_eq]; omega
theorem dz_d8 (x : Int32) : FP.ddiv (Dz (64 * x.toInt)) (Dz 512) = Dz (8 * x.toInt) := by
  have h1 := x.toInt_lt
  have h2 := x.le_toInt
  exact dz_div (by omega) (by decide) (by decide) (by omega)
theorem dz_s8 (x : Int32) : FP.dmul (FP.i2d x) (Dz 8) = Dz (8 * x.toInt) := by
  have h1 := x.toInt_lt
  have h2 := x.le_toInt
  rw [dz_i2d]
  refine dz_mul (by omega) (by decide) (by omega) ?_
  rw [show decide ((8 : Int) < 0) = false from rfl, Bool.bne_false, Bool.eq_iff_iff]; simp only [decide_eq_true_eq]; omega
theorem dz_d64 {x : Int64} (h : x.toInt.natAbs < 2 ^ 40) : FP.ddiv (FP.l2d x) (Dz 4096) = Dz x.toInt := by
  rw [dz_l2d]
  exact dz_div (by omega) (by decide) (by decide) (by omega)
