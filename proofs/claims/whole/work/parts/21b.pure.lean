/-! the two sides' sorting, running, adding and ranking are one -/
theorem pOr_cg {B B' R R' : Nat → Int32} (b : Int32) : ∀ k, (∀ j, j < k → B j = B' j) → (∀ j, j < k → R j = R' j) → pOr B R b k = pOr B' R' b k := by
  intro k
  induction k with
  | zero => intro _ _; rfl
  | succ k ih =>
    intro h1 h2
    rw [pOr, pOr, ih (fun j hj => h1 j (by omega)) (fun j hj => h2 j (by omega)), h1 k (by omega), h2 k (by omega)]
theorem mLowF_cg {B B' R R' : Nat → Int32} (k : Nat) (h1 : ∀ j, j < k → B j = B' j) (h2 : ∀ j, j ≤ k → R j = R' j) : ∀ f b, mLowF B R k f b = mLowF B' R' k f b := by
  intro f
  induction f with
  | zero => intro b; rfl
  | succ f ih =>
    intro b
    rw [mLowF, mLowF, pOr_cg (nI b) k h1 (fun j hj => h2 j (by omega)), h2 k (by omega), ih (b + 1)]
theorem mFb_cg {R R' : Nat → Int32} (B B' : Nat → Int32) {n : Nat} (h : ∀ k, k < n → R k = R' k) : ∀ i, i ≤ n → (∀ k, k < i → (mFb R B i).1 k = (mFb R' B' i).1 k) ∧ (mFb R B i).2 = (mFb R' B' i).2 := by
  intro i
  induction i with
  | zero => intro _; exact ⟨fun k hk => absurd hk (Nat.not_lt_zero k), rfl⟩
  | succ i ih =>
    intro hi
    obtain ⟨a, b⟩ := ih (by omega)
    have e : mLowF (mFb R B i).1 R i i 0 = mLowF (mFb R' B' i).1 R' i i 0 := mLowF_cg i a (fun j hj => h j (by omega)) i 0
    constructor
    · intro k hk
      show upd (mFb R B i).1 i (nI (mLowF (mFb R B i).1 R i i 0)) k = upd (mFb R' B' i).1 i (nI (mLowF (mFb R' B' i).1 R' i i 0)) k
      rw [e]
      unfold upd
      by_cases q : k = i
      · rw [if_pos q, if_pos q]
      · rw [if_neg q, if_neg q]; exact a k (by omega)
    · show (if mLowF (mFb R B i).1 R i i 0 + 1 ≤ (mFb R B i).2 then (mFb R B i).2 else mLowF (mFb R B i).1 R i i 0 + 1) = (if mLowF (mFb R' B' i).1 R' i i 0 + 1 ≤ (mFb R' B' i).2 then (mFb R' B' i).2 else mLowF (mFb R' B' i).1 R' i i 0 + 1)
      rw [e, b]
theorem mFb_cnt (R B : Nat → Int32) : ∀ i k, k < i → ∃ c, c < (mFb R B i).2 ∧ (mFb R B i).1 k = nI c := by
  intro i
  induction i with
  | zero => intro k hk; exact absurd hk (Nat.not_lt_zero k)
  | succ i ih =>
    intro k hk
    have g : (mFb R B (i + 1)).2 = (if mLowF (mFb R B i).1 R i i 0 + 1 ≤ (mFb R B i).2 then (mFb R B i).2 else mLowF (mFb R B i).1 R i i 0 + 1) := rfl
    have g1 : (mFb R B (i + 1)).1 k = upd (mFb R B i).1 i (nI (mLowF (mFb R B i).1 R i i 0)) k := rfl
    rw [g, g1]
    by_cases q : k = i
    · refine ⟨mLowF (mFb R B i).1 R i i 0, ?_, if_pos q⟩
      split <;> omega
    · obtain ⟨c, h1, h2⟩ := ih k (by omega)
      refine ⟨c, ?_, (if_neg q).trans h2⟩
      split <;> omega
theorem pOr_ge (R B : Nat → Int32) {i b : Nat} (hi : i ≤ 40) (hb9 : b ≤ 40) (h : (mFb R B i).2 ≤ b) : pOr (mFb R B i).1 R (nI b) i = 0 := by
  refine pOr_none i (fun j hj e => ?_)
  obtain ⟨c, h1, h2⟩ := mFb_cnt R B i j hj
  have := mFb_le R B i
  rw [h2, nI_eq (by omega) (by omega)] at e
  omega
theorem low_eq {R2 M y : Nat → Int32} {i : Nat} (hM : ∀ b, b < i → M b = pOr y R2 (nI b) i) : ∀ f b, b + f = i → pLowF M (R2 i) f b = mLowF y R2 i f b := by
  intro f
  induction f with
  | zero => intro b e; rfl
  | succ f ih =>
    intro b e
    rw [mLowF, pLowF, hM b (by omega), ih (b + 1) (by omega)]
theorem pSo_eq {R R2 : Nat → Int32} (B M B2 : Nat → Int32) {n : Nat} (hn : n ≤ 40) (h : ∀ k, k < n → R k = R2 k) : ∀ i, i ≤ n → (∀ k, k < i → (pSi R B (pZr M n) i).1 k = (mFb R2 B2 i).1 k) ∧ (pSi R B (pZr M n) i).2.2 = (mFb R2 B2 i).2 ∧ (∀ b, b < n → (pSi R B (pZr M n) i).2.1 b = pOr (mFb R2 B2 i).1 R2 (nI b) i) := by
  intro i
  induction i with
  | zero => intro _; exact ⟨fun k hk => absurd hk (Nat.not_lt_zero k), rfl, fun b hb9 => if_pos hb9⟩
  | succ i ih =>
    intro hi
    obtain ⟨a, b, c⟩ := ih (by omega)
    have e : pLowF (pSi R B (pZr M n) i).2.1 (R i) i 0 = mLowF (mFb R2 B2 i).1 R2 i i 0 := by
      rw [h i (by omega)]
      exact low_eq (fun b9 hb9 => c b9 (by omega)) i 0 (by omega)
    have hj : pLowF (pSi R B (pZr M n) i).2.1 (R i) i 0 ≤ 0 + i := pLowF_le _ _ _ _
    rw [e] at hj
    have g0 : (pSi R B (pZr M n) (i + 1)) = pSoS (R i) i (pSi R B (pZr M n) i) := rfl
    have g1 : (mFb R2 B2 (i + 1)).1 = upd (mFb R2 B2 i).1 i (nI (mLowF (mFb R2 B2 i).1 R2 i i 0)) := rfl
    have g2 : (mFb R2 B2 (i + 1)).2 = (if mLowF (mFb R2 B2 i).1 R2 i i 0 + 1 ≤ (mFb R2 B2 i).2 then (mFb R2 B2 i).2 else mLowF (mFb R2 B2 i).1 R2 i i 0 + 1) := rfl
    rw [g0, g1, g2]
    unfold pSoS
    rw [e, b, h i (by omega)]
    generalize ej : mLowF (mFb R2 B2 i).1 R2 i i 0 = j at hj ⊢
    have hcg : ∀ bb, pOr (upd (mFb R2 B2 i).1 i (nI j)) R2 bb i = pOr (mFb R2 B2 i).1 R2 bb i := fun bb => pOr_cg bb i (fun k hk => if_neg (by omega)) (fun k _ => rfl)
    generalize (mFb R2 B2 i).2 = bc
    generalize (mFb R2 B2 i).1 = y at a c hcg ⊢
    generalize (pSi R B (pZr M n) i).1 = x1 at a ⊢
    generalize (pSi R B (pZr M n) i).2.1 = m1 at c ⊢
    refine ⟨?_, ?_, ?_⟩
    · intro k hk
      show upd x1 i (nI j) k = upd y i (nI j) k
      unfold upd
      by_cases q : k = i
      · rw [if_pos q, if_pos q]
      · rw [if_neg q, if_neg q]; exact a k (by omega)
    · show (if bc < j + 1 then j + 1 else bc) = _
      by_cases q : bc < j + 1
      · rw [if_pos q, if_neg (by omega)]
      · rw [if_neg q, if_pos (by omega)]
    · intro b9 h9
      rw [pOr, hcg, show upd y i (nI j) i = nI j from if_pos rfl]
      show upd m1 j (m1 j ||| R2 i) b9 = _
      by_cases q : j = b9
      · subst q
        rw [if_pos (show nI j = nI j from rfl), upd_at, c j (by omega)]
      · rw [if_neg (fun e3 => q ((nI_eq (by omega) (by omega)).mp e3)), show ∀ (f : Nat → Int32) z, upd f j z b9 = f b9 from fun f z => if_neg (fun e3 => q e3.symm), c b9 (by omega)]
/-! where the run ends -/
theorem pSt_z {B Z : Nat → Int32} {b : Int32} : ∀ i, (∀ k, k < i → B k = b → Z k = 0) → pSt B Z b i = 0 := by
  intro i
  induction i with
  | zero => intro _; rfl
  | succ i ih =>
    intro h
    rw [pSt, if_pos (ih (fun k hk => h k (by omega)))]
    by_cases q : B i = b
    · rw [if_pos q, if_pos (h i (by omega) q)]
    · rw [if_neg q]
theorem pSt_nz {B Z : Nat → Int32} {b : Int32} {k : Nat} (h1 : B k = b) (h2 : ¬ Z k = 0) : ∀ i, k < i → ¬ pSt B Z b i = 0 := by
  intro i
  induction i with
  | zero => intro h; exact absurd h (Nat.not_lt_zero k)
  | succ i ih =>
    intro h
    rw [pSt]
    by_cases q : pSt B Z b i = 0
    · rw [if_pos q]
      have e : k = i := by
        by_cases e : k = i
        · exact e
        · exact absurd q (ih (by omega))
      rw [← e, if_pos h1, if_neg h2]
      decide
    · rw [if_neg q]; decide
theorem pAh_n {Z B : Nat → Int32} {bc n : Nat} (hbc : bc ≤ 40) (h : ∀ k, k < n → ∃ c, c < bc ∧ B k = nI c) : ∀ i, i ≤ n → ∃ d, pAh Z B (nI bc) i = nI d ∧ d ≤ bc ∧ (∀ k, k < i → ∀ b, b < d → B k = nI b → Z k = 0) ∧ (d = bc ∨ ∃ k, k < i ∧ B k = nI d ∧ ¬ Z k = 0) := by
  intro i
  induction i with
  | zero => intro _; exact ⟨bc, rfl, Nat.le_refl _, fun k hk => absurd hk (Nat.not_lt_zero k), Or.inl rfl⟩
  | succ i ih =>
    intro hi
    obtain ⟨d, h1, h2, h3, h4⟩ := ih (by omega)
    obtain ⟨c, c1, c2⟩ := h i (by omega)
    rw [pAh, h1]
    by_cases z : Z i = 0
    · rw [if_pos z]
      refine ⟨d, rfl, h2, ?_, ?_⟩
      · intro k hk b hb9 e
        by_cases q : k = i
        · rw [q]; exact z
        · exact h3 k (by omega) b hb9 e
      · rcases h4 with e | ⟨k, k1, k2, k3⟩
        · exact Or.inl e
        · exact Or.inr ⟨k, by omega, k2, k3⟩
    · rw [if_neg z, c2]
      by_cases q : nI c < nI d
      · rw [if_pos q]
        have q' := (nI_ltI (by omega) (by omega)).mp q
        refine ⟨c, rfl, by omega, ?_, Or.inr ⟨i, by omega, c2, z⟩⟩
        intro k hk b hb9 e
        by_cases q2 : k = i
        · rw [q2, c2, nI_eq (by omega) (by omega)] at e; omega
        · exact h3 k (by omega) b (by omega) e
      · rw [if_neg q]
        have q' : ¬ c < d := fun q2 => q ((nI_ltI (by omega) (by omega)).mpr q2)
        refine ⟨d, rfl, h2, ?_, ?_⟩
        · intro k hk b hb9 e
          by_cases q2 : k = i
          · rw [q2, c2, nI_eq (by omega) (by omega)] at e; omega
          · exact h3 k (by omega) b hb9 e
        · rcases h4 with e | ⟨k, k1, k2, k3⟩
          · exact Or.inl e
          · exact Or.inr ⟨k, by omega, k2, k3⟩
/-! the run itself -/
def YR (n : Nat) (x y : pY) : Prop := x.1 = y.1 ∧ x.2.1 = y.2.1 ∧ (∀ k, k < n → x.2.2.1 k = y.2.2.1 k) ∧ x.2.2.2 = y.2.2.2
theorem pSh_cg {K : Nat → Int32} {n k : Nat} (hk : k < n) {x y : pY} (h : YR n x y) : (pSh K k x).1 = (pSh K k y).1 ∧ YR n (pSh K k x).2 (pSh K k y).2 := by
  have e : pAtt (K k) 16 x.1 x.2.1 (x.2.2.1 k) x.2.2.2 = pAtt (K k) 16 y.1 y.2.1 (y.2.2.1 k) y.2.2.2 := by rw [h.1, h.2.1, h.2.2.1 k hk, h.2.2.2]
  unfold pSh
  rw [e]
  generalize pAtt (K k) 16 y.1 y.2.1 (y.2.2.1 k) y.2.2.2 = p
  refine ⟨rfl, rfl, rfl, ?_, rfl⟩
  intro j hj
  show upd x.2.2.1 k p.2.2.2.1 j = upd y.2.2.1 k p.2.2.2.1 j
  unfold upd
  by_cases q : j = k
  · rw [if_pos q, if_pos q]
  · rw [if_neg q, if_neg q]; exact h.2.2.1 j hj
theorem pBt_cg {K B B' : Nat → Int32} {n : Nat} (hB : ∀ k, k < n → B k = B' k) (b : Int32) : ∀ (k i : Nat) (x y : pY), i + k = n → YR n x y → (pBt K B b k i x).1 = (pBt K B' b k i y).1 ∧ YR n (pBt K B b k i x).2 (pBt K B' b k i y).2 := by
  intro k
  induction k with
  | zero => intro i x y _ h; exact ⟨rfl, h⟩
  | succ k ih =>
    intro i x y e h
    rw [pBt, pBt, ← hB i (by omega)]
    by_cases q : B i = b
    · rw [if_pos q, if_pos q]
      obtain ⟨h1, h2⟩ := pSh_cg (K := K) (k := i) (by omega) h
      rw [← h1]
      by_cases q2 : (pSh K i x).1 = true
      · rw [if_pos q2, if_pos q2]; exact ih (i + 1) _ _ (by omega) h2
      · rw [if_neg q2, if_neg q2]; exact ⟨rfl, h2⟩
    · rw [if_neg q, if_neg q]; exact ih (i + 1) _ _ (by omega) h
theorem pRn_cg {K B B' : Nat → Int32} {n : Nat} (hB : ∀ k, k < n → B k = B' k) : ∀ (k b : Nat) (x y : pY), YR n x y → (pRn K B n k b x).1 = (pRn K B' n k b y).1 ∧ YR n (pRn K B n k b x).2 (pRn K B' n k b y).2 := by
  intro k
  induction k with
  | zero => intro b x y h; exact ⟨rfl, h⟩
  | succ k ih =>
    intro b x y h
    rw [pRn, pRn]
    obtain ⟨h1, h2⟩ := pBt_cg (K := K) hB (nI b) n 0 x y (by omega) h
    rw [← h1]
    by_cases q2 : (pBt K B (nI b) n 0 x).1 = true
    · rw [if_pos q2, if_pos q2]; exact ih (b + 1) _ _ h2
    · rw [if_neg q2, if_neg q2]; exact ⟨rfl, h2⟩
/-! sums and counts -/
theorem i64_add {a b : Int64} (h : (a.toInt + b.toInt).natAbs < 2 ^ 62) : (a + b).toInt = a.toInt + b.toInt := by
  rw [Int64.toInt_add]
  generalize a.toInt + b.toInt = z at h ⊢
  exact Int.bmod_eq_of_le (by omega) (by omega)
theorem i64_mul {a b : Int64} (h : (a.toInt * b.toInt).natAbs < 2 ^ 62) : (a * b).toInt = a.toInt * b.toInt := by
  rw [Int64.toInt_mul]
  generalize a.toInt * b.toInt = z at h ⊢
  exact Int.bmod_eq_of_le (by omega) (by omega)
theorem mRes_n {E : Nat → Int64} {k : Nat} (hk : k < 40) (h : (E k).toInt.natAbs ≤ 8000) : (mRes E k).toInt = pRes (fun j => (E j).toInt) k ∧ (pRes (fun j => (E j).toInt) k).natAbs ≤ 65000000 := by
  unfold mRes pRes
  obtain ⟨s1, s2⟩ := dz_e2 h
  have e1 : (E k * E k).toInt = (E k).toInt * (E k).toInt := i64_mul (by generalize (E k).toInt * (E k).toInt = z at s1 s2 ⊢; omega)
  have e2 : (4 * E k).toInt = 4 * (E k).toInt := by
    rw [i64_mul]
    · rfl
    · show (4 * (E k).toInt).natAbs < 2 ^ 62; omega
  have e3 : (nI k).toInt64.toInt = k := by
    rw [Int32.toInt_toInt64]; exact nI_toInt (by omega)
  have e4 : (64 * (nI k).toInt64).toInt = 64 * k := by
    rw [i64_mul]
    · rw [e3]; rfl
    · rw [e3]; show (64 * (k : Int)).natAbs < 2 ^ 62; omega
  have e5 : (E k * E k + 4 * E k).toInt = (E k).toInt * (E k).toInt + 4 * (E k).toInt := by
    rw [i64_add]
    · rw [e1, e2]
    · rw [e1, e2]; generalize (E k).toInt * (E k).toInt = z at s1 s2 ⊢; omega
  rw [i64_add]
  · rw [e5, e4]
    refine ⟨rfl, ?_⟩
    show ((E k).toInt * (E k).toInt + 4 * (E k).toInt + 64 * (k : Int)).natAbs ≤ 65000000
    generalize (E k).toInt * (E k).toInt = z at s1 s2 ⊢; omega
  · rw [e5, e4]; generalize (E k).toInt * (E k).toInt = z at s1 s2 ⊢; omega
def gL (E : Nat → Int64) (B : Nat → Int32) (b : Int32) : Nat → Int64
  | 0 => 0
  | i + 1 => if b ≤ B i then gL E B b i else gL E B b i + mRes E i
def gE (E : Nat → Int64) (B : Nat → Int32) (b : Int32) : Nat → Int64
  | 0 => 0
  | i + 1 => if B i = b then gE E B b i + mRes E i else gE E B b i
theorem gL_n {E : Nat → Int64} {n : Nat} (hn : n ≤ 40) (h : ∀ k, k < n → (E k).toInt.natAbs ≤ 8000) (B : Nat → Int32) (b : Int32) : ∀ i, i ≤ n → (gL E B b i).toInt = pSm (fun k => (E k).toInt) B b i := by
  intro i
  induction i with
  | zero => intro _; rfl
  | succ i ih =>
    intro hi
    rw [gL, pSm]
    by_cases q : b ≤ B i
    · rw [if_pos q, if_pos q]; exact ih (by omega)
    · rw [if_neg q, if_neg q]
      obtain ⟨m1, m2⟩ := mRes_n (E := E) (k := i) (by omega) (h i (by omega))
      have bd := pSm_bd (E := fun k => (E k).toInt) hn h B b i (by omega)
      rw [i64_add]
      · rw [ih (by omega), m1]
      · rw [ih (by omega), m1]
        generalize pSm (fun k => (E k).toInt) B b i = z at bd ⊢
        generalize pRes (fun j => (E j).toInt) i = z2 at m2 ⊢
        omega
theorem mSmF_n (E : Nat → Int64) (B : Nat → Int32) (b : Int32) : ∀ (k i : Nat) (a : Int64), mSmF E B b k i (a + gE E B b i) = a + gE E B b (i + k) := by
  intro k
  induction k with
  | zero => intro i a; rfl
  | succ k ih =>
    intro i a
    rw [mSmF, show i + (k + 1) = (i + 1) + k by omega, ← ih (i + 1) a, gE]
    by_cases q : B i = b
    · rw [if_pos q, if_pos q, Int64.add_assoc]
    · rw [if_neg q, if_neg q]
theorem gL_s (E : Nat → Int64) (B : Nat → Int32) {n b : Nat} (hb9 : b < 40) (h : ∀ k, k < n → ∃ c, c ≤ 40 ∧ B k = nI c) : ∀ i, i ≤ n → gL E B (nI b) i + gE E B (nI b) i = gL E B (nI (b + 1)) i := by
  intro i
  induction i with
  | zero => intro _; rfl
  | succ i ih =>
    intro hi
    obtain ⟨c, c1, c2⟩ := h i (by omega)
    have ih' := ih (by omega)
    rw [gL, gE, gL, c2, ← ih']
    have n1 := nI_leI (a := b) (b := c) (by omega) (by omega)
    have n2 := nI_leI (a := b + 1) (b := c) (by omega) (by omega)
    have n3 := nI_eq (a := c) (b := b) (by omega) (by omega)
    generalize gL E B (nI b) i = x
    generalize gE E B (nI b) i = y
    rcases Nat.lt_trichotomy c b with q | q | q
    · rw [if_neg (fun e => by have := n1.mp e; omega), if_neg (fun e => by have := n3.mp e; omega), if_neg (fun e => by have := n2.mp e; omega), Int64.add_assoc, Int64.add_comm (mRes E i) y, Int64.add_assoc]
    · rw [if_pos (n1.mpr (by omega)), if_pos (n3.mpr q), if_neg (fun e => by have := n2.mp e; omega), Int64.add_assoc]
    · rw [if_pos (n1.mpr (by omega)), if_neg (fun e => by have := n3.mp e; omega), if_pos (n2.mpr (by omega))]
theorem mSmR_n (E : Nat → Int64) (B : Nat → Int32) {n : Nat} (h : ∀ k, k < n → ∃ c, c ≤ 40 ∧ B k = nI c) : ∀ (k b : Nat), b + k ≤ 40 → mSmR E B n k b (gL E B (nI b) n) = gL E B (nI (b + k)) n := by
  intro k
  induction k with
  | zero => intro b _; rfl
  | succ k ih =>
    intro b hb9
    have e := mSmF_n E B (nI b) n 0 (gL E B (nI b) n)
    rw [show gL E B (nI b) n + gE E B (nI b) 0 = gL E B (nI b) n from Int64.add_zero _, Nat.zero_add] at e
    rw [mSmR, e, gL_s E B (by omega) h n (Nat.le_refl _), ih (b + 1) (by omega), show b + 1 + k = b + (k + 1) by omega]
theorem gL_0 (E : Nat → Int64) (B : Nat → Int32) {n : Nat} (h : ∀ k, k < n → ∃ c, c ≤ 40 ∧ B k = nI c) : ∀ i, i ≤ n → gL E B (nI 0) i = 0 := by
  intro i
  induction i with
  | zero => intro _; rfl
  | succ i ih =>
    intro hi
    obtain ⟨c, c1, c2⟩ := h i (by omega)
    rw [gL, c2, if_pos (nI_le (by omega) (by omega))]; exact ih (by omega)
theorem mSm_all (E : Nat → Int64) (B : Nat → Int32) {n d : Nat} (hn : n ≤ 40) (hd : d ≤ 40) (hE : ∀ k, k < n → (E k).toInt.natAbs ≤ 8000) (h : ∀ k, k < n → ∃ c, c ≤ 40 ∧ B k = nI c) : (mSmR E B n d 0 0).toInt = pSm (fun k => (E k).toInt) B (nI d) n := by
  have e := mSmR_n E B h d 0 (by omega)
  rw [gL_0 E B h n (Nat.le_refl _), Nat.zero_add] at e
  rw [e]; exact gL_n hn hE B (nI d) n (Nat.le_refl _)
theorem gL_pl (E : Nat → Int64) (B : Nat → Int32) {n : Nat} {b : Int32} (h : ∀ k, k < n → ¬ b ≤ B k) : ∀ i, i ≤ n → gL E B b i = mPl E i := by
  intro i
  induction i with
  | zero => intro _; rfl
  | succ i ih => intro hi; rw [gL, if_neg (h i (by omega)), ih (by omega), mPl]
def gC (B : Nat → Int32) (b : Int32) : Nat → Nat
  | 0 => 0
  | i + 1 => if B i = b then gC B b i + 1 else gC B b i
theorem mCtF_n (B : Nat → Int32) (b : Int32) : ∀ (k i a : Nat), mCtF B b k i (a + gC B b i) = a + gC B b (i + k) := by
  intro k
  induction k with
  | zero => intro i a; rfl
  | succ k ih =>
    intro i a
    rw [mCtF, show i + (k + 1) = (i + 1) + k by omega, ← ih (i + 1) a, gC]
    by_cases q : B i = b
    · rw [if_pos q, if_pos q, Nat.add_assoc]
    · rw [if_neg q, if_neg q]
theorem pCt_s (B : Nat → Int32) {n b : Nat} (hb9 : b < 40) (h : ∀ k, k < n → ∃ c, c ≤ 40 ∧ B k = nI c) : ∀ i, i ≤ n → pCt B (nI b) i + gC B (nI b) i = pCt B (nI (b + 1)) i := by
  intro i
  induction i with
  | zero => intro _; rfl
  | succ i ih =>
    intro hi
    obtain ⟨c, c1, c2⟩ := h i (by omega)
    have ih' := ih (by omega)
    rw [pCt, gC, pCt, c2, ← ih']
    have n1 := nI_leI (a := b) (b := c) (by omega) (by omega)
    have n2 := nI_leI (a := b + 1) (b := c) (by omega) (by omega)
    have n3 := nI_eq (a := c) (b := b) (by omega) (by omega)
    rcases Nat.lt_trichotomy c b with q | q | q
    · rw [if_neg (fun e => by have := n1.mp e; omega), if_neg (fun e => by have := n3.mp e; omega), if_neg (fun e => by have := n2.mp e; omega)]; omega
    · rw [if_pos (n1.mpr (by omega)), if_pos (n3.mpr q), if_neg (fun e => by have := n2.mp e; omega)]; omega
    · rw [if_pos (n1.mpr (by omega)), if_neg (fun e => by have := n3.mp e; omega), if_pos (n2.mpr (by omega))]
theorem mCtR_n (B : Nat → Int32) {n : Nat} (h : ∀ k, k < n → ∃ c, c ≤ 40 ∧ B k = nI c) : ∀ (k b : Nat), b + k ≤ 40 → mCtR B n k b (pCt B (nI b) n) = pCt B (nI (b + k)) n := by
  intro k
  induction k with
  | zero => intro b _; rfl
  | succ k ih =>
    intro b hb9
    have e := mCtF_n B (nI b) n 0 (pCt B (nI b) n)
    rw [show pCt B (nI b) n + gC B (nI b) 0 = pCt B (nI b) n from rfl, Nat.zero_add] at e
    rw [mCtR, e, pCt_s B (by omega) h n (Nat.le_refl _), ih (b + 1) (by omega), show b + 1 + k = b + (k + 1) by omega]
theorem pCt_0 (B : Nat → Int32) {n : Nat} (h : ∀ k, k < n → ∃ c, c ≤ 40 ∧ B k = nI c) : ∀ i, i ≤ n → pCt B (nI 0) i = 0 := by
  intro i
  induction i with
  | zero => intro _; rfl
  | succ i ih =>
    intro hi
    obtain ⟨c, c1, c2⟩ := h i (by omega)
    rw [pCt, c2, if_pos (nI_le (by omega) (by omega))]; exact ih (by omega)
theorem mCt_all (B : Nat → Int32) {n d : Nat} (hd : d ≤ 40) (h : ∀ k, k < n → ∃ c, c ≤ 40 ∧ B k = nI c) : mCtR B n d 0 0 = pCt B (nI d) n := by
  have e := mCtR_n B h d 0 (by omega)
  rw [pCt_0 B h n (Nat.le_refl _), Nat.zero_add] at e
  exact e
theorem pCt_cg {B B' : Nat → Int32} (b : Int32) {n : Nat} (h : ∀ k, k < n → B k = B' k) : ∀ i, i ≤ n → pCt B b i = pCt B' b i := by
  intro i
  induction i with
  | zero => intro _; rfl
  | succ i ih => intro hi; rw [pCt, pCt, ih (by omega), h i (by omega)]
theorem pSm_cg {E : Nat → Int} {B B' : Nat → Int32} (b : Int32) {n : Nat} (h : ∀ k, k < n → B k = B' k) : ∀ i, i ≤ n → pSm E B b i = pSm E B' b i := by
  intro i
  induction i with
  | zero => intro _; rfl
  | succ i ih => intro hi; rw [pSm, pSm, ih (by omega), h i (by omega)]
/-! the acts -/
def AR (x : pA) (y : mA) : Prop := x.2.1 = nI y.2.1 ∧ y.2.1 ≤ 20 ∧ (∀ k, k < y.2.1 → ∃ r, r < 10 ∧ y.1 k = nI r) ∧ (∀ r, r < 10 → x.1 r = nI (cntR y.1 (nI r) y.2.1)) ∧ x.2.2 = y.2.2
theorem cnt_le (rk : Nat → Int32) (r : Int32) : ∀ m, cntR rk r m ≤ m := by
  intro m
  induction m with
  | zero => exact Nat.le_refl _
  | succ m ih => rw [cntR]; split <;> omega
theorem cnt_none {rk : Nat → Int32} {r : Int32} : ∀ m, (∀ k, k < m → ¬ rk k = r) → cntR rk r m = 0 := by
  intro m
  induction m with
  | zero => intro _; rfl
  | succ m ih => intro h; rw [cntR, ih (fun k hk => h k (by omega)), if_neg (h m (by omega))]
theorem cnt_some {rk : Nat → Int32} {r : Int32} {k : Nat} (e : rk k = r) : ∀ m, k < m → 0 < cntR rk r m := by
  intro m
  induction m with
  | zero => intro h; exact absurd h (Nat.not_lt_zero k)
  | succ m ih =>
    intro h
    rw [cntR]
    by_cases q : k = m
    · rw [← q, if_pos e]; omega
    · have := ih (by omega); omega
theorem cnt_cg {rk rk' : Nat → Int32} {r : Int32} : ∀ m, (∀ k, k < m → rk k = rk' k) → cntR rk r m = cntR rk' r m := by
  intro m
  induction m with
  | zero => intro _; rfl
  | succ m ih => intro h; rw [cntR, cntR, ih (fun k hk => h k (by omega)), h m (by omega)]
theorem cnt_rm (rk : Nat → Int32) (r : Int32) (b : Nat) : ∀ m, b ≤ m → cntR (mSf rk b m) r m + (if rk b = r then 1 else 0) = cntR rk r (m + 1) := by
  intro m
  induction m with
  | zero =>
    intro h
    have e : b = 0 := by omega
    rw [e, mSf_0]; rfl
  | succ m ih =>
    intro h
    by_cases q : b = m + 1
    · rw [q, mSf_0]; rfl
    · have ih' := ih (by omega)
      rw [cntR, show mSf rk b (m + 1) m = rk (m + 1) from if_pos (by omega), cnt_cg (rk' := mSf rk b m) m (fun k hk => ?_), show cntR rk r (m + 1 + 1) = cntR rk r (m + 1) + (if rk (m + 1) = r then 1 else 0) from rfl, ← ih']
      · omega
      · unfold mSf
        by_cases q2 : b ≤ k
        · rw [if_pos (by omega), if_pos (by omega)]
        · rw [if_neg (by omega), if_neg (by omega)]
theorem mBs_max (rk : Nat → Int32) : ∀ k j, j ≤ k → rk j ≤ rk (mBs rk k) := by
  intro k
  induction k with
  | zero => intro j hj; rw [show j = 0 by omega]; exact Int32.le_refl _
  | succ k ih =>
    intro j hj
    rw [mBs]
    by_cases q : rk (k + 1) ≤ rk (mBs rk k)
    · rw [if_pos q]
      by_cases q2 : j = k + 1
      · rw [q2]; exact q
      · exact ih j (by omega)
    · rw [if_neg q]
      by_cases q2 : j = k + 1
      · rw [q2]; exact Int32.le_refl _
      · have := ih j (by omega)
        rw [fa_le] at this q ⊢; omega
theorem loK_at {q : Nat → Int32} {w : Int32} {r0 : Nat} (h0 : ¬ q r0 ≤ 0) : ∀ f, r0 < f → (∀ k, r0 < k → k < f → q k ≤ 0) → pLoK q w f = (1, upd q r0 (q r0 - 1), w - 1) := by
  intro f
  induction f with
  | zero => intro h; exact absurd h (Nat.not_lt_zero r0)
  | succ f ih =>
    intro h1 h2
    rw [pLoK]
    by_cases e : r0 = f
    · rw [← e, if_neg h0]
    · rw [if_pos (h2 f (by omega) (by omega))]; exact ih (by omega) (fun k a b => h2 k a (by omega))
theorem loK_none {q : Nat → Int32} {w : Int32} : ∀ f, (∀ k, k < f → q k ≤ 0) → pLoK q w f = (0, q, w) := by
  intro f
  induction f with
  | zero => intro _; rfl
  | succ f ih => intro h; rw [pLoK, if_pos (h f (by omega))]; exact ih (fun k hk => h k (by omega))
theorem AR_0 {x : pA} {y : mA} (h : AR x y) (e : y.2.1 = 0) : pLe x = x := by
  obtain ⟨q, w, wk⟩ := x
  obtain ⟨rk, wt, wk2⟩ := y
  obtain ⟨h1, h2, h3, h4, h5⟩ := h
  have e' : wt = 0 := e
  subst e'
  have hz : pLo q w = (0, q, w) := loK_none 10 (fun k hk => by rw [show q k = nI 0 from h4 k hk]; decide)
  unfold pLe
  show ((pLo q w).2.1, (pLo q w).2.2, if (pLo q w).1 = 0 then wk else wk + 1) = (q, w, wk)
  rw [hz]; rfl
theorem AR_s {x : pA} {y : mA} (h : AR x y) (e : ¬ y.2.1 = 0) : AR (pLe x) (mLe y) := by
  obtain ⟨q, w, wk⟩ := x
  obtain ⟨rk, wt, wk2⟩ := y
  obtain ⟨h1, h2, h3, h4, h5⟩ := h
  have e' : ¬ wt = 0 := e
  have h1' : w = nI wt := h1
  have h2' : wt ≤ 20 := h2
  have h5' : wk = wk2 := h5
  have hb1 := mBs_le rk (wt - 1)
  have hmx := mBs_max rk (wt - 1)
  obtain ⟨r0, r1, r2⟩ := h3 (mBs rk (wt - 1)) (by show _ < wt; omega)
  have r2' : rk (mBs rk (wt - 1)) = nI r0 := r2
  have hpos : 0 < cntR rk (nI r0) wt := cnt_some r2' wt (by omega)
  have hle := cnt_le rk (nI r0) wt
  have hq0 : q r0 = nI (cntR rk (nI r0) wt) := h4 r0 r1
  have hz : pLo q w = (1, upd q r0 (q r0 - 1), w - 1) := by
    refine loK_at ?_ 10 r1 (fun k k1 k2 => ?_)
    · rw [hq0]
      intro e9
      have := (nI_leI (b := 0) (by omega) (by omega)).mp e9
      omega
    · rw [show q k = nI (cntR rk (nI k) wt) from h4 k k2, cnt_none wt (fun j hj e9 => ?_)]
      · decide
      · have := hmx j (by omega)
        rw [e9, r2', nI_leI (by omega) (by omega)] at this
        omega
  have hrm : ∀ r, cntR (mSf rk (mBs rk (wt - 1)) (wt - 1)) r (wt - 1) + (if rk (mBs rk (wt - 1)) = r then 1 else 0) = cntR rk r wt := fun r => by
    have := cnt_rm rk r (mBs rk (wt - 1)) (wt - 1) hb1
    rw [show wt - 1 + 1 = wt by omega] at this
    exact this
  unfold pLe mLe
  show AR ((pLo q w).2.1, (pLo q w).2.2, if (pLo q w).1 = 0 then wk else wk + 1) (mSf rk (mBs rk (wt - 1)) (wt - 1), wt - 1, wk2 + 1)
  rw [hz]
  refine ⟨?_, ?_, ?_, ?_, ?_⟩
  · show w - 1 = nI (wt - 1); rw [h1', nI_dec (by omega)]
  · show wt - 1 ≤ 20; omega
  · intro k hk
    have hk' : k < wt - 1 := hk
    show ∃ r, r < 10 ∧ mSf rk _ _ k = nI r
    unfold mSf
    split
    · exact h3 (k + 1) (by show _ < wt; omega)
    · exact h3 k (by show _ < wt; omega)
  · intro r hr
    show upd q r0 (q r0 - 1) r = nI (cntR (mSf rk (mBs rk (wt - 1)) (wt - 1)) (nI r) (wt - 1))
    have g := hrm (nI r)
    rw [r2'] at g
    by_cases qq : r = r0
    · rw [qq] at g ⊢
      rw [upd_at, hq0, nI_dec hpos]
      rw [if_pos rfl] at g
      rw [← g]; rfl
    · rw [if_neg (fun e9 => qq ((nI_eq (by omega) (by omega)).mp e9).symm)] at g
      rw [show upd q r0 (q r0 - 1) r = q r from if_neg qq, show q r = nI (cntR rk (nI r) wt) from h4 r hr, ← g]; rfl
  · show (if (1 : Int32) = 0 then wk else wk + 1) = wk2 + 1
    rw [if_neg (by decide), h5']
theorem AR_let : ∀ (k : Nat) (x : pA) (y : mA), AR x y → AR (pLet k x) (mLet k y) := by
  intro k
  induction k with
  | zero => intro x y h; exact h
  | succ k ih =>
    intro x y h
    rw [pLet, mLet]
    by_cases e : y.2.1 = 0
    · rw [if_pos e, AR_0 h e]
      have g := ih x y h
      cases k with
      | zero => exact g
      | succ k => rw [mLet, if_pos e] at g; exact g
    · rw [if_neg e]; exact ih _ _ (AR_s h e)
def cG (rk : Nat → Int32) (r : Int32) : Nat → Nat
  | 0 => 0
  | i + 1 => cG rk r i + (if rk i < r then 0 else 1)
theorem mAc_n (rk : Nat → Int32) (r : Int32) : ∀ m, mAc rk r m = nI (cG rk r m) := by
  intro m
  induction m with
  | zero => rfl
  | succ m ih =>
    rw [mAc, cG, ih]
    by_cases q : rk m < r
    · rw [if_pos q, if_pos q]; exact Int32.add_zero _
    · rw [if_neg q, if_neg q]; exact nI_add _ 1
theorem cG_s {rk : Nat → Int32} {j n : Nat} (hj : j < 10) (h : ∀ k, k < n → ∃ r, r < 10 ∧ rk k = nI r) : ∀ m, m ≤ n → cntR rk (nI j) m + cG rk (nI (j + 1)) m = cG rk (nI j) m := by
  intro m
  induction m with
  | zero => intro _; rfl
  | succ m ih =>
    intro hm
    obtain ⟨s, s1, s2⟩ := h m (by omega)
    have ih' := ih (by omega)
    rw [cntR, cG, cG, s2, ← ih']
    have n1 := nI_eq (a := s) (b := j) (by omega) (by omega)
    have n2 := nI_ltI (a := s) (b := j) (by omega) (by omega)
    have n3 := nI_ltI (a := s) (b := j + 1) (by omega) (by omega)
    rcases Nat.lt_trichotomy s j with q | q | q
    · rw [if_neg (fun e => by have := n1.mp e; omega), if_pos (n3.mpr (by omega)), if_pos (n2.mpr q)]; omega
    · rw [if_pos (n1.mpr q), if_pos (n3.mpr (by omega)), if_neg (fun e => by have := n2.mp e; omega)]; omega
    · rw [if_neg (fun e => by have := n1.mp e; omega), if_neg (fun e => by have := n3.mp e; omega), if_neg (fun e => by have := n2.mp e; omega)]; omega
theorem cG_10 {rk : Nat → Int32} {n : Nat} (h : ∀ k, k < n → ∃ r, r < 10 ∧ rk k = nI r) : ∀ m, m ≤ n → cG rk (nI 10) m = 0 := by
  intro m
  induction m with
  | zero => intro _; rfl
  | succ m ih =>
    intro hm
    obtain ⟨s, s1, s2⟩ := h m (by omega)
    rw [cG, s2, if_pos (nI_lt (by omega) (by omega))]; exact ih (by omega)
theorem pAdF_n {q rk : Nat → Int32} {n : Nat} (h : ∀ k, k < n → ∃ r, r < 10 ∧ rk k = nI r) (hq : ∀ r, r < 10 → q r = nI (cntR rk (nI r) n)) : ∀ (k j a : Nat), j + k = 10 → pAdF q k j (nI a) = nI (a + cG rk (nI j) n) := by
  intro k
  induction k with
  | zero => intro j a e; rw [show j = 10 by omega, cG_10 h n (Nat.le_refl _)]; rfl
  | succ k ih =>
    intro j a e
    rw [pAdF, hq j (by omega), nI_add, ih (j + 1) _ (by omega), ← cG_s (j := j) (by omega) h n (Nat.le_refl _), Nat.add_assoc]
theorem add_eq {q rk : Nat → Int32} {n r : Nat} (hr : r < 10) (h : ∀ k, k < n → ∃ r, r < 10 ∧ rk k = nI r) (hq : ∀ r, r < 10 → q r = nI (cntR rk (nI r) n)) : pAdF q (10 - r) r 0 = mAc rk (nI r) n := by
  have e := pAdF_n h hq (10 - r) r 0 (by omega)
  rw [Nat.zero_add] at e
  rw [mAc_n, ← e]; rfl
theorem ru_or (x : Int32) : (x < nI 1 ∨ nI 16 < x) ∨ ∃ u, 1 ≤ u ∧ u ≤ 16 ∧ x = nI u := by
  rcases pk_ix x (n := 17) (by omega) with h | h | ⟨j, h, e⟩
  · refine Or.inl (Or.inl ?_)
    rw [fa_lt] at h ⊢
    rw [show (nI 1).toInt = 1 from rfl]
    rw [show (0 : Int32).toInt = 0 from rfl] at h
    omega
  · refine Or.inl (Or.inr ?_)
    rw [fa_le] at h
    rw [fa_lt, show (nI 16).toInt = 16 from rfl]
    rw [show (nI 17).toInt = 17 from rfl] at h
    omega
  · by_cases q : j = 0
    · refine Or.inl (Or.inl ?_)
      rw [e, q]; decide
    · exact Or.inr ⟨j, by omega, by omega, e⟩
