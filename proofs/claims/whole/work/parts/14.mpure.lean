/-! what the reference computes, in its own steps -/
def mRes (E : Nat → Int64) (k : Nat) : Int64 := E k * E k + 4 * E k + 64 * (nI k).toInt64
def pOr (B R : Nat → Int32) (b : Int32) : Nat → Int32
  | 0 => 0
  | i + 1 => if B i = b then pOr B R b i ||| R i else pOr B R b i
def mLowF (B R : Nat → Int32) (k : Nat) : Nat → Nat → Nat
  | 0, b => b
  | f + 1, b => if pOr B R (nI b) k &&& R k = 0 then b else mLowF B R k f (b + 1)
abbrev mS : Type := (Nat → Int32) × Nat
def mFbS (R : Nat → Int32) (i : Nat) (x : mS) : mS := (upd x.1 i (nI (mLowF x.1 R i i 0)), if mLowF x.1 R i i 0 + 1 ≤ x.2 then x.2 else mLowF x.1 R i i 0 + 1)
def mFb (R B : Nat → Int32) : Nat → mS
  | 0 => (B, 0)
  | i + 1 => mFbS R i (mFb R B i)
def pSt (B Z : Nat → Int32) (b : Int32) : Nat → Int32
  | 0 => 0
  | i + 1 => if pSt B Z b i = 0 then (if B i = b then (if Z i = 0 then 0 else 1) else 0) else 1
def mBs (rk : Nat → Int32) : Nat → Nat
  | 0 => 0
  | k + 1 => if rk (k + 1) ≤ rk (mBs rk k) then mBs rk k else k + 1
def mSf (rk : Nat → Int32) (b k : Nat) : Nat → Int32 := fun j => if b ≤ j ∧ j < k then rk (j + 1) else rk j
abbrev mA : Type := (Nat → Int32) × Nat × Int64
def mLe (x : mA) : mA := (mSf x.1 (mBs x.1 (x.2.1 - 1)) (x.2.1 - 1), x.2.1 - 1, x.2.2 + 1)
def mLet : Nat → mA → mA
  | 0, x => x
  | k + 1, x => if x.2.1 = 0 then x else mLet k (mLe x)
def mAc (rk : Nat → Int32) (r : Int32) : Nat → Int32
  | 0 => 0
  | i + 1 => mAc rk r i + (if rk i < r then 0 else 1)
def mPl (E : Nat → Int64) : Nat → Int64
  | 0 => 0
  | i + 1 => mPl E i + mRes E i
def mSmF (E : Nat → Int64) (B : Nat → Int32) (b : Int32) : Nat → Nat → Int64 → Int64
  | 0, _, a => a
  | k + 1, i, a => if B i = b then mSmF E B b k (i + 1) (a + mRes E i) else mSmF E B b k (i + 1) a
def mCtF (B : Nat → Int32) (b : Int32) : Nat → Nat → Nat → Nat
  | 0, _, a => a
  | k + 1, i, a => if B i = b then mCtF B b k (i + 1) (a + 1) else mCtF B b k (i + 1) a
def mSmR (E : Nat → Int64) (B : Nat → Int32) (n : Nat) : Nat → Nat → Int64 → Int64
  | 0, _, a => a
  | k + 1, b, a => mSmR E B n k (b + 1) (mSmF E B (nI b) n 0 a)
def mCtR (B : Nat → Int32) (n : Nat) : Nat → Nat → Nat → Nat
  | 0, _, a => a
  | k + 1, b, a => mCtR B n k (b + 1) (mCtF B (nI b) n 0 a)
theorem pOr_none {B R : Nat → Int32} {b : Int32} : ∀ k, (∀ j, j < k → ¬ B j = b) → pOr B R b k = 0 := by
  intro k
  induction k with
  | zero => intro _; rfl
  | succ k ih => intro h; rw [pOr, if_neg (h k (by omega))]; exact ih (fun j hj => h j (by omega))
theorem mLowF_le (B R : Nat → Int32) (i : Nat) : ∀ f b, mLowF B R i f b ≤ b + f := by
  intro f
  induction f with
  | zero => intro b; exact Nat.le_refl _
  | succ f ih =>
    intro b; rw [mLowF]; split
    · omega
    · have := ih (b + 1); omega
theorem mFb_lt (R B : Nat → Int32) : ∀ i j, j < i → ∃ c, c ≤ j ∧ (mFb R B i).1 j = nI c := by
  intro i
  induction i with
  | zero => intro j h; exact absurd h (Nat.not_lt_zero j)
  | succ i ih =>
    intro j h
    show ∃ c, c ≤ j ∧ (upd (mFb R B i).1 i _) j = nI c
    by_cases q : j = i
    · subst q
      have := mLowF_le (mFb R B j).1 R j j 0
      exact ⟨_, by omega, upd_at _ _ _⟩
    · obtain ⟨c, h1, h2⟩ := ih j (by omega)
      exact ⟨c, h1, by rw [show upd (mFb R B i).1 i _ j = (mFb R B i).1 j from if_neg q]; exact h2⟩
theorem mFb_free (R B : Nat → Int32) {i : Nat} (hi : i ≤ 40) : pOr (mFb R B i).1 R (nI i) i = 0 := by
  refine pOr_none i (fun j hj e => ?_)
  obtain ⟨c, h1, h2⟩ := mFb_lt R B i j hj
  rw [h2, nI_eq (by omega) (by omega)] at e
  omega
theorem mFb_le (R B : Nat → Int32) : ∀ i, (mFb R B i).2 ≤ i := by
  intro i
  induction i with
  | zero => exact Nat.le_refl _
  | succ i ih =>
    have h1 := mLowF_le (mFb R B i).1 R i i 0
    show (if mLowF (mFb R B i).1 R i i 0 + 1 ≤ (mFb R B i).2 then (mFb R B i).2 else mLowF (mFb R B i).1 R i i 0 + 1) ≤ i + 1
    generalize mLowF (mFb R B i).1 R i i 0 = q at h1 ⊢
    split <;> omega
theorem mBs_le (rk : Nat → Int32) : ∀ k, mBs rk k ≤ k := by
  intro k
  induction k with
  | zero => exact Nat.le_refl _
  | succ k ih => rw [mBs]; split <;> omega
theorem mSf_0 (rk : Nat → Int32) (b : Nat) : mSf rk b b = rk := by funext j; unfold mSf; rw [if_neg (by omega)]
theorem mSf_s (rk : Nat → Int32) {b k : Nat} (h : b ≤ k) : upd (mSf rk b k) k (mSf rk b k (k + 1)) = mSf rk b (k + 1) := by
  funext j
  unfold upd mSf
  by_cases q : j = k
  · rw [if_pos q, if_neg (by omega), if_pos (by omega), q]
  · rw [if_neg q]
    by_cases q2 : b ≤ j ∧ j < k
    · rw [if_pos q2, if_pos (by omega)]
    · rw [if_neg q2, if_neg (by omega)]
theorem att_z {kk : Int32} {f : Nat} {S : Int64} {L u : Int32} {wk : Int64} (h0 : pBC L = 0) : pAtt kk f S L u wk = (false, S, L, u, wk) := by
  cases f with
  | zero => rfl
  | succ f => exact pAtt_0 h0
theorem att_y {kk : Int32} {f m v : Nat} {S : Int64} {u : Int32} {wk : Int64} (h0 : ¬ pBC (nI m) = 0) (ev : pLw (nI m) (pIx (pNx S) (pBC (nI m))) = nI v) (hv : v < 16) (h2 : kk &&& pBit (nI v) = 0) : pAtt kk (f + 1) S (nI m) u wk = (true, pNx S, nI m, u + 1, wk + 1) :=
  pAtt_2 h0 (by rw [ev]; exact nI_ne_m1 (by omega)) (by rw [ev]; exact h2)
theorem att_n {kk : Int32} {f m v : Nat} {S : Int64} {u : Int32} {wk : Int64} (hm : m < 65536) (h0 : ¬ pBC (nI m) = 0) (ev : pLw (nI m) (pIx (pNx S) (pBC (nI m))) = nI v) (hv : v < 16) (hb : m.testBit v = true) (h2 : ¬ kk &&& pBit (nI v) = 0) : pAtt kk (f + 1) S (nI m) u wk = pAtt kk f (pNx S) (nI (m ^^^ 2 ^ v)) (u + 1) (wk + 1) := by
  rw [pAtt_3 h0 (by rw [ev]; exact nI_ne_m1 (by omega)) (by rw [ev]; exact h2), ev, clear_n hm hv hb]
theorem lc_dec {m v : Nat} (hm : m < 65536) (hv : v < 16) (hb : m.testBit v = true) : pBC (nI m) - 1 = pBC (nI (m ^^^ 2 ^ v)) ∧ cb (m ^^^ 2 ^ v) 16 + 1 = cb m 16 := by
  have h := cb_clear hb 16
  rw [if_pos hv] at h
  refine ⟨?_, h⟩
  rw [pBC_cb hm, pBC_cb (clear_lt hm hv), ← h]
  exact nI_pred _
theorem br_inc {wr c d : Int32} (h : c - 1 = d) : wr - c + 1 = wr - d := by
  subst h
  apply Int32.toBitVec_inj.mp
  simp only [Int32.toBitVec_add, Int32.toBitVec_sub]
  generalize wr.toBitVec = a
  generalize c.toBitVec = b
  apply BitVec.eq_of_toNat_eq
  have ha := a.isLt
  have hb := b.isLt
  simp only [BitVec.toNat_add, BitVec.toNat_sub, show (Int32.toBitVec 1).toNat = 1 from rfl]
  omega
/-- a share that was done leaves somebody live -/
theorem att_ok {kk : Int32} : ∀ (f : Nat) (S : Int64) (m : Nat) (u : Int32) (wk : Int64), m < 65536 → (pAtt kk f S (nI m) u wk).1 = true → ∃ m', (pAtt kk f S (nI m) u wk).2.2.1 = nI m' ∧ m' < 65536 ∧ ¬ pBC (nI m') = 0 := by
  intro f
  induction f with
  | zero => intro S m u wk _ h; cases h
  | succ f ih =>
    intro S m u wk hm h
    by_cases h0 : pBC (nI m) = 0
    · rw [pAtt_0 h0] at h; cases h
    · obtain ⟨v, hv, ev, hb, -⟩ := draw_n hm h0 (pNx S)
      by_cases h2 : kk &&& pBit (nI v) = 0
      · rw [att_y h0 ev hv h2]; exact ⟨m, rfl, hm, h0⟩
      · rw [att_n hm h0 ev hv hb h2] at h ⊢
        exact ih _ _ _ _ (clear_lt hm hv) h
