/-! the worlds: the class's object with its rows (ad 0 .. ad 10), the reference's (ad 0 .. ad 7), the law's row 'out' -/
abbrev cW (ad : Nat → Nat) (cy : Nat → ClassId) (n : Nat) (V : Nat → UInt64) (Z R K B M : Nat → Int32) (bc : Nat) (G L : Int32) (S : Int64) (q : Nat → Int32) (w : Int32) (U : Nat → Int32) (wk : Int64) (jo : UInt64) : va_W :=
  [(ad 0, .inr (2, [.int (nI n), .ref (ad 1), .ref (ad 2), .ref (ad 3), .ref (ad 4), .ref (ad 5), .ref (ad 6), .int (nI bc), .ref (ad 7), .ref (ad 8), .ref (ad 9), .long wk, .double jo])),
   (ad 1, .inl (cy 1, n, .inr (.inr (.inr (.inl V))))), (ad 2, .inl (cy 2, n, .inl Z)), (ad 3, .inl (cy 3, n, .inl R)), (ad 4, .inl (cy 4, n, .inl K)), (ad 5, .inl (cy 5, n, .inl B)), (ad 6, .inl (cy 6, n, .inl M)),
   (ad 7, .inr (0, [.int G, .int L, .long S])), (ad 8, .inr (1, [.ref (ad 10), .int w])), (ad 9, .inl (cy 9, n, .inl U)), (ad 10, .inl (cy 10, 10, .inl q))]
abbrev cT (cy : Nat → ClassId) : zTy := [(cy 1, .double), (cy 2, .boolean), (cy 3, .int), (cy 4, .int), (cy 5, .int), (cy 6, .int), (cy 9, .int), (cy 10, .int)]
abbrev mW (ad : Nat → Nat) (cy : Nat → ClassId) (th : Int32) (n : Nat) (E : Nat → Int64) (R Z B : Nat → Int32) (BR : Nat → Int64) (wt : Nat) (rk U : Nat → Int32) (br lc : Int32) (jo wk : Int64) : va_W :=
  [(ad 0, .inr (3, [.int th, .int (nI n), .ref (ad 1), .ref (ad 2), .ref (ad 3), .ref (ad 4), .ref (ad 5), .int (nI wt), .ref (ad 6), .ref (ad 7), .int br, .int lc, .long jo, .long wk])),
   (ad 1, .inl (cy 1, 40, .inr (.inl E))), (ad 2, .inl (cy 2, 40, .inl R)), (ad 3, .inl (cy 3, 40, .inl Z)), (ad 4, .inl (cy 4, 40, .inl B)), (ad 5, .inl (cy 5, 16, .inr (.inl BR))), (ad 6, .inl (cy 6, 20, .inl rk)), (ad 7, .inl (cy 7, 40, .inl U))]
abbrev mT (cy : Nat → ClassId) : zTy := [(cy 1, .long), (cy 2, .int), (cy 3, .boolean), (cy 4, .int), (cy 5, .long), (cy 6, .int), (cy 7, .int)]
abbrev oW (ao : Nat) (co : ClassId) (x : Nat → Int64) : va_W := [(ao, .inl (co, 1, .inr (.inl x)))]
abbrev oT (co : ClassId) : zTy := [(co, .long)]
/-! what the methods compute, in the code's own steps -/
def us (x k : Int32) : Int32 := (x.toUInt32 >>> (k.toUInt32 &&& Int32.toUInt32 31)).toInt32
def ul (x : Int64) (k : Int32) : Int64 := (x.toUInt64 >>> (k.toInt64.toUInt64 &&& Int64.toUInt64 63)).toInt64
def pB1 (x : Int32) : Int32 := x - (us x 1 &&& 1431655765)
def pB2 (x : Int32) : Int32 := (x &&& 858993459) + (us x 2 &&& 858993459)
def pB3 (x : Int32) : Int32 := (x + us x 4) &&& 252645135
def pB4 (x : Int32) : Int32 := x + us x 8
def pB5 (x : Int32) : Int32 := x + us x 16
/-- Integer.bitCount -/
def pBC (x : Int32) : Int32 := pB5 (pB4 (pB3 (pB2 (pB1 x)))) &&& 63
def pBit (w : Int32) : Int32 := (1 : Int32) <<< (w &&& 31)
def pLwF (L : Int32) : Nat → Nat → Int32 → Int32
  | 0, _, _ => -1
  | k + 1, w, a => if L &&& pBit (nI w) = 0 then pLwF L k (w + 1) a else if a = 0 then nI w else pLwF L k (w + 1) (a + (-1))
def pLw (L a : Int32) : Int32 := pLwF L 16 0 a
def pNx (S : Int64) : Int64 := S * 6364136223846793005 + 1442695040888963407
def pIx (S : Int64) (k : Int32) : Int32 := (ul S (nI 33) - ul S (nI 33) / k.toInt64 * k.toInt64).toInt32
/-- one share's begins: the draws' number, the live bits, how often begun, the work -/
abbrev pX : Type := Int64 × Int32 × Int32 × Int64
def pAtt (kk : Int32) : Nat → Int64 → Int32 → Int32 → Int64 → Bool × pX
  | 0, S, L, u, wk => (false, S, L, u, wk)
  | f + 1, S, L, u, wk =>
    if pBC L = 0 then (false, S, L, u, wk)
    else if pLw L (pIx (pNx S) (pBC L)) = -1 then (false, pNx S, L, u, wk)
    else if kk &&& pBit (pLw L (pIx (pNx S) (pBC L))) = 0 then (true, pNx S, L, u + 1, wk + 1)
    else pAtt kk f (pNx S) (L &&& (pBit (pLw L (pIx (pNx S) (pBC L))) ^^^ (-1))) (u + 1) (wk + 1)
/-- a run's running things: the draws' number, the live bits, the begins, the work -/
abbrev pY : Type := Int64 × Int32 × (Nat → Int32) × Int64
def pSh (K : Nat → Int32) (k : Nat) (x : pY) : Bool × pY :=
  ((pAtt (K k) 16 x.1 x.2.1 (x.2.2.1 k) x.2.2.2).1, (pAtt (K k) 16 x.1 x.2.1 (x.2.2.1 k) x.2.2.2).2.1, (pAtt (K k) 16 x.1 x.2.1 (x.2.2.1 k) x.2.2.2).2.2.1, upd x.2.2.1 k (pAtt (K k) 16 x.1 x.2.1 (x.2.2.1 k) x.2.2.2).2.2.2.1, (pAtt (K k) 16 x.1 x.2.1 (x.2.2.1 k) x.2.2.2).2.2.2.2)
def pBt (K B : Nat → Int32) (b : Int32) : Nat → Nat → pY → Bool × pY
  | 0, _, x => (true, x)
  | k + 1, i, x => if B i = b then (if (pSh K i x).1 = true then pBt K B b k (i + 1) (pSh K i x).2 else (false, (pSh K i x).2)) else pBt K B b k (i + 1) x
def pRn (K B : Nat → Int32) (n : Nat) : Nat → Nat → pY → Bool × pY
  | 0, _, x => (true, x)
  | k + 1, b, x => if (pBt K B (nI b) n 0 x).1 = true then pRn K B n k (b + 1) (pBt K B (nI b) n 0 x).2 else (false, (pBt K B (nI b) n 0 x).2)
def pLowF (M : Nat → Int32) (t : Int32) : Nat → Nat → Nat
  | 0, b => b
  | k + 1, b => if M b &&& t = 0 then b else pLowF M t k (b + 1)
/-- the batches, the regions of a batch, how many batches -/
abbrev pS : Type := (Nat → Int32) × (Nat → Int32) × Nat
def pSoS (r : Int32) (i : Nat) (x : pS) : pS :=
  (upd x.1 i (nI (pLowF x.2.1 r i 0)), upd x.2.1 (pLowF x.2.1 r i 0) (x.2.1 (pLowF x.2.1 r i 0) ||| r), if x.2.2 < pLowF x.2.1 r i 0 + 1 then pLowF x.2.1 r i 0 + 1 else x.2.2)
/-- the first i shares sorted in, from the regions M -/
def pSi (R B M : Nat → Int32) : Nat → pS
  | 0 => (B, M, 0)
  | i + 1 => pSoS (R i) i (pSi R B M i)
def pZr (U : Nat → Int32) (i : Nat) : Nat → Int32 := fun j => if j < i then 0 else U j
/-- the whole sorting: the regions of all batches emptied first -/
abbrev pSo (R B M : Nat → Int32) (n : Nat) : pS := pSi R B (pZr M n) n
def pAh (Z B : Nat → Int32) (bc : Int32) : Nat → Int32
  | 0 => bc
  | i + 1 => if Z i = 0 then pAh Z B bc i else if B i < pAh Z B bc i then B i else pAh Z B bc i
/-- the waiting acts by rank, how many, the work -/
abbrev pA : Type := (Nat → Int32) × Int32 × Int64
def pLoK (q : Nat → Int32) (w : Int32) : Nat → Int32 × (Nat → Int32) × Int32
  | 0 => (0, q, w)
  | k + 1 => if q k ≤ 0 then pLoK q w k else (1, upd q k (q k - 1), w - 1)
def pLo (q : Nat → Int32) (w : Int32) : Int32 × (Nat → Int32) × Int32 := pLoK q w 10
def pLe (x : pA) : pA := ((pLo x.1 x.2.1).2.1, (pLo x.1 x.2.1).2.2, if (pLo x.1 x.2.1).1 = 0 then x.2.2 else x.2.2 + 1)
def pLet : Nat → pA → pA
  | 0, x => x
  | k + 1, x => pLet k (pLe x)
def pCt (B : Nat → Int32) (b : Int32) : Nat → Nat
  | 0 => 0
  | i + 1 => if b ≤ B i then pCt B b i else pCt B b i + 1
def pRes (E : Nat → Int) (i : Nat) : Int := E i * E i + 4 * E i + 64 * i
def pSm (E : Nat → Int) (B : Nat → Int32) (b : Int32) : Nat → Int
  | 0 => 0
  | i + 1 => if b ≤ B i then pSm E B b i else pSm E B b i + pRes E i
def pAdF (q : Nat → Int32) : Nat → Nat → Int32 → Int32
  | 0, _, a => a
  | k + 1, j, a => pAdF q k (j + 1) (a + q j)
theorem upd_self (f : Nat → Int32) (k : Nat) : upd f k (f k) = f := by
  funext j; unfold upd; split
  · rename_i h; rw [h]
  · rfl
theorem upd_upd (f : Nat → Int32) (k : Nat) (x y : Int32) : upd (upd f k x) k y = upd f k y := by
  funext j; unfold upd; split <;> rfl
theorem upd_at (f : Nat → Int32) (k : Nat) (x : Int32) : upd f k x k = x := by unfold upd; rw [if_pos rfl]
theorem pZr_0 (U : Nat → Int32) : pZr U 0 = U := by funext j; unfold pZr; rw [if_neg (Nat.not_lt_zero j)]
theorem pZr_s (U : Nat → Int32) (i : Nat) : upd (pZr U i) i 0 = pZr U (i + 1) := by
  funext j; unfold upd pZr
  by_cases h : j = i
  · rw [if_pos h, if_pos (by omega)]
  · rw [if_neg h]
    by_cases h2 : j < i
    · rw [if_pos h2, if_pos (by omega)]
    · rw [if_neg h2, if_neg (by omega)]
theorem pLowF_le (M : Nat → Int32) (t : Int32) : ∀ k b, pLowF M t k b ≤ b + k := by
  intro k
  induction k with
  | zero => intro b; exact Nat.le_refl _
  | succ k ih =>
    intro b; unfold pLowF; split
    · omega
    · have := ih (b + 1); omega
theorem pSi_le (R B M : Nat → Int32) : ∀ i, (pSi R B M i).2.2 ≤ i := by
  intro i
  induction i with
  | zero => exact Nat.le_refl _
  | succ i ih =>
    have h1 := pLowF_le (pSi R B M i).2.1 (R i) i 0
    have h2 : (pSi R B M (i + 1)).2.2 = (if (pSi R B M i).2.2 < pLowF (pSi R B M i).2.1 (R i) i 0 + 1 then pLowF (pSi R B M i).2.1 (R i) i 0 + 1 else (pSi R B M i).2.2) := rfl
    rw [h2]
    generalize pLowF (pSi R B M i).2.1 (R i) i 0 = q at h1 ⊢
    split <;> omega
theorem nI_mx {a b : Nat} (ha : a < 2 ^ 31) (hb9 : b < 2 ^ 31) : (if nI a < nI b then nI b else nI a) = nI (if a < b then b else a) := by
  by_cases h : a < b
  · rw [if_pos h, if_pos ((nI_ltI ha hb9).mpr h)]
  · rw [if_neg h, if_neg (fun h2 => h ((nI_ltI ha hb9).mp h2))]
