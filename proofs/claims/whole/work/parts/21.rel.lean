/-! the states as tuples, and what ties them -/
abbrev CS : Type := (Nat) × (Nat → UInt64) × (Nat → Int32) × (Nat → Int32) × (Nat → Int32) × (Nat → Int32) × (Nat → Int32) × (Nat) × (Int32) × (Int32) × (Int64) × (Nat → Int32) × (Int32) × (Nat → Int32) × (Int64) × (UInt64)
abbrev MS : Type := (Int32) × (Nat) × (Nat → Int64) × (Nat → Int32) × (Nat → Int32) × (Nat → Int32) × (Nat → Int64) × (Nat) × (Nat → Int32) × (Nat → Int32) × (Int32) × (Int32) × (Int64) × (Int64)
abbrev cWs (ad : Nat → Nat) (cy : Nat → ClassId) (σ : CS) : va_W := cW ad cy σ.1 σ.2.1 σ.2.2.1 σ.2.2.2.1 σ.2.2.2.2.1 σ.2.2.2.2.2.1 σ.2.2.2.2.2.2.1 σ.2.2.2.2.2.2.2.1 σ.2.2.2.2.2.2.2.2.1 σ.2.2.2.2.2.2.2.2.2.1 σ.2.2.2.2.2.2.2.2.2.2.1 σ.2.2.2.2.2.2.2.2.2.2.2.1 σ.2.2.2.2.2.2.2.2.2.2.2.2.1 σ.2.2.2.2.2.2.2.2.2.2.2.2.2.1 σ.2.2.2.2.2.2.2.2.2.2.2.2.2.2.1 σ.2.2.2.2.2.2.2.2.2.2.2.2.2.2.2
abbrev mWs (ad : Nat → Nat) (cy : Nat → ClassId) (μ : MS) : va_W := mW ad cy μ.1 μ.2.1 μ.2.2.1 μ.2.2.2.1 μ.2.2.2.2.1 μ.2.2.2.2.2.1 μ.2.2.2.2.2.2.1 μ.2.2.2.2.2.2.2.1 μ.2.2.2.2.2.2.2.2.1 μ.2.2.2.2.2.2.2.2.2.1 μ.2.2.2.2.2.2.2.2.2.2.1 μ.2.2.2.2.2.2.2.2.2.2.2.1 μ.2.2.2.2.2.2.2.2.2.2.2.2.1 μ.2.2.2.2.2.2.2.2.2.2.2.2.2
def cntR (rk : Nat → Int32) (r : Int32) : Nat → Nat
  | 0 => 0
  | k + 1 => cntR rk r k + (if rk k = r then 1 else 0)
def Rel (σ : CS) (μ : MS) : Prop := match σ, μ with
  | (n, V, Z, R, K, B, _, bc, G, L, _, q, w, U, wk, jo), (_, n2, E, R2, Z2, _, BR, wt, rk, U2, br, lc, jo2, wk2) =>
    (n2 = n ∧ 1 ≤ n ∧ n ≤ 40) ∧ (∀ k, k < n → V k = Dz (8 * (E k).toInt) ∧ (E k).toInt.natAbs ≤ 8000) ∧ (∀ k, k < n → Z k = Z2 k) ∧ (∀ k, k < n → R k = R2 k) ∧
    (∀ k, k < n → B k = (mFb R2 (fun _ => 0) n).1 k) ∧ bc = (mFb R2 (fun _ => 0) n).2 ∧ (∀ k w9, k < n → w9 < 16 → bt (K k) w9 = bl (BR w9) k) ∧
    (w = nI wt ∧ wt ≤ 20 ∧ (∀ k, k < wt → ∃ r, r < 10 ∧ rk k = nI r) ∧ ∀ r, r < 10 → q r = nI (cntR rk (nI r) wt)) ∧ (∀ k, k < n → U k = U2 k) ∧ wk = wk2 ∧ (jo = Dz jo2.toInt ∧ jo2.toInt.natAbs ≤ 2600000000) ∧ lc = pBC L ∧ br = G - pBC L
