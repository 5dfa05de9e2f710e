/-! ===== the model: share (text laid by genmod26.py) ===== -/
def mShA (b : Int → Int) : Nat → Int
  | 0 => 0
  | k + 1 => mShA b k + cntN (mSwg b k) (nS b)
theorem mShA_s {b : Int → Int} {k : Nat} : mShA b (k + 1) = mShA b k + cntN (mSwg b k) (nS b) := rfl
theorem mShA_r {b : Int → Int} : ∀ k : Nat, 0 ≤ mShA b k ∧ mShA b k ≤ k * nS b
  | 0 => by unfold mShA; simp
  | k + 1 => by
    have h1 := mShA_r (b := b) k
    have h2 := cntN_r (f := mSwg b k) (nS b)
    rw [mShA_s]
    have e : ((k + 1 : Nat) : Int) * (nS b : Int) = k * nS b + nS b := by rw [Int.natCast_add, Int.add_mul]; simp
    omega
