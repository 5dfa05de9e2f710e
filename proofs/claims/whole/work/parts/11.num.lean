/-! ===== numbers: whole numbers beside the machine's ===== -/
def r32 (x : Int) : Prop := -2147483648 ≤ x ∧ x < 2147483648
def r64 (x : Int) : Prop := -9223372036854775808 ≤ x ∧ x < 9223372036854775808
theorem r32_q32 (z : Int) : r32 (q32 z) := by
  unfold r32 q32
  have h1 := Int.le_bmod (x := z) (m := 4294967296) (by decide)
  have h2 := Int.bmod_lt (x := z) (m := 4294967296) (by decide)
  omega
theorem r64_q64 (z : Int) : r64 (q64 z) := by
  unfold r64 q64
  have h1 := Int.le_bmod (x := z) (m := 18446744073709551616) (by decide)
  have h2 := Int.bmod_lt (x := z) (m := 18446744073709551616) (by decide)
  omega
theorem q32_id {z : Int} (h : r32 z) : q32 z = z := by
  unfold r32 at h; unfold q32
  exact Int.bmod_eq_of_le (by omega) (by omega)
theorem q64_id {z : Int} (h : r64 z) : q64 z = z := by
  unfold r64 at h; unfold q64
  exact Int.bmod_eq_of_le (by omega) (by omega)
theorem i_to (z : Int) : (Int32.ofInt z).toInt = q32 z := by
  rw [Int32.toInt_ofInt]; rfl
theorem l_to (z : Int) : (Int64.ofInt z).toInt = q64 z := by
  rw [Int64.toInt_ofInt]; rfl
theorem i_of {z : Int} (h : r32 z) : (Int32.ofInt z).toInt = z := by rw [i_to, q32_id h]
theorem l_of {z : Int} (h : r64 z) : (Int64.ofInt z).toInt = z := by rw [l_to, q64_id h]
theorem i_q (z : Int) : Int32.ofInt (q32 z) = Int32.ofInt z := by
  apply Int32.toInt_inj.mp
  rw [i_to, i_to, q32_id (r32_q32 z)]
theorem l_q (z : Int) : Int64.ofInt (q64 z) = Int64.ofInt z := by
  apply Int64.toInt_inj.mp
  rw [l_to, l_to, q64_id (r64_q64 z)]
theorem r32_to (x : Int32) : r32 x.toInt := by
  unfold r32
  have h1 := Int32.le_toInt x
  have h2 := Int32.toInt_lt x
  omega
theorem r64_to (x : Int64) : r64 x.toInt := by
  unfold r64
  have h1 := Int64.le_toInt x
  have h2 := Int64.toInt_lt x
  omega
theorem i_add (x y : Int) : Int32.ofInt (q32 (x + y)) = Int32.ofInt x + Int32.ofInt y := by rw [i_q, Int32.ofInt_add]
theorem i_sub (x y : Int) : Int32.ofInt (q32 (x - y)) = Int32.ofInt x - Int32.ofInt y := by rw [i_q, Int32.ofInt_sub]
theorem i_mul (x y : Int) : Int32.ofInt (q32 (x * y)) = Int32.ofInt x * Int32.ofInt y := by rw [i_q, Int32.ofInt_mul]
theorem l_add (x y : Int) : Int64.ofInt (q64 (x + y)) = Int64.ofInt x + Int64.ofInt y := by rw [l_q, Int64.ofInt_add]
theorem l_sub (x y : Int) : Int64.ofInt (q64 (x - y)) = Int64.ofInt x - Int64.ofInt y := by rw [l_q, Int64.ofInt_sub]
theorem l_mul (x y : Int) : Int64.ofInt (q64 (x * y)) = Int64.ofInt x * Int64.ofInt y := by rw [l_q, Int64.ofInt_mul]
theorem l_neg (x : Int) : Int64.ofInt (q64 (-x)) = - Int64.ofInt x := by rw [l_q, Int64.ofInt_neg]
theorem i_div {x y : Int} (hx : r32 x) (hy : r32 y) : Int32.ofInt (q32 (x.tdiv y)) = Int32.ofInt x / Int32.ofInt y := by
  apply Int32.toInt_inj.mp
  rw [Int32.toInt_div, i_of hx, i_of hy, i_to, q32_id (r32_q32 _)]; rfl
theorem l_div {x y : Int} (hx : r64 x) (hy : r64 y) : Int64.ofInt (q64 (x.tdiv y)) = Int64.ofInt x / Int64.ofInt y := by
  apply Int64.toInt_inj.mp
  rw [Int64.toInt_div, l_of hx, l_of hy, l_to, q64_id (r64_q64 _)]; rfl
theorem i_rem {x y : Int} (hx : r32 x) (hy : r32 y) : Int32.ofInt (x.tmod y) = Int32.ofInt x - Int32.ofInt x / Int32.ofInt y * Int32.ofInt y := by
  rw [← i_div hx hy, i_q, ← Int32.ofInt_mul, ← Int32.ofInt_sub]
  congr 1
  have h := Int.mul_tdiv_add_tmod x y
  rw [Int.mul_comm] at h
  omega
theorem l_rem {x y : Int} (hx : r64 x) (hy : r64 y) : Int64.ofInt (x.tmod y) = Int64.ofInt x - Int64.ofInt x / Int64.ofInt y * Int64.ofInt y := by
  rw [← l_div hx hy, l_q, ← Int64.ofInt_mul, ← Int64.ofInt_sub]
  congr 1
  have h := Int.mul_tdiv_add_tmod x y
  rw [Int.mul_comm] at h
  omega
theorem tmod_abs (x y : Int) : (0 ≤ x → 0 ≤ x.tmod y ∧ x.tmod y ≤ x) ∧ (x ≤ 0 → x ≤ x.tmod y ∧ x.tmod y ≤ 0) := by
  have key : ∀ x : Int, 0 ≤ x → 0 ≤ x.tmod y ∧ x.tmod y ≤ x := by
    intro x h
    refine ⟨Int.tmod_nonneg y h, ?_⟩
    have e : x.tmod y = ((x.natAbs % y.natAbs : Nat) : Int) := by
      have h1 : x = (x.natAbs : Int) := by omega
      rcases Int.natAbs_eq y with h2 | h2
      · rw [h2, h1]; simp [Int.natAbs_natCast]; exact Int.tmod_eq_emod_of_nonneg (by omega)
      · rw [h2, h1]; simp [Int.tmod_neg]; exact Int.tmod_eq_emod_of_nonneg (by omega)
    rw [e]
    have := Nat.mod_le x.natAbs y.natAbs
    omega
  refine ⟨key x, fun h => ?_⟩
  have h1 := key (-x) (by omega)
  rw [Int.neg_tmod] at h1
  omega
theorem r32_tmod {x : Int} (y : Int) (hx : r32 x) : r32 (x.tmod y) := by
  unfold r32 at *
  have h := tmod_abs x y
  rcases Int.le_total 0 x with h0 | h0
  · have := h.1 h0; omega
  · have := h.2 h0; omega
theorem r64_tmod {x : Int} (y : Int) (hx : r64 x) : r64 (x.tmod y) := by
  unfold r64 at *
  have h := tmod_abs x y
  rcases Int.le_total 0 x with h0 | h0
  · have := h.1 h0; omega
  · have := h.2 h0; omega
theorem i_back (x : Int32) : Int32.ofInt x.toInt = x := Int32.ofInt_toInt x
theorem l_back (x : Int64) : Int64.ofInt x.toInt = x := Int64.ofInt_toInt x
theorem i_lt {x y : Int} (hx : r32 x) (hy : r32 y) : Int32.ofInt x < Int32.ofInt y ↔ x < y := by rw [Int32.lt_iff_toInt_lt, i_of hx, i_of hy]
theorem i_le {x y : Int} (hx : r32 x) (hy : r32 y) : Int32.ofInt x ≤ Int32.ofInt y ↔ x ≤ y := by rw [Int32.le_iff_toInt_le, i_of hx, i_of hy]
theorem i_eq {x y : Int} (hx : r32 x) (hy : r32 y) : Int32.ofInt x = Int32.ofInt y ↔ x = y := by rw [← Int32.toInt_inj, i_of hx, i_of hy]
theorem l_lt {x y : Int} (hx : r64 x) (hy : r64 y) : Int64.ofInt x < Int64.ofInt y ↔ x < y := by rw [Int64.lt_iff_toInt_lt, l_of hx, l_of hy]
theorem l_eq {x y : Int} (hx : r64 x) (hy : r64 y) : Int64.ofInt x = Int64.ofInt y ↔ x = y := by rw [← Int64.toInt_inj, l_of hx, l_of hy]
theorem i_0 : (0 : Int32) = Int32.ofInt 0 := rfl
theorem r32_0 : r32 0 := by unfold r32; omega
theorem i_lt0 {x : Int} (hx : r32 x) : Int32.ofInt x < 0 ↔ x < 0 := by rw [i_0, i_lt hx r32_0]
theorem i_le0 {x : Int} (hx : r32 x) : Int32.ofInt x ≤ 0 ↔ x ≤ 0 := by rw [i_0, i_le hx r32_0]
theorem i_0lt {x : Int} (hx : r32 x) : 0 < Int32.ofInt x ↔ 0 < x := by rw [i_0, i_lt r32_0 hx]
theorem i_0le {x : Int} (hx : r32 x) : 0 ≤ Int32.ofInt x ↔ 0 ≤ x := by rw [i_0, i_le r32_0 hx]
theorem i_eq0 {x : Int} (hx : r32 x) : Int32.ofInt x = 0 ↔ x = 0 := by rw [i_0, i_eq hx r32_0]
theorem l_eq0 {x : Int} (hx : r64 x) : Int64.ofInt x = 0 ↔ x = 0 := by
  rw [show (0 : Int64) = Int64.ofInt 0 from rfl, l_eq hx (by unfold r64; omega)]
theorem i_clamp {x : Int} (h0 : 0 ≤ x) (h1 : x < 2147483648) : (Int32.ofInt x).toNatClampNeg = x.toNat := by
  show (Int32.ofInt x).toInt.toNat = x.toNat
  rw [i_of (by unfold r32; omega)]
theorem i_in {x : Int} {n : Nat} (h0 : 0 ≤ x) (h1 : x < n) (h2 : n < 2147483648) : ¬ (Int32.ofInt x < 0 ∨ n ≤ (Int32.ofInt x).toNatClampNeg) := by
  rw [i_lt0 (by unfold r32; omega), i_clamp h0 (by omega)]
  omega
theorem i_l {x : Int} (h : r32 x) : (Int32.ofInt x).toInt64 = Int64.ofInt x := by
  apply Int64.toInt_inj.mp
  rw [Int32.toInt_toInt64, i_of h, l_of (by unfold r32 at h; unfold r64; omega)]
theorem l_i (x : Int) : (Int64.ofInt x).toInt32 = Int32.ofInt (q32 x) := by
  rw [i_q]
  apply Int32.toInt_inj.mp
  rw [Int64.toInt_toInt32, l_to, i_to]
  unfold q32 q64
  rw [Int.bmod_bmod_of_dvd (by decide)]
theorem i_b (x : Int) : (Int32.ofInt x).toInt8.toInt32 = Int32.ofInt (x.bmod 256) := by
  apply Int32.toInt_inj.mp
  rw [Int8.toInt_toInt32, Int32.toInt_toInt8, i_to, i_of]
  · unfold q32; rw [Int.bmod_bmod_of_dvd (by decide)]
  · have h1 := Int.le_bmod (x := x) (m := 256) (by decide)
    have h2 := Int.bmod_lt (x := x) (m := 256) (by decide)
    unfold r32; omega
theorem i_s (x : Int) : (Int32.ofInt x).toInt16.toInt32 = Int32.ofInt (x.bmod 65536) := by
  apply Int32.toInt_inj.mp
  rw [Int16.toInt_toInt32, Int32.toInt_toInt16, i_to, i_of]
  · unfold q32; rw [Int.bmod_bmod_of_dvd (by decide)]
  · have h1 := Int.le_bmod (x := x) (m := 65536) (by decide)
    have h2 := Int.bmod_lt (x := x) (m := 65536) (by decide)
    unfold r32; omega
theorem r32_b (x : Int) : r32 (x.bmod 256) := by
  have h1 := Int.le_bmod (x := x) (m := 256) (by decide)
  have h2 := Int.bmod_lt (x := x) (m := 256) (by decide)
  unfold r32; omega
theorem r32_s (x : Int) : r32 (x.bmod 65536) := by
  have h1 := Int.le_bmod (x := x) (m := 65536) (by decide)
  have h2 := Int.bmod_lt (x := x) (m := 65536) (by decide)
  unfold r32; omega
theorem r32_cmp (x y : Int) : r32 (j_cmp x y) := by
  unfold j_cmp r32
  split <;> (try split) <;> omega
