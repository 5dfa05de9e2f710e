/-! ===== bits of whole numbers (text laid by gencls2.py; the rows on bt are the kit's, given for pasting) ===== -/
def bt (x : Int32) (i : Nat) : Bool := x.toBitVec.getLsbD i
theorem b_ext {x y : Int32} (h : ∀ i, i < 32 → bt x i = bt y i) : x = y := Int32.toBitVec_inj.mp (BitVec.eq_of_getLsbD_eq (fun i hi => h i hi))
theorem b_or (x y : Int32) (i : Nat) : bt (x ||| y) i = (bt x i || bt y i) := by unfold bt; rw [Int32.toBitVec_or, BitVec.getLsbD_or]
theorem b_and (x y : Int32) (i : Nat) : bt (x &&& y) i = (bt x i && bt y i) := by unfold bt; rw [Int32.toBitVec_and, BitVec.getLsbD_and]
theorem b_xor (x y : Int32) (i : Nat) : bt (x ^^^ y) i = (bt x i ^^ bt y i) := by unfold bt; rw [Int32.toBitVec_xor, BitVec.getLsbD_xor]
theorem b_m1 : ∀ i, i < 32 → bt (-1) i = true := by decide +kernel
theorem s_l : ∀ n, n < 32 → ((nI n &&& 31).toBitVec.smod 32).toNat = n := by decide +kernel
theorem b_sshr (n : Nat) (hn : n < 32) (x : Int32) {i : Nat} (hi : i < 32) : bt (x >>> (nI n &&& 31)) i = if n + i < 32 then bt x (n + i) else bt x 31 := by
  unfold bt
  rw [Int32.toBitVec_shiftRight]
  show (x.toBitVec.sshiftRight ((nI n &&& 31).toBitVec.smod 32).toNat).getLsbD i = _
  rw [s_l n hn, BitVec.getLsbD_sshiftRight, BitVec.msb_eq_getLsbD_last]
  simp [hi]
def bz (x : Int) (i : Nat) : Bool := bt (Int32.ofInt x) i
theorem bz_and {x y : Int} {i : Nat} : bz (z_and x y) i = (bz x i && bz y i) := by unfold bz z_and; rw [Int32.ofInt_toInt, b_and]
theorem bz_or {x y : Int} {i : Nat} : bz (z_or x y) i = (bz x i || bz y i) := by unfold bz z_or; rw [Int32.ofInt_toInt, b_or]
theorem bz_xor {x y : Int} {i : Nat} : bz (z_xor x y) i = (bz x i ^^ bz y i) := by unfold bz z_xor; rw [Int32.ofInt_toInt, b_xor]
theorem bz_m {i : Nat} (h : i < 32) : bz (-1) i = true := b_m1 i h
theorem bz_no {x : Int} {i : Nat} (h : i < 32) : bz (z_xor x (-1)) i = !bz x i := by rw [bz_xor, bz_m h]; cases bz x i <;> rfl
theorem bz_p0 : ∀ k < 31, ∀ i < 32, bz (z_shl 1 ((k : Nat) : Int)) i = decide (i = k) := by decide +kernel
theorem bz_f0 : ∀ k < 20, ∀ i < 32, bz (z_shl 1 ((k : Nat) : Int) - 1) i = decide (i < k) := by decide +kernel
theorem bz_00 : ∀ i < 32, bz 0 i = false := by decide +kernel
theorem bz_11 : ∀ i < 32, bz 1 i = decide (i = 0) := by decide +kernel
theorem bz_ext {x y : Int} (hx : -2147483648 ≤ x ∧ x < 2147483648) (hy : -2147483648 ≤ y ∧ y < 2147483648) (h : ∀ i, i < 32 → bz x i = bz y i) : x = y := by
  have e : Int32.ofInt x = Int32.ofInt y := b_ext h
  have e2 := congrArg Int32.toInt e
  rwa [Int32.toInt_ofInt_of_le (by simpa using hx.1) (by simpa using hx.2), Int32.toInt_ofInt_of_le (by simpa using hy.1) (by simpa using hy.2)] at e2
theorem z_r (a : Int32) : -2147483648 ≤ a.toInt ∧ a.toInt < 2147483648 := ⟨by have := Int32.le_toInt a; simpa using this, by have := Int32.toInt_lt a; simpa using this⟩
theorem z_and_r {x y : Int} : -2147483648 ≤ z_and x y ∧ z_and x y < 2147483648 := z_r _
theorem z_or_r {x y : Int} : -2147483648 ≤ z_or x y ∧ z_or x y < 2147483648 := z_r _
theorem z_xor_r {x y : Int} : -2147483648 ≤ z_xor x y ∧ z_xor x y < 2147483648 := z_r _
theorem z_shl_r {x y : Int} : -2147483648 ≤ z_shl x y ∧ z_shl x y < 2147483648 := z_r _
theorem hb_n {s : Int} {k : Nat} (hk : k < 32) : hasb s k = if bz s k then 1 else 0 := by
  have e : z_and (z_shr s k) 1 = if bz s k then 1 else 0 := by
    refine bz_ext z_and_r (by split <;> decide) (fun i hi => ?_)
    rw [bz_and, bz_11 i hi]
    have e1 : bz (z_shr s k) i = if k + i < 32 then bz s (k + i) else bz s 31 := by
      have q : z_shr s k = (Int32.ofInt s >>> (nI k &&& 31)).toInt := by
        unfold z_shr
        have : Int32.ofInt ((k : Nat) : Int) = nI k := rfl
        rw [this]
      rw [q]; unfold bz; rw [Int32.ofInt_toInt]; exact b_sshr k hk _ hi
    by_cases c : i = 0
    · subst c
      rw [e1, if_pos (by omega), Nat.add_zero]
      cases bz s k
      · simp [bz_00]
      · simp [bz_11]
    · rw [decide_eq_false c, Bool.and_false]
      cases bz s k
      · simp [bz_00 i hi]
      · simp [bz_11 i hi, c]
  exact e
theorem hb_i {s k : Int} (h1 : 0 ≤ k) (h2 : k < 32) : hasb s k = if bz s k.toNat then 1 else 0 := by
  have := hb_n (s := s) (k := k.toNat) (by omega)
  rwa [show ((k.toNat : Nat) : Int) = k by omega] at this
theorem hb_01 {s k : Int} (h1 : 0 ≤ k) (h2 : k < 32) : hasb s k = 0 ∨ hasb s k = 1 := by rw [hb_i h1 h2]; split <;> simp
theorem bz_p {k : Int} (h1 : 0 ≤ k) (h2 : k < 31) {i : Nat} (hi : i < 32) : bz (z_shl 1 k) i = decide (i = k.toNat) := by
  have := bz_p0 k.toNat (by omega) i hi
  rwa [show ((k.toNat : Nat) : Int) = k by omega] at this
theorem bz_f {k : Int} (h1 : 0 ≤ k) (h2 : k < 20) {i : Nat} (hi : i < 32) : bz (z_shl 1 k - 1) i = decide (i < k.toNat) := by
  have := bz_f0 k.toNat (by omega) i hi
  rwa [show ((k.toNat : Nat) : Int) = k by omega] at this
theorem mSet_bz {f : Int → Int} : ∀ n : Nat, n ≤ 31 → ∀ i : Nat, i < 32 → bz (mSet f n) i = decide (i < n ∧ f i = 1)
  | 0, _, i, hi => by unfold mSet; rw [bz_00 i hi]; simp
  | n + 1, hn, i, hi => by
    rw [mSet_s, bz_or, mSet_bz n (by omega) i hi]
    by_cases c : f n = 1
    · rw [if_pos c, bz_p0 n (by omega) i hi]
      by_cases e : i = n
      · subst e; simp [c]
      · by_cases l : i < n
        · have : i < n + 1 := by omega
          simp [e, l, this]
        · have : ¬ i < n + 1 := by omega
          simp [e, l, this]
    · rw [if_neg c, bz_00 i hi, Bool.or_false]
      by_cases e : i = n
      · subst e; simp [c]
      · by_cases l : i < n
        · have : i < n + 1 := by omega
          simp [l, this]
        · have : ¬ i < n + 1 := by omega
          simp [l, this]
theorem mSet_hb {f : Int → Int} {n : Nat} (hn : n ≤ 31) {k : Int} (h1 : 0 ≤ k) (h2 : k < 32) : hasb (mSet f n) k = if k < n ∧ f k = 1 then 1 else 0 := by
  rw [hb_i h1 h2, mSet_bz n hn k.toNat (by omega), show ((k.toNat : Nat) : Int) = k by omega]
  by_cases c : k < n ∧ f k = 1
  · rw [if_pos c, decide_eq_true (by constructor; omega; exact c.2)]; rfl
  · rw [if_neg c, decide_eq_false (fun x => c ⟨by omega, x.2⟩)]; rfl
