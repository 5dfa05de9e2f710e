/-! ===== the model: a MINUTE goes by (text laid by genmod6.py) ===== -/
theorem Go.toh {d : Nat} {code : List MI} {i : Nat} {ls ls' st st' : List MV} {h h' : MH} {Q : Option MV → MH → Prop} (e1 : ls' = ls) (e2 : st' = st) (e3 : h' = h) (hg : Go d code i ls' st' h' Q) : Go d code i ls st h Q := by subst e1 e2 e3; exact hg
theorem he {S : MSh} {f g : Sg} (h : f = g) : (S, f) = (S, g) := by rw [h]
def mWalkN (b : Int → Int) : Nat → Int → Int
  | 0 => b
  | k + 1 => mWalk (mWalkN b k) k
theorem mWalkN_s {b : Int → Int} {k : Nat} : mWalkN b (k + 1) = mWalk (mWalkN b k) k := rfl
theorem mWalkN_z {b : Int → Int} : mWalkN b 0 = b := rfl
theorem mWalkN_1 {b : Int → Int} {j : Int} (h : j < 24 ∨ 64 ≤ j) : ∀ {k : Nat}, k ≤ 10 → mWalkN b k j = b j
  | 0, _ => rfl
  | k + 1, hk => by rw [mWalkN_s, mWalk_1 h (by omega) (by omega)]; exact mWalkN_1 h (by omega)
theorem mWalkN_w {b : Int → Int} (h : WB b) : ∀ {k : Nat}, (k : Int) ≤ b 1 → WB (mWalkN b k)
  | 0, _ => h
  | k + 1, hk => by
    have h1 := h.2.1
    have e : mWalkN b k 1 = b 1 := mWalkN_1 (by omega) (by omega)
    exact mWalk_w (mWalkN_w h (by omega)) (by omega) (by rw [e]; omega)
def mTick (b : Int → Int) : Int → Int := bu (mWalkN b (b 1).toNat) 8 (b 8 + 1)
def mRing (b : Int → Int) : Int := (b 8 + 1).tmod (b 7)
def mMin (b : Int → Int) : Int → Int := if mRing b = 0 then (if mG (mTick b) < 0 then bu (mTick b) 9 (b 9 + 1) else bu (mTick b) (10 + mG (mTick b)) (b (10 + mG (mTick b)) + 1)) else mTick b
theorem mGov_r {b : Int → Int} {n : Nat} : ∀ p : Nat, -1 ≤ (mGov b n p).1 ∧ (mGov b n p).1 < p
  | 0 => by unfold mGov; omega
  | p + 1 => by
    have := mGov_r (b := b) (n := n) p
    rw [mGov_s]
    split
    · omega
    · show -1 ≤ (if _ then _ else _) ∧ (if _ then _ else _) < _
      split <;> omega
theorem mG_r {b : Int → Int} (h : 0 ≤ b 0) : -1 ≤ mG b ∧ mG b < b 0 := by
  have := mGov_r (b := b) (n := (b 1).toNat) (b 0).toNat
  unfold mG; omega
theorem mTick_1 {b : Int → Int} {j : Int} (h : j < 24 ∨ 64 ≤ j) (h8 : j ≠ 8) (hb : b 1 ≤ 10) : mTick b j = b j := by
  unfold mTick; rw [bu_n h8]; exact mWalkN_1 h (by omega)
theorem mTick_8 {b : Int → Int} : mTick b 8 = b 8 + 1 := bu_e rfl
/-- the clock and the rows of bells -/
theorem WB.bell {b : Int → Int} (h : WB b) {j v w : Int} (h1 : 9 ≤ j) (h2 : j ≤ 13) (hv : b 8 ≤ v) (hw : 0 ≤ w ∧ w ≤ v) : WB (bu (bu b 8 v) j w) := by
  obtain ⟨s0, s1, s2, s3, s4, s5, s6, s7, s8, s9, sM, sK, sR⟩ := h
  refine ⟨?_, ?_, ?_, ?_, ?_, ?_, ?_, ?_, ?_, fun i j1 j2 => ?_, fun m' j1 j2 => ?_, fun k j1 j2 => ?_, fun r j1 j2 => ?_⟩
  · simp (disch := omega) only [bu_n]; exact s0
  · simp (disch := omega) only [bu_n]; exact s1
  · simp (disch := omega) only [bu_n]; exact s2
  · simp (disch := omega) only [bu_n]; exact s3
  · simp (disch := omega) only [bu_n]; exact s4
  · simp (disch := omega) only [bu_n]; exact s5
  · simp (disch := omega) only [bu_n]; exact s6
  · simp (disch := omega) only [bu_n]; exact s7
  · simp (disch := omega) only [bu_n, bu_e]; omega
  · have := s9 i j1 j2
    by_cases e : i = j
    · simp (disch := omega) only [bu_n, bu_e]; omega
    · simp (disch := omega) only [bu_n, bu_e]; omega
  · simp (disch := omega) only [bu_n] at j2
    have q := sM m' j1 j2
    unfold WM at q ⊢
    simp (disch := omega) only [bu_n]; exact q
  · simp (disch := omega) only [bu_n] at j2 ⊢; exact sK k j1 j2
  · simp (disch := omega) only [bu_n] at j2 ⊢; exact sR r j1 j2
theorem bu_id {b : Int → Int} {j : Int} : bu b j (b j) = b := by
  funext x; unfold bu; split <;> first | rfl | (rename_i h; rw [h])
theorem bu_cm {b : Int → Int} {j k v w : Int} (h : j ≠ k) : bu (bu b j v) k w = bu (bu b k w) j v := by
  funext x; unfold bu
  by_cases e : x = k
  · by_cases e2 : x = j
    · omega
    · rw [if_pos e, if_neg e2, if_pos e]
  · by_cases e2 : x = j
    · rw [if_neg e, if_pos e2, if_pos e2]
    · rw [if_neg e, if_neg e2, if_neg e2, if_neg e]
theorem mTick_w {b : Int → Int} (h : WB b) : WB (mTick b) := by
  have h1 := h.2.1
  have hw := mWalkN_w h (k := (b 1).toNat) (by omega)
  have h9 := hw.2.2.2.2.2.2.2.2.2.1 9 (by omega) (by omega)
  have e : mWalkN b (b 1).toNat 8 = b 8 := mWalkN_1 (by omega) (by omega)
  have := hw.bell (j := 9) (v := b 8 + 1) (w := mWalkN b (b 1).toNat 9) (by omega) (by omega) (by omega) (by omega)
  rw [bu_cm (by omega), bu_id] at this
  exact this
theorem mMin_w {b : Int → Int} (h : WB b) : WB (mMin b) := by
  have h1 := h.2.1
  have hw := mTick_w h
  have hg := mG_r (b := mTick b) hw.1.1
  have h0 := hw.1
  have h9 := h.2.2.2.2.2.2.2.2.2.1
  have e8 : mTick b 8 = b 8 + 1 := mTick_8
  unfold mMin
  split
  · split
    · have := hw.bell (j := 9) (v := b 8 + 1) (w := b 9 + 1) (by omega) (by omega) (by omega) (by have := h9 9; omega)
      rw [show bu (mTick b) 8 (b 8 + 1) = mTick b by rw [← e8, bu_id]] at this
      exact this
    · have := hw.bell (j := 10 + mG (mTick b)) (v := b 8 + 1) (w := b (10 + mG (mTick b)) + 1) (by omega) (by omega) (by omega) (by have := h9 (10 + mG (mTick b)) (by omega) (by omega); omega)
      rw [show bu (mTick b) 8 (b 8 + 1) = mTick b by rw [← e8, bu_id]] at this
      exact this
  · exact hw
