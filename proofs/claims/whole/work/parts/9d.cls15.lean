/-! ===== what will be: the rest (text laid by gencls15.py) ===== -/
theorem mWalk_o {x : Int → Int} {k m j : Int} (hk : 0 ≤ k ∧ k < 10) (hm : 0 ≤ m ∧ m < 10) (h : k ≠ m) (hj : j = 24 + m ∨ j = 34 + m ∨ j = 54 + m) : mWalk x k j = x j := by
  unfold mWalk; repeat' split
  all_goals ((try simp (disch := omega) only [bu_n]))
def Mc (x c : Int → Int) (m : Int) : Prop := x (24 + m) = c (24 + m) ∧ x (34 + m) = c (34 + m) ∧ x (54 + m) = c (54 + m) ∧ x (64 + m) = c (64 + m) ∧ x (74 + m) = c (74 + m)
theorem Mc.w {x c : Int → Int} {m : Int} (h : Mc x c m) (hm : 0 ≤ m ∧ m < 10) : Mc (mWalk x m) (mWalk c m) m := by
  obtain ⟨h1, h2, h3, h4, h5⟩ := h
  unfold Mc mWalk
  rw [h1, h2, h3, h4, h5]
  by_cases u : c (64 + m) < 0 ∧ c (74 + m) = 0
  · simp only [if_pos u]
    by_cases w2 : c (54 + m) = 2
    · simp only [if_pos w2]; simp (disch := omega) only [bu_n, bu_e]; exact ⟨trivial, h2, h3, h4, h5⟩
    · simp only [if_neg w2]
      by_cases w1 : c (54 + m) = 1
      · simp only [if_pos w1]
        by_cases z : max 0 (c (24 + m) - c (34 + m)) = 0
        · simp only [if_pos z]; simp (disch := omega) only [bu_n, bu_e]; exact ⟨trivial, h2, trivial, h4, h5⟩
        · simp only [if_neg z]; simp (disch := omega) only [bu_n, bu_e]; exact ⟨trivial, h2, h3, h4, h5⟩
      · simp only [if_neg w1]; exact ⟨h1, h2, h3, h4, h5⟩
  · simp only [if_neg u]; exact ⟨h1, h2, h3, h4, h5⟩
theorem Mc.tr {x y z : Int → Int} {m : Int} (h : Mc x y m) (h2 : Mc y z m) : Mc x z m := ⟨h.1.trans h2.1, h.2.1.trans h2.2.1, h.2.2.1.trans h2.2.2.1, h.2.2.2.1.trans h2.2.2.2.1, h.2.2.2.2.trans h2.2.2.2.2⟩
theorem Mc.o {x : Int → Int} {k m : Int} (hk : 0 ≤ k ∧ k < 10) (hm : 0 ≤ m ∧ m < 10) (h : k ≠ m) : Mc (mWalk x k) x m := ⟨mWalk_o hk hm h (Or.inl rfl), mWalk_o hk hm h (Or.inr (Or.inl rfl)), mWalk_o hk hm h (Or.inr (Or.inr rfl)), mWalk_1 (by omega) hk.1 hk.2, mWalk_1 (by omega) hk.1 hk.2⟩
theorem Mc.rfl {x : Int → Int} {m : Int} : Mc x x m := ⟨Eq.refl _, Eq.refl _, Eq.refl _, Eq.refl _, Eq.refl _⟩
theorem Mc.n0 {c : Int → Int} {m : Nat} (hm : m < 10) : ∀ n : Nat, n ≤ m → Mc (mWalkN c n) c m
  | 0, _ => Mc.rfl
  | n + 1, h => by rw [mWalkN_s]; exact (Mc.o (by omega) (by omega) (by omega)).tr (Mc.n0 hm n (by omega))
theorem Mc.n1 {c : Int → Int} {m : Nat} (hm : m < 10) : ∀ n : Nat, n ≤ 10 → m < n → Mc (mWalkN c n) (mWalk c m) m
  | 0, _, h => by omega
  | n + 1, h10, h => by
    rw [mWalkN_s]
    by_cases e : n = m
    · subst e; exact (Mc.n0 hm n (Nat.le_refl _)).w (by omega)
    · exact (Mc.o (by omega) (by omega) (by omega)).tr (Mc.n1 hm n (by omega) (by omega))
theorem mMin_t {b : Int → Int} (B : WB b) {j : Int} (hj : j < 8 ∨ 14 ≤ j) : mMin b j = mTick b j := by
  have h0 := B.1
  unfold mMin
  have hg := mG_r (b := mTick b) (by rw [mTick_1 (by omega) (by omega) B.2.1.2]; exact h0.1)
  have hg2 : mTick b 0 = b 0 := mTick_1 (by omega) (by omega) B.2.1.2
  repeat' split
  · rw [bu_n (by omega)]
  · rw [bu_n (by omega)]
  · rfl
theorem Mc.min {b : Int → Int} (B : WB b) {m : Nat} (hm : (m : Int) < b 1) : Mc (mMin b) (mWalk b m) m := by
  have hb := B.2.1
  have q := Mc.n1 (c := b) (m := m) (by omega) (b 1).toNat (by omega) (by omega)
  have e : ∀ j, 14 ≤ j → mMin b j = mWalkN b (b 1).toNat j := fun j hj => by
    rw [mMin_t B (Or.inr hj)]; unfold mTick; rw [bu_n (by omega)]
  exact ⟨(e _ (by omega)).trans q.1, (e _ (by omega)).trans q.2.1, (e _ (by omega)).trans q.2.2.1, (e _ (by omega)).trans q.2.2.2.1, (e _ (by omega)).trans q.2.2.2.2⟩
theorem Mc.minN {b : Int → Int} (B : WB b) {m : Nat} (hm : (m : Int) < b 1) : ∀ t : Nat, Mc (mMinN b t) (mWlk b m t) m
  | 0 => Mc.rfl
  | t + 1 => by
    have hb := B.2.1
    rw [mMinN_s, mWlk_s]
    have B' := mMinN_w B t
    have h1 : mMinN b t 1 = b 1 := mMinN_1 B (by omega) t
    exact (Mc.min B' (by rw [h1]; exact hm)).tr ((Mc.minN B hm t).w (by omega))
theorem min_y {b : Int → Int} (B : WB b) {m : Int} (h1 : 0 ≤ m) (h2 : m < b 1) (t : Nat) : mMinN b t (24 + m) = yRow b t m := by
  have := Mc.minN B (m := m.toNat) (by omega) t
  rw [show ((m.toNat : Nat) : Int) = m by omega] at this
  rw [this.1]; exact (wlk_y B h1 h2 t).1
theorem mWalk_hi {x : Int → Int} {k j : Int} (hk : 0 ≤ k) (hj : 24 ≤ j ∧ j < 54) (h : ¬ j = 24 + k) (hk2 : k < 10) : mWalk x k j = x j := by
  unfold mWalk; repeat' split
  all_goals ((try simp (disch := omega) only [bu_n]))
theorem walkN_hi {x : Int → Int} {j : Int} (hj : 24 ≤ j ∧ j < 54) : ∀ n : Nat, n ≤ 10 → 24 + (n : Int) ≤ j → mWalkN x n j = x j
  | 0, _, _ => rfl
  | n + 1, hn, h => by rw [mWalkN_s, mWalk_hi (by omega) hj (by omega) (by omega), walkN_hi hj n (by omega) (by omega)]
theorem minN_hi {b : Int → Int} (B : WB b) {j : Int} (hj : 24 ≤ j ∧ j < 54) (h : 24 + b 1 ≤ j) : ∀ t : Nat, mMinN b t j = b j
  | 0 => rfl
  | t + 1 => by
    have hb := B.2.1
    have B' := mMinN_w B t
    have h1 : mMinN b t 1 = b 1 := mMinN_1 B (by omega) t
    rw [mMinN_s, mMin_t B' (by omega)]
    unfold mTick
    rw [bu_n (by omega), h1, walkN_hi hj _ (by omega) (by omega), minN_hi B hj h t]
theorem ev_T {b : Int → Int} (B : WB b) (t : Nat) : Ev (mMinN b t) (bT b t) := fun j hj => by
  have hb := B.2.1
  unfold bT
  by_cases c : 24 ≤ j ∧ j < 24 + b 1
  · rw [if_pos c]
    have := min_y B (m := j - 24) (by omega) (by omega) t
    rw [show 24 + (j - 24) = j by omega] at this
    exact this
  · rw [if_neg c]
    by_cases d : 24 ≤ j ∧ j < 54
    · exact minN_hi B d (by omega) t
    · exact mMinN_1 B (by omega) t
