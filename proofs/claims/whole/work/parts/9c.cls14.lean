/-! ===== what will be: MINUTES one by one, and at once (text laid by gencls14.py) ===== -/
def Ev (b b' : Int → Int) : Prop := ∀ j, j < 8 ∨ (14 ≤ j ∧ j < 54) ∨ 64 ≤ j → b j = b' j
theorem mCnt_ev {b b' : Int → Int} (e : Ev b b') {m : Int} (h1 : 0 ≤ m) (h2 : m < 10) (ht : b (94 + m) < 10) : mCnt b m = mCnt b' m := by
  unfold mCnt mOwn
  have e4 := e (94 + m) (by omega)
  rw [e (84 + m) (by omega), e (64 + m) (by omega), e (74 + m) (by omega), e (24 + m) (by omega), e 4 (by omega), e 5 (by omega), e 6 (by omega)]
  by_cases c : 0 ≤ b (94 + m)
  · rw [e (64 + b (94 + m)) (by omega), e (74 + b (94 + m)) (by omega), e (24 + b (94 + m)) (by omega), e4]
  · rw [if_neg (show ¬ (0 ≤ b (94 + m) ∧ (b (64 + b (94 + m)) < 0 ∧ b (74 + b (94 + m)) = 0) ∧ b (24 + b (94 + m)) = 0) from fun x => c x.1), if_neg (show ¬ (0 ≤ b' (94 + m) ∧ (b' (64 + b' (94 + m)) < 0 ∧ b' (74 + b' (94 + m)) = 0) ∧ b' (24 + b' (94 + m)) = 0) from fun x => c (by omega))]
theorem mPow_ev {b b' : Int → Int} (e : Ev b b') (B : WB b) {s : Int} : ∀ n : Nat, (n : Int) ≤ b 1 → mPow b s n = mPow b' s n
  | 0, _ => rfl
  | n + 1, hn => by
    have hb := B.2.1
    have w := B.wm (m := (n : Int)) (by omega) (by omega)
    unfold WM at w
    rw [mPow_s, mPow_s, mPow_ev e B n (by omega), mCnt_ev e (by omega) (by omega) (by omega), e (14 + (n : Int)) (by omega)]
theorem mGov_ev {b b' : Int → Int} (e : Ev b b') (B : WB b) {n : Nat} (hn : (n : Int) ≤ b 1) : ∀ p : Nat, mGov b n p = mGov b' n p
  | 0 => rfl
  | p + 1 => by rw [mGov_s, mGov_s, mGov_ev e B hn p, mPow_ev e B n hn]
theorem mG_ev {b b' : Int → Int} (e : Ev b b') (B : WB b) : mG b = mG b' := by
  have hb := B.2.1
  unfold mG; rw [mGov_ev e B (by omega), e 1 (by omega), e 0 (by omega)]
theorem mMar_ev {b b' : Int → Int} (e : Ev b b') (B : WB b) {k : Int} (hk : 0 ≤ k) : mMar b k = mMar b' k := by
  have hb := B.2.1
  unfold mMar; rw [mPow_ev e B _ (by omega), mPow_ev e B _ (by omega), e (104 + k) (by omega), e (109 + k) (by omega), e 1 (by omega)]
theorem mIn_ev {b b' : Int → Int} (e : Ev b b') : ∀ n : Nat, n ≤ 10 → mSet (mTh b 0) n = mSet (mTh b' 0) n
  | 0, _ => rfl
  | n + 1, hn => by
    have q : mTh b 0 n = mTh b' 0 n := by unfold mTh; rw [e (64 + (n : Int)) (by omega), e (74 + (n : Int)) (by omega), e (24 + (n : Int)) (by omega)]
    rw [mSet_s, mSet_s, mIn_ev e n (by omega), q]
/-- a member's own cells after so many of its own MINUTES -/
theorem wlk_y {b : Int → Int} (B : WB b) {m : Int} (h1 : 0 ≤ m) (h2 : m < b 1) : ∀ t : Nat, mWlk b m t (24 + m) = yRow b t m ∧ mWlk b m t (54 + m) = if (b (64 + m) < 0 ∧ b (74 + m) = 0) ∧ b (54 + m) = 1 ∧ yRow b t m = 0 ∧ 0 < t then 0 else b (54 + m)
  | 0 => by
    refine ⟨(yRow_0 B h1 h2).symm, ?_⟩
    rw [if_neg (by omega)]; rfl
  | t + 1 => by
    have hb := B.2.1
    have w := B.wm h1 h2
    unfold WM at w
    obtain ⟨i1, i2⟩ := wlk_y B h1 h2 t
    have hy := yRow_r B (t := (t : Int)) h1 h2 (by omega)
    have f3 : mWlk b m t (34 + m) = b (34 + m) := by
      have : ∀ t : Nat, mWlk b m t (34 + m) = b (34 + m) := by
        intro t
        induction t with
        | zero => rfl
        | succ t ih =>
          rw [mWlk_s]; unfold mWalk
          repeat' split
          all_goals ((try simp (disch := omega) only [bu_n]); exact ih)
      exact this t
    have f6 : mWlk b m t (64 + m) = b (64 + m) := mWlk_1 (by omega) h1 (by omega) t
    have f7 : mWlk b m t (74 + m) = b (74 + m) := mWlk_1 (by omega) h1 (by omega) t
    have hs : (b (34 + m)) * ((t + 1 : Nat) : Int) = b (34 + m) * (t : Int) + b (34 + m) := by rw [Int.natCast_add, Int.mul_add]; simp
    have hp : 0 ≤ b (34 + m) * (t : Int) := Int.mul_nonneg (by omega) (by omega)
    have yt : yRow b t m = if ¬ b (64 + m) = -1 ∨ ¬ b (74 + m) = 0 ∨ b (54 + m) = 0 then b (24 + m) else if b (54 + m) = 1 then max 0 (b (24 + m) - b (34 + m) * t) else min 999 (b (24 + m) + b (34 + m) * t) := rfl
    have yt1 : yRow b ((t + 1 : Nat) : Int) m = if ¬ b (64 + m) = -1 ∨ ¬ b (74 + m) = 0 ∨ b (54 + m) = 0 then b (24 + m) else if b (54 + m) = 1 then max 0 (b (24 + m) - b (34 + m) * ((t + 1 : Nat) : Int)) else min 999 (b (24 + m) + b (34 + m) * ((t + 1 : Nat) : Int)) := rfl
    rw [hs] at yt1
    generalize b (34 + m) * (t : Int) = P at *
    rw [mWlk_s]
    unfold mWalk
    rw [f6, f7, f3, i1, i2]
    by_cases up' : b (64 + m) < 0 ∧ b (74 + m) = 0
    · rw [if_pos up']
      by_cases w0 : b (54 + m) = 0
      · have e1 : yRow b t m = b (24 + m) := by rw [yt, if_pos (by omega)]
        have e2 : yRow b ((t + 1 : Nat) : Int) m = b (24 + m) := by rw [yt1, if_pos (by omega)]
        rw [if_neg (show ¬ ((b (64 + m) < 0 ∧ b (74 + m) = 0) ∧ b (54 + m) = 1 ∧ yRow b t m = 0 ∧ 0 < t) by omega), if_neg (show ¬ b (54 + m) = 2 by omega), if_neg (show ¬ b (54 + m) = 1 by omega), if_neg (show ¬ ((b (64 + m) < 0 ∧ b (74 + m) = 0) ∧ b (54 + m) = 1 ∧ yRow b ((t + 1 : Nat) : Int) m = 0 ∧ 0 < t + 1) by omega), i1, i2, e1, e2]
        exact ⟨rfl, if_neg (by omega)⟩
      · by_cases w1 : b (54 + m) = 1
        · have e1 : yRow b t m = max 0 (b (24 + m) - P) := by rw [yt, if_neg (by omega), if_pos w1]
          have e2 : yRow b ((t + 1 : Nat) : Int) m = max 0 (b (24 + m) - (P + b (34 + m))) := by rw [yt1, if_neg (by omega), if_pos w1]
          by_cases z : yRow b t m = 0 ∧ 0 < t
          · rw [if_pos (show (b (64 + m) < 0 ∧ b (74 + m) = 0) ∧ b (54 + m) = 1 ∧ yRow b t m = 0 ∧ 0 < t from ⟨up', w1, z⟩), if_neg (show ¬ (0 : Int) = 2 by decide), if_neg (show ¬ (0 : Int) = 1 by decide), i1, i2, if_pos (show (b (64 + m) < 0 ∧ b (74 + m) = 0) ∧ b (54 + m) = 1 ∧ yRow b t m = 0 ∧ 0 < t from ⟨up', w1, z⟩), if_pos (show (b (64 + m) < 0 ∧ b (74 + m) = 0) ∧ b (54 + m) = 1 ∧ yRow b ((t + 1 : Nat) : Int) m = 0 ∧ 0 < t + 1 from ⟨up', w1, by omega, by omega⟩)]
            exact ⟨by omega, rfl⟩
          · rw [if_neg (show ¬ ((b (64 + m) < 0 ∧ b (74 + m) = 0) ∧ b (54 + m) = 1 ∧ yRow b t m = 0 ∧ 0 < t) from fun x => z x.2.2), if_neg (show ¬ b (54 + m) = 2 by omega), if_pos w1]
            by_cases y0 : max 0 (yRow b t m - b (34 + m)) = 0
            · rw [if_pos y0, if_pos (show (b (64 + m) < 0 ∧ b (74 + m) = 0) ∧ b (54 + m) = 1 ∧ yRow b ((t + 1 : Nat) : Int) m = 0 ∧ 0 < t + 1 from ⟨up', w1, by omega, by omega⟩)]
              simp (disch := omega) only [bu_n, bu_e]
              exact ⟨by omega, trivial⟩
            · rw [if_neg y0, if_neg (show ¬ ((b (64 + m) < 0 ∧ b (74 + m) = 0) ∧ b (54 + m) = 1 ∧ yRow b ((t + 1 : Nat) : Int) m = 0 ∧ 0 < t + 1) by omega)]
              simp (disch := omega) only [bu_n, bu_e]
              rw [i2]
              exact ⟨by omega, if_neg (fun x => z x.2.2)⟩
        · have w2 : b (54 + m) = 2 := by omega
          have e1 : yRow b t m = min 999 (b (24 + m) + P) := by rw [yt, if_neg (by omega), if_neg w1]
          have e2 : yRow b ((t + 1 : Nat) : Int) m = min 999 (b (24 + m) + (P + b (34 + m))) := by rw [yt1, if_neg (by omega), if_neg w1]
          rw [if_neg (show ¬ ((b (64 + m) < 0 ∧ b (74 + m) = 0) ∧ b (54 + m) = 1 ∧ yRow b t m = 0 ∧ 0 < t) from fun x => w1 x.2.1), if_pos w2, if_neg (show ¬ ((b (64 + m) < 0 ∧ b (74 + m) = 0) ∧ b (54 + m) = 1 ∧ yRow b ((t + 1 : Nat) : Int) m = 0 ∧ 0 < t + 1) from fun x => w1 x.2.1)]
          simp (disch := omega) only [bu_n, bu_e]
          rw [i2]
          exact ⟨by omega, if_neg (fun x => w1 x.2.1)⟩
    · have e1 : yRow b t m = b (24 + m) := by rw [yt, if_pos (by omega)]
      have e2 : yRow b ((t + 1 : Nat) : Int) m = b (24 + m) := by rw [yt1, if_pos (by omega)]
      rw [if_neg up', i1, i2, e1, e2, if_neg (fun x => up' x.1), if_neg (fun x => up' x.1)]
      exact ⟨rfl, rfl⟩
