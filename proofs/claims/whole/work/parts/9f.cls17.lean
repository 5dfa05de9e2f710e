/-! ===== the class: who is sent AWAY (text laid by gencls17.py) ===== -/
/-- the same but for the yards of those who can not walk -/
def Ew (b b' : Int → Int) : Prop := (∀ j, j < 8 ∨ (14 ≤ j ∧ j < 24) ∨ 64 ≤ j → b j = b' j) ∧ ∀ m, 0 ≤ m → m < b 1 → b (64 + m) < 0 ∧ b (74 + m) = 0 → b (24 + m) = b' (24 + m)
theorem mCnt_ew {b b' : Int → Int} (e : Ew b b') (B : WB b) {m : Int} (h1 : 0 ≤ m) (h2 : m < b 1) : mCnt b m = mCnt b' m := by
  have hb := B.2.1
  have w := B.wm h1 h2
  unfold WM at w
  have e1 := e.1
  have o : mOwn b m = mOwn b' m := by
    unfold mOwn
    rw [← e1 (64 + m) (by omega), ← e1 (74 + m) (by omega), ← e1 4 (by omega), ← e1 5 (by omega), ← e1 6 (by omega)]
    by_cases u : b (64 + m) < 0
    · by_cases v : b (74 + m) = 0
      · rw [← e.2 m h1 h2 ⟨u, v⟩]
      · have v1 : b (74 + m) = 1 := by omega
        simp only [if_pos v1]
    · simp only [if_pos u]
  unfold mCnt
  rw [o, ← e1 (84 + m) (by omega), ← e1 (94 + m) (by omega)]
  by_cases t : 0 ≤ b (94 + m)
  · rw [← e1 (64 + b (94 + m)) (by omega), ← e1 (74 + b (94 + m)) (by omega)]
    by_cases u : b (64 + b (94 + m)) < 0 ∧ b (74 + b (94 + m)) = 0
    · rw [← e.2 (b (94 + m)) t (by omega) u]
    · rw [if_neg (show ¬ (0 ≤ b (94 + m) ∧ (b (64 + b (94 + m)) < 0 ∧ b (74 + b (94 + m)) = 0) ∧ b (24 + b (94 + m)) = 0) from fun x => u x.2.1), if_neg (show ¬ (0 ≤ b (94 + m) ∧ (b (64 + b (94 + m)) < 0 ∧ b (74 + b (94 + m)) = 0) ∧ b' (24 + b (94 + m)) = 0) from fun x => u x.2.1)]
  · rw [if_neg (show ¬ (0 ≤ b (94 + m) ∧ (b (64 + b (94 + m)) < 0 ∧ b (74 + b (94 + m)) = 0) ∧ b (24 + b (94 + m)) = 0) from fun x => t x.1), if_neg (show ¬ (0 ≤ b (94 + m) ∧ (b' (64 + b (94 + m)) < 0 ∧ b' (74 + b (94 + m)) = 0) ∧ b' (24 + b (94 + m)) = 0) from fun x => t x.1)]
theorem mPow_ew {b b' : Int → Int} (e : Ew b b') (B : WB b) {s : Int} : ∀ n : Nat, (n : Int) ≤ b 1 → mPow b s n = mPow b' s n
  | 0, _ => rfl
  | n + 1, hn => by
    have hb := B.2.1
    rw [mPow_s, mPow_s, mPow_ew e B n (by omega), mCnt_ew e B (by omega) (by omega), e.1 (14 + (n : Int)) (by omega)]
theorem mMar_ew {b b' : Int → Int} (e : Ew b b') (B : WB b) {k : Int} (hk : 0 ≤ k) : mMar b k = mMar b' k := by
  have hb := B.2.1
  unfold mMar; rw [mPow_ew e B _ (by omega), mPow_ew e B _ (by omega), e.1 (104 + k) (by omega), e.1 (109 + k) (by omega), e.1 1 (by omega)]
def sRow (b at' : Int → Int) (s : Int) : Int → Int := fun m => if hasb s m = 1 ∧ mUpI b m = 1 then 999 else at' m
theorem and3 {f : Int → Int} {n : Nat} (hn : n ≤ 20) {s k : Int} (h1 : 0 ≤ k) (h2 : k < n) : z_and (z_and s (mSet f n)) (z_shl 1 k) = 0 ↔ ¬ (hasb s k = 1 ∧ f k = 1) := by
  rw [and_b h1 (by omega), hb_i h1 (by omega), bz_and, mSet_bz n (by omega) k.toNat (by omega), hb_i h1 (by omega), show ((k.toNat : Nat) : Int) = k by omega]
  have q : k.toNat < n := by omega
  cases h : bz s k.toNat <;> by_cases c : f k = 1 <;> simp [c, q]
theorem snd_y {b : Int → Int} {s : Int} : ∀ n : Nat, ∀ m : Int, 0 ≤ m → mSnd b s n (24 + m) = if m < n ∧ hasb s m = 1 then 999 else b (24 + m)
  | 0, m, h => by rw [if_neg (by omega)]; rfl
  | n + 1, m, h => by
    rw [mSnd_s]
    have ih := snd_y (b := b) (s := s) n m h
    by_cases c : hasb s n = 1
    · rw [if_pos c]
      by_cases e : m = n
      · subst e; rw [bu_e rfl, if_pos ⟨by omega, c⟩]
      · rw [bu_n (by omega), ih]
        by_cases q : m < n ∧ hasb s m = 1
        · rw [if_pos q, if_pos ⟨by omega, q.2⟩]
        · rw [if_neg q, if_neg (fun x => q ⟨by omega, x.2⟩)]
    · rw [if_neg c, ih]
      by_cases q : m < n ∧ hasb s m = 1
      · rw [if_pos q, if_pos ⟨by omega, q.2⟩]
      · rw [if_neg q, if_neg (fun x => q ⟨by
          by_cases e : m = n
          · subst e; exact absurd x.2 c
          · omega, x.2⟩)]
theorem ew_snd {b at' f : Int → Int} (B : WB b) (hL : Ld f at' b) (hS : scb at' f b = b) {s : Int} : Ew (mSnd b s (b 1).toNat) (scb (r10 (b 1) (sRow b at' s) at') f b) := by
  have hb := B.2.1
  have c1 : ∀ j, (j < 24 ∨ 34 ≤ j) → mSnd b s (b 1).toNat j = b j := fun j hj => mSnd_1 hj (by omega)
  have c2 : ∀ j, (j < 24 ∨ 34 ≤ j) → scb (r10 (b 1) (sRow b at' s) at') f b j = b j := fun j hj => by
    have := congrFun hS j
    unfold scb at *
    rw [if_neg (by omega)] at *
    exact this
  refine ⟨fun j hj => by rw [c1 j (by omega), c2 j (by omega)], fun m h1 h2 u => ?_⟩
  rw [c1 1 (by omega)] at h2
  rw [c1 (64 + m) (by omega), c1 (74 + m) (by omega)] at u
  have y0 := congrFun hS (24 + m)
  rw [scb_y h1 h2] at y0
  rw [snd_y _ m h1, scb_y h1 h2, r10_in ⟨h1, h2⟩]
  unfold sRow mUpI
  rw [if_pos u]
  by_cases c : hasb s m = 1
  · rw [if_pos (show m < (((b 1).toNat : Nat) : Int) ∧ hasb s m = 1 from ⟨by omega, c⟩), if_pos ⟨c, rfl⟩]
  · rw [if_neg (fun x => c x.2), if_neg (fun x => c x.1), y0]
theorem bu_k2 {b : Int → Int} {j v : Int} (h : b j = v) : bu b j v = b := by subst h; exact bu_id
theorem u_sendAway_l {d L : Nat} {σ : Sg} {f b : Int → Int} {s : Int} (hA : Asm σ 20 b) (B : WB b) (hL : Ld f (σ 162) b) : ∀ m : Nat, m ≤ (b 1).toNat → Go d k_X4_sendAway 2 [vr 161, vi s, vi m] [] (SH L, sr (sr σ 161 (bu f 0 20)) 162 (r10 (m : Int) (sRow b (σ 162) s) (σ 162))) (fun v h' => v = none ∧ h'.1 = SH L ∧ h'.2 = sr (sr σ 161 (bu f 0 20)) 162 (r10 (b 1 : Int) (sRow b (σ 162) s) (σ 162))) := by
  refine up_ind _ (fun m hm0 ih => ?_)
  exact Go.sym (cut := [2]) 22 ⟨rfl, ⟨rfl, ⟨fun c1 => ⟨rfl, rfl, (by have k1 : σ 20 4 = b 1 := hA.1.2.1; have hB1 := B.2.1; have e : ((m : Nat) : Int) = b 1 := (by (try clear ih) <;> (try clear hV) <;> (try clear K) <;> (try clear KS) <;> (try simp only [icond, nc, bi0, bi1, bin0, bin1, ne_eq, Decidable.not_not] at *) <;> (try simp (disch := omega) only [icond, q32_in, srM, srN, jc_lt, jc_gt, jc_le, jc_ge, jc_eq, bi0, bi1, bin0, bin1, List.headD_cons, ne_eq, Decidable.not_not, fin01, nc, not_true_eq_false, not_false_eq_true, false_and, and_false, true_and, and_true, false_or, or_false, sr_sr, sr_e, sr_n, bu_n, bu_e, sr_id, up_sr, sca0, sca1, sca2, scb0, scb1, scb2, shc0, shc1, mem24, mem52, shn] at *) <;> (try simp (disch := omega) only [q32_in, bu_n, bu_e] at *) <;> omega); rw [e])⟩, fun c1 => ⟨rfl, ⟨fun c2 => (Go.toh (lc rfl (lc rfl (lc (ve (by have k1 : σ 20 4 = b 1 := hA.1.2.1; have hB1 := B.2.1; have hm1 : (m : Int) < b 1 := (by have k1 : σ 20 4 = b 1 := hA.1.2.1; have hB1 := B.2.1; (try clear ih) <;> (try clear hV) <;> (try clear K) <;> (try clear KS) <;> (try simp only [icond, nc, bi0, bi1, bin0, bin1, ne_eq, Decidable.not_not] at *) <;> (try simp (disch := omega) only [icond, q32_in, srM, srN, jc_lt, jc_gt, jc_le, jc_ge, jc_eq, bi0, bi1, bin0, bin1, List.headD_cons, ne_eq, Decidable.not_not, fin01, nc, not_true_eq_false, not_false_eq_true, false_and, and_false, true_and, and_true, false_or, or_false, sr_sr, sr_e, sr_n, bu_n, bu_e, sr_id, up_sr, sca0, sca1, sca2, scb0, scb1, scb2, shc0, shc1, mem24, mem52, shn] at *) <;> (try simp (disch := omega) only [q32_in, bu_n, bu_e] at *) <;> omega); have ha3 := and3 (f := mUpI b) (n := (b 1).toNat) (by omega) (s := s) (k := (m : Int)) (by omega) (by omega); have h4 : f 4 = mSet (mUpI b) (b 1).toNat := hL.1; rw [← h4] at ha3; simp (disch := omega) only [q32_in]; omega)) rfl))) rfl (he (by have k1 : σ 20 4 = b 1 := hA.1.2.1; have hB1 := B.2.1; have hm1 : (m : Int) < b 1 := (by have k1 : σ 20 4 = b 1 := hA.1.2.1; have hB1 := B.2.1; (try clear ih) <;> (try clear hV) <;> (try clear K) <;> (try clear KS) <;> (try simp only [icond, nc, bi0, bi1, bin0, bin1, ne_eq, Decidable.not_not] at *) <;> (try simp (disch := omega) only [icond, q32_in, srM, srN, jc_lt, jc_gt, jc_le, jc_ge, jc_eq, bi0, bi1, bin0, bin1, List.headD_cons, ne_eq, Decidable.not_not, fin01, nc, not_true_eq_false, not_false_eq_true, false_and, and_false, true_and, and_true, false_or, or_false, sr_sr, sr_e, sr_n, bu_n, bu_e, sr_id, up_sr, sca0, sca1, sca2, scb0, scb1, scb2, shc0, shc1, mem24, mem52, shn] at *) <;> (try simp (disch := omega) only [q32_in, bu_n, bu_e] at *) <;> omega); have ha3 := and3 (f := mUpI b) (n := (b 1).toNat) (by omega) (s := s) (k := (m : Int)) (by omega) (by omega); have h4 : f 4 = mSet (mUpI b) (b 1).toNat := hL.1; rw [← h4] at ha3; have hsr : sRow b (σ 162) s m = if hasb s m = 1 ∧ mUpI b m = 1 then 999 else σ 162 m := rfl; by_cases cc : hasb s m = 1 ∧ mUpI b m = 1; (rw [← r10_s (f := sRow b (σ 162) s) (m := m) (v := 999) (by rw [hsr, if_pos cc])]; (try clear ih) <;> (try clear hV) <;> (try clear K) <;> (try clear KS) <;> (try simp only [icond, nc, bi0, bi1, bin0, bin1, ne_eq, Decidable.not_not] at *) <;> (try simp (disch := omega) only [icond, q32_in, srM, srN, jc_lt, jc_gt, jc_le, jc_ge, jc_eq, bi0, bi1, bin0, bin1, List.headD_cons, ne_eq, Decidable.not_not, fin01, nc, not_true_eq_false, not_false_eq_true, false_and, and_false, true_and, and_true, false_or, or_false, sr_sr, sr_e, sr_n, bu_n, bu_e, sr_id, up_sr, sca0, sca1, sca2, scb0, scb1, scb2, shc0, shc1, mem24, mem52, shn] at *) <;> (try simp (disch := omega) only [q32_in, bu_n, bu_e] at *) <;> first | done | rfl | (exfalso; omega)); (rw [← r10_s (f := sRow b (σ 162) s) (m := m) (v := σ 162 m) (by rw [hsr, if_neg cc])]; rw [bu_k2 (b := r10 (m : Int) (sRow b (σ 162) s) (σ 162)) (j := (m : Int)) (v := σ 162 m) (by rw [r10_out (by omega)])] <;> (try clear ih) <;> (try clear hV) <;> (try clear K) <;> (try clear KS) <;> (try simp only [icond, nc, bi0, bi1, bin0, bin1, ne_eq, Decidable.not_not] at *) <;> (try simp (disch := omega) only [icond, q32_in, srM, srN, jc_lt, jc_gt, jc_le, jc_ge, jc_eq, bi0, bi1, bin0, bin1, List.headD_cons, ne_eq, Decidable.not_not, fin01, nc, not_true_eq_false, not_false_eq_true, false_and, and_false, true_and, and_true, false_or, or_false, sr_sr, sr_e, sr_n, bu_n, bu_e, sr_id, up_sr, sca0, sca1, sca2, scb0, scb1, scb2, shc0, shc1, mem24, mem52, shn] at *) <;> (try simp (disch := omega) only [q32_in, bu_n, bu_e] at *) <;> first | done | rfl | (exfalso; omega)))) (ih (m + 1) (by omega) (by have k1 : σ 20 4 = b 1 := hA.1.2.1; have hB1 := B.2.1; have hm1 : (m : Int) < b 1 := (by have k1 : σ 20 4 = b 1 := hA.1.2.1; have hB1 := B.2.1; (try clear ih) <;> (try clear hV) <;> (try clear K) <;> (try clear KS) <;> (try simp only [icond, nc, bi0, bi1, bin0, bin1, ne_eq, Decidable.not_not] at *) <;> (try simp (disch := omega) only [icond, q32_in, srM, srN, jc_lt, jc_gt, jc_le, jc_ge, jc_eq, bi0, bi1, bin0, bin1, List.headD_cons, ne_eq, Decidable.not_not, fin01, nc, not_true_eq_false, not_false_eq_true, false_and, and_false, true_and, and_true, false_or, or_false, sr_sr, sr_e, sr_n, bu_n, bu_e, sr_id, up_sr, sca0, sca1, sca2, scb0, scb1, scb2, shc0, shc1, mem24, mem52, shn] at *) <;> (try simp (disch := omega) only [q32_in, bu_n, bu_e] at *) <;> omega); have ha3 := and3 (f := mUpI b) (n := (b 1).toNat) (by omega) (s := s) (k := (m : Int)) (by omega) (by omega); have h4 : f 4 = mSet (mUpI b) (b 1).toNat := hL.1; rw [← h4] at ha3; omega))), fun c2 => ⟨rfl, ⟨⟨rfl, (ib rfl), (by have k1 : σ 20 4 = b 1 := hA.1.2.1; have hB1 := B.2.1; first | omega | ((try clear ih) <;> (try clear hV) <;> (try clear K) <;> (try clear KS) <;> (try simp only [icond, nc, bi0, bi1, bin0, bin1, ne_eq, Decidable.not_not] at *) <;> (try simp (disch := omega) only [icond, q32_in, srM, srN, jc_lt, jc_gt, jc_le, jc_ge, jc_eq, bi0, bi1, bin0, bin1, List.headD_cons, ne_eq, Decidable.not_not, fin01, nc, not_true_eq_false, not_false_eq_true, false_and, and_false, true_and, and_true, false_or, or_false, sr_sr, sr_e, sr_n, bu_n, bu_e, sr_id, up_sr, sca0, sca1, sca2, scb0, scb1, scb2, shc0, shc1, mem24, mem52, shn] at *) <;> (try simp (disch := omega) only [q32_in, bu_n, bu_e] at *) <;> omega)), (by have k1 : σ 20 4 = b 1 := hA.1.2.1; have hB1 := B.2.1; first | omega | ((try clear ih) <;> (try clear hV) <;> (try clear K) <;> (try clear KS) <;> (try simp only [icond, nc, bi0, bi1, bin0, bin1, ne_eq, Decidable.not_not] at *) <;> (try simp (disch := omega) only [icond, q32_in, srM, srN, jc_lt, jc_gt, jc_le, jc_ge, jc_eq, bi0, bi1, bin0, bin1, List.headD_cons, ne_eq, Decidable.not_not, fin01, nc, not_true_eq_false, not_false_eq_true, false_and, and_false, true_and, and_true, false_or, or_false, sr_sr, sr_e, sr_n, bu_n, bu_e, sr_id, up_sr, sca0, sca1, sca2, scb0, scb1, scb2, shc0, shc1, mem24, mem52, shn] at *) <;> (try simp (disch := omega) only [q32_in, bu_n, bu_e] at *) <;> omega))⟩, (Go.toh (lc rfl (lc rfl (lc (ve (by have k1 : σ 20 4 = b 1 := hA.1.2.1; have hB1 := B.2.1; have hm1 : (m : Int) < b 1 := (by have k1 : σ 20 4 = b 1 := hA.1.2.1; have hB1 := B.2.1; (try clear ih) <;> (try clear hV) <;> (try clear K) <;> (try clear KS) <;> (try simp only [icond, nc, bi0, bi1, bin0, bin1, ne_eq, Decidable.not_not] at *) <;> (try simp (disch := omega) only [icond, q32_in, srM, srN, jc_lt, jc_gt, jc_le, jc_ge, jc_eq, bi0, bi1, bin0, bin1, List.headD_cons, ne_eq, Decidable.not_not, fin01, nc, not_true_eq_false, not_false_eq_true, false_and, and_false, true_and, and_true, false_or, or_false, sr_sr, sr_e, sr_n, bu_n, bu_e, sr_id, up_sr, sca0, sca1, sca2, scb0, scb1, scb2, shc0, shc1, mem24, mem52, shn] at *) <;> (try simp (disch := omega) only [q32_in, bu_n, bu_e] at *) <;> omega); have ha3 := and3 (f := mUpI b) (n := (b 1).toNat) (by omega) (s := s) (k := (m : Int)) (by omega) (by omega); have h4 : f 4 = mSet (mUpI b) (b 1).toNat := hL.1; rw [← h4] at ha3; simp (disch := omega) only [q32_in]; omega)) rfl))) rfl (he (by have k1 : σ 20 4 = b 1 := hA.1.2.1; have hB1 := B.2.1; have hm1 : (m : Int) < b 1 := (by have k1 : σ 20 4 = b 1 := hA.1.2.1; have hB1 := B.2.1; (try clear ih) <;> (try clear hV) <;> (try clear K) <;> (try clear KS) <;> (try simp only [icond, nc, bi0, bi1, bin0, bin1, ne_eq, Decidable.not_not] at *) <;> (try simp (disch := omega) only [icond, q32_in, srM, srN, jc_lt, jc_gt, jc_le, jc_ge, jc_eq, bi0, bi1, bin0, bin1, List.headD_cons, ne_eq, Decidable.not_not, fin01, nc, not_true_eq_false, not_false_eq_true, false_and, and_false, true_and, and_true, false_or, or_false, sr_sr, sr_e, sr_n, bu_n, bu_e, sr_id, up_sr, sca0, sca1, sca2, scb0, scb1, scb2, shc0, shc1, mem24, mem52, shn] at *) <;> (try simp (disch := omega) only [q32_in, bu_n, bu_e] at *) <;> omega); have ha3 := and3 (f := mUpI b) (n := (b 1).toNat) (by omega) (s := s) (k := (m : Int)) (by omega) (by omega); have h4 : f 4 = mSet (mUpI b) (b 1).toNat := hL.1; rw [← h4] at ha3; have hsr : sRow b (σ 162) s m = if hasb s m = 1 ∧ mUpI b m = 1 then 999 else σ 162 m := rfl; by_cases cc : hasb s m = 1 ∧ mUpI b m = 1; (rw [← r10_s (f := sRow b (σ 162) s) (m := m) (v := 999) (by rw [hsr, if_pos cc])]; (try clear ih) <;> (try clear hV) <;> (try clear K) <;> (try clear KS) <;> (try simp only [icond, nc, bi0, bi1, bin0, bin1, ne_eq, Decidable.not_not] at *) <;> (try simp (disch := omega) only [icond, q32_in, srM, srN, jc_lt, jc_gt, jc_le, jc_ge, jc_eq, bi0, bi1, bin0, bin1, List.headD_cons, ne_eq, Decidable.not_not, fin01, nc, not_true_eq_false, not_false_eq_true, false_and, and_false, true_and, and_true, false_or, or_false, sr_sr, sr_e, sr_n, bu_n, bu_e, sr_id, up_sr, sca0, sca1, sca2, scb0, scb1, scb2, shc0, shc1, mem24, mem52, shn] at *) <;> (try simp (disch := omega) only [q32_in, bu_n, bu_e] at *) <;> first | done | rfl | (exfalso; omega)); (rw [← r10_s (f := sRow b (σ 162) s) (m := m) (v := σ 162 m) (by rw [hsr, if_neg cc])]; rw [bu_k2 (b := r10 (m : Int) (sRow b (σ 162) s) (σ 162)) (j := (m : Int)) (v := σ 162 m) (by rw [r10_out (by omega)])] <;> (try clear ih) <;> (try clear hV) <;> (try clear K) <;> (try clear KS) <;> (try simp only [icond, nc, bi0, bi1, bin0, bin1, ne_eq, Decidable.not_not] at *) <;> (try simp (disch := omega) only [icond, q32_in, srM, srN, jc_lt, jc_gt, jc_le, jc_ge, jc_eq, bi0, bi1, bin0, bin1, List.headD_cons, ne_eq, Decidable.not_not, fin01, nc, not_true_eq_false, not_false_eq_true, false_and, and_false, true_and, and_true, false_or, or_false, sr_sr, sr_e, sr_n, bu_n, bu_e, sr_id, up_sr, sca0, sca1, sca2, scb0, scb1, scb2, shc0, shc1, mem24, mem52, shn] at *) <;> (try simp (disch := omega) only [q32_in, bu_n, bu_e] at *) <;> first | done | rfl | (exfalso; omega)))) (ih (m + 1) (by omega) (by have k1 : σ 20 4 = b 1 := hA.1.2.1; have hB1 := B.2.1; have hm1 : (m : Int) < b 1 := (by have k1 : σ 20 4 = b 1 := hA.1.2.1; have hB1 := B.2.1; (try clear ih) <;> (try clear hV) <;> (try clear K) <;> (try clear KS) <;> (try simp only [icond, nc, bi0, bi1, bin0, bin1, ne_eq, Decidable.not_not] at *) <;> (try simp (disch := omega) only [icond, q32_in, srM, srN, jc_lt, jc_gt, jc_le, jc_ge, jc_eq, bi0, bi1, bin0, bin1, List.headD_cons, ne_eq, Decidable.not_not, fin01, nc, not_true_eq_false, not_false_eq_true, false_and, and_false, true_and, and_true, false_or, or_false, sr_sr, sr_e, sr_n, bu_n, bu_e, sr_id, up_sr, sca0, sca1, sca2, scb0, scb1, scb2, shc0, shc1, mem24, mem52, shn] at *) <;> (try simp (disch := omega) only [q32_in, bu_n, bu_e] at *) <;> omega); have ha3 := and3 (f := mUpI b) (n := (b 1).toNat) (by omega) (s := s) (k := (m : Int)) (by omega) (by omega); have h4 : f 4 = mSet (mUpI b) (b 1).toNat := hL.1; rw [← h4] at ha3; omega)))⟩⟩⟩⟩⟩⟩⟩
theorem sr_162 {σ : Sg} {r : Int → Int} : sr σ 161 r = sr (sr σ 161 r) 162 (σ 162) := by
  funext a; unfold sr; by_cases e : a = 162
  · rw [if_pos e, if_neg (by omega), e]
  · rw [if_neg e]
theorem u_sendAway {d L : Nat} {σ : Sg} {f b : Int → Int} {s : Int} (hA : Asm σ 20 b) (B : WB b) (hL : Ld f (σ 162) b) : cV d m_X4_sendAway [vr 161, vi s] (SH L) (sr σ 161 (bu f 0 20)) (fun σ' => σ' = sr (sr σ 161 (bu f 0 20)) 162 (r10 (b 1 : Int) (sRow b (σ 162) s) (σ 162))) :=
  cV.go rfl rfl (Go.sym (cut := [2]) 3 (Go.toh rfl rfl (he (by rw [r10_z]; exact (sr_162).symm)) (u_sendAway_l hA B hL 0 (Nat.zero_le _))))
theorem v_sendAway {d L : Nat} {σ : Sg} {b : Int → Int} {s : Int} (hA : Asm σ 20 b) (B : WB b) (h0 : σ 161 0 = 20) (hL : Ld (σ 161) (σ 162) b) : cV d m_X4_sendAway [vr 161, vi s] (SH L) σ (fun σ' => σ' = sr σ 162 (r10 (b 1) (sRow b (σ 162) s) (σ 162)) ∧ Ld (σ' 161) (σ' 162) b ∧ Asm σ' 20 b ∧ σ' 161 0 = 20) := by
  refine cV.he (sc_id h0) ((u_sendAway (L := L) (d := d) (σ := σ) (f := σ 161) (s := s) hA B hL).mono (fun σ' q => ?_))
  rw [← sc_id h0] at q
  have e1 : σ' 161 = σ 161 := by rw [q]; exact sr_n (by decide)
  have e2 : σ' 162 = r10 (b 1) (sRow b (σ 162) s) (σ 162) := by rw [q]; exact sr_e rfl
  refine ⟨q, ?_, hA.fr (fun a x y => by rw [q]; exact sr_n (by omega)) B.2.1, by rw [e1]; exact h0⟩
  rw [e1, e2]
  refine ⟨hL.1, hL.2.1, hL.2.2.1, hL.2.2.2.1, fun m x y => ?_⟩
  rw [r10_in ⟨x, y⟩]; unfold sRow; split
  · decide
  · exact hL.2.2.2.2 m x y
