/-! ===== the class: SESSIONS taken: a STEP (text laid by gencls76.py) ===== -/
theorem sw_k {t g : Int → Int} (h : TkC t g) : (0 ≤ swI g → t 3 = kk (swI g) ∧ swI g ≤ 9) ∧ (swI g < 0 → ¬ ((20 ≤ t 3 ∧ t 3 ≤ 27) ∨ t 3 = 31 ∨ t 3 = 33)) := by
  have k20 : t 3 = 20 ↔ (g 14 = 1 ∧ g 19 = 446125701) := h.key (k := 20) (by decide)
  have k21 : t 3 = 21 ↔ (g 14 = 1 ∧ g 19 = 114085) := h.key (k := 21) (by decide)
  have k22 : t 3 = 22 ↔ (g 14 = 1 ∧ g 19 = 239) := h.key (k := 22) (by decide)
  have k23 : t 3 = 23 ↔ (g 14 = 1 ∧ g 19 = 643129) := h.key (k := 23) (by decide)
  have k24 : t 3 = 24 ↔ (g 14 = 1 ∧ g 19 = 4389) := h.key (k := 24) (by decide)
  have k25 : t 3 = 25 ↔ (g 14 = 1 ∧ g 19 = 198028) := h.key (k := 25) (by decide)
  have k26 : t 3 = 26 ↔ (g 14 = 1 ∧ g 19 = 1497) := h.key (k := 26) (by decide)
  have k27 : t 3 = 27 ↔ (g 14 = 1 ∧ g 19 = 762030) := h.key (k := 27) (by decide)
  have k31 : t 3 = 31 ↔ (g 14 = 1 ∧ g 19 = 409072) := h.key (k := 31) (by decide)
  have k33 : t 3 = 33 ↔ (g 14 = 1 ∧ g 19 = 643568) := h.key (k := 33) (by decide)
  by_cases a20 : g 14 = 1 ∧ g 19 = 446125701
  · rw [show swI g = 0 by unfold swI; rw [if_pos a20]]; exact ⟨fun _ => ⟨(k20.mpr a20).trans (by decide), by decide⟩, fun w => absurd w (by decide)⟩
  by_cases a21 : g 14 = 1 ∧ g 19 = 114085
  · rw [show swI g = 1 by unfold swI; rw [if_neg a20, if_pos a21]]; exact ⟨fun _ => ⟨(k21.mpr a21).trans (by decide), by decide⟩, fun w => absurd w (by decide)⟩
  by_cases a22 : g 14 = 1 ∧ g 19 = 239
  · rw [show swI g = 2 by unfold swI; rw [if_neg a20, if_neg a21, if_pos a22]]; exact ⟨fun _ => ⟨(k22.mpr a22).trans (by decide), by decide⟩, fun w => absurd w (by decide)⟩
  by_cases a23 : g 14 = 1 ∧ g 19 = 643129
  · rw [show swI g = 3 by unfold swI; rw [if_neg a20, if_neg a21, if_neg a22, if_pos a23]]; exact ⟨fun _ => ⟨(k23.mpr a23).trans (by decide), by decide⟩, fun w => absurd w (by decide)⟩
  by_cases a24 : g 14 = 1 ∧ g 19 = 4389
  · rw [show swI g = 4 by unfold swI; rw [if_neg a20, if_neg a21, if_neg a22, if_neg a23, if_pos a24]]; exact ⟨fun _ => ⟨(k24.mpr a24).trans (by decide), by decide⟩, fun w => absurd w (by decide)⟩
  by_cases a25 : g 14 = 1 ∧ g 19 = 198028
  · rw [show swI g = 5 by unfold swI; rw [if_neg a20, if_neg a21, if_neg a22, if_neg a23, if_neg a24, if_pos a25]]; exact ⟨fun _ => ⟨(k25.mpr a25).trans (by decide), by decide⟩, fun w => absurd w (by decide)⟩
  by_cases a26 : g 14 = 1 ∧ g 19 = 1497
  · rw [show swI g = 6 by unfold swI; rw [if_neg a20, if_neg a21, if_neg a22, if_neg a23, if_neg a24, if_neg a25, if_pos a26]]; exact ⟨fun _ => ⟨(k26.mpr a26).trans (by decide), by decide⟩, fun w => absurd w (by decide)⟩
  by_cases a27 : g 14 = 1 ∧ g 19 = 762030
  · rw [show swI g = 7 by unfold swI; rw [if_neg a20, if_neg a21, if_neg a22, if_neg a23, if_neg a24, if_neg a25, if_neg a26, if_pos a27]]; exact ⟨fun _ => ⟨(k27.mpr a27).trans (by decide), by decide⟩, fun w => absurd w (by decide)⟩
  by_cases a31 : g 14 = 1 ∧ g 19 = 409072
  · rw [show swI g = 8 by unfold swI; rw [if_neg a20, if_neg a21, if_neg a22, if_neg a23, if_neg a24, if_neg a25, if_neg a26, if_neg a27, if_pos a31]]; exact ⟨fun _ => ⟨(k31.mpr a31).trans (by decide), by decide⟩, fun w => absurd w (by decide)⟩
  by_cases a33 : g 14 = 1 ∧ g 19 = 643568
  · rw [show swI g = 9 by unfold swI; rw [if_neg a20, if_neg a21, if_neg a22, if_neg a23, if_neg a24, if_neg a25, if_neg a26, if_neg a27, if_neg a31, if_pos a33]]; exact ⟨fun _ => ⟨(k33.mpr a33).trans (by decide), by decide⟩, fun w => absurd w (by decide)⟩
  rw [show swI g = -1 by unfold swI; rw [if_neg a20, if_neg a21, if_neg a22, if_neg a23, if_neg a24, if_neg a25, if_neg a26, if_neg a27, if_neg a31, if_neg a33]]
  refine ⟨fun w => absurd w (by decide), fun _ q => ?_⟩
  have b20 : ¬ t 3 = 20 := fun e => a20 (k20.mp e)
  have b21 : ¬ t 3 = 21 := fun e => a21 (k21.mp e)
  have b22 : ¬ t 3 = 22 := fun e => a22 (k22.mp e)
  have b23 : ¬ t 3 = 23 := fun e => a23 (k23.mp e)
  have b24 : ¬ t 3 = 24 := fun e => a24 (k24.mp e)
  have b25 : ¬ t 3 = 25 := fun e => a25 (k25.mp e)
  have b26 : ¬ t 3 = 26 := fun e => a26 (k26.mp e)
  have b27 : ¬ t 3 = 27 := fun e => a27 (k27.mp e)
  have b31 : ¬ t 3 = 31 := fun e => a31 (k31.mp e)
  have b33 : ¬ t 3 = 33 := fun e => a33 (k33.mp e)
  omega
theorem kk_in {k : Int} (h : 0 ≤ k ∧ k ≤ 9) : (20 ≤ kk k ∧ kk k ≤ 27) ∨ kk k = 31 ∨ kk k = 33 := by
  unfold kk; (repeat' split) <;> omega
theorem sw_b {t g : Int → Int} (h : TkC t g) (q : (20 ≤ t 3 ∧ t 3 ≤ 27) ∨ t 3 = 31 ∨ t 3 = 33) : (0 ≤ swI g ∧ swI g ≤ 9) ∧ t 3 = kk (swI g) ∧ g 14 = 1 := by
  have z : 0 ≤ swI g := Decidable.byContradiction (fun w => (sw_k h).2 (by omega) q)
  exact ⟨⟨z, ((sw_k h).1 z).2⟩, ((sw_k h).1 z).1, (swI_p z).1⟩
theorem sw_n {t g : Int → Int} (h : TkC t g) (q : ¬ ((20 ≤ t 3 ∧ t 3 ≤ 27) ∨ t 3 = 31 ∨ t 3 = 33)) : swI g < 0 := by
  refine Decidable.byContradiction (fun w => q ?_)
  have z := (sw_k h).1 (by omega)
  rw [z.1]; exact kk_in ⟨by omega, z.2⟩
theorem blk_k {k : Int} (h : 0 ≤ k ∧ k ≤ 9) : (blk k = 1 ↔ (kk k = 27 ∨ kk k = 31)) ∧ (blk k = 0 ↔ ¬ (kk k = 27 ∨ kk k = 31)) := by
  unfold blk kk; (repeat' split) <;> omega
theorem st_1 {g : Int → Int} {b n : Int} (h : g 12 = 0) (z : swI g < 0) : pS3 (pS2 (pS1 g)) b n = mAmi g := by
  have e1 : pS1 g = mAmi g := if_pos z
  have p := ami_p h
  rw [e1]; unfold pS3 pS2; rw [if_neg (show ¬ (mAmi g 12 = 0 ∧ mAmi g 26 = 30) by omega), if_neg (show ¬ (mAmi g 12 = 0 ∧ ¬ b = 0 ∧ n = 3) by omega)]
theorem fl_p {g : Int → Int} {k q : Int} (h : g 12 = 0) (hk : 0 < k) : 0 < mFail g k q 12 := by
  unfold mFail; rw [if_neg (by omega)]; simp (disch := decide) only [bu_e, bu_n]; exact hk
theorem st_2 {g : Int → Int} {b n : Int} (h : g 12 = 0) (z : 0 ≤ swI g) (h6 : g 26 = 30) : pS3 (pS2 (pS1 g)) b n = mFail g 6 (g 15) := by
  have e1 : pS1 g = g := if_neg (by omega)
  have p := fl_p (g := g) (k := 6) (q := g 15) h (by decide)
  have e2 : pS2 g = mFail g 6 (g 15) := if_pos ⟨h, h6⟩
  rw [e1, e2]; unfold pS3; rw [if_neg (show ¬ (mFail g 6 (g 15) 12 = 0 ∧ ¬ b = 0 ∧ n = 3) by omega)]
theorem st_3 {g : Int → Int} {b n : Int} (h : g 12 = 0) (z : 0 ≤ swI g) (h6 : ¬ g 26 = 30) (hb : ¬ b = 0) (hn : n = 3) : pS3 (pS2 (pS1 g)) b n = mFail g 7 (g 15) := by
  have e1 : pS1 g = g := if_neg (by omega)
  rw [e1]; unfold pS3 pS2; rw [if_neg (show ¬ (g 12 = 0 ∧ g 26 = 30) by omega), if_pos ⟨h, hb, hn⟩]
theorem st_4 {g : Int → Int} {b n : Int} (h : g 12 = 0) (z : 0 ≤ swI g) (h6 : ¬ g 26 = 30) (hb : b = 0 ∨ ¬ n = 3) : pS3 (pS2 (pS1 g)) b n = g := by
  have e1 : pS1 g = g := if_neg (by omega)
  rw [e1]; unfold pS3 pS2; rw [if_neg (show ¬ (g 12 = 0 ∧ g 26 = 30) by omega), if_neg (show ¬ (g 12 = 0 ∧ ¬ b = 0 ∧ n = 3) by omega)]
theorem res_j {y : Int → Int} {x : Ps} {v j : Int} (h : ¬ (v + 1 ≤ j ∧ j ≤ v + 7)) : (pRes y x v).2.1 j = x.2.1 j := by
  unfold pRes pTes pTe3 pTe2 pTe1
  repeat' split
  all_goals (dsimp only; try rw [bu_n (by omega)])
  all_goals (try rw [bu_n (by omega)])
  all_goals (try rw [bu_n (by omega)])
  all_goals (try rw [bu_n (by omega)])
theorem u_beginsStep {d L : Nat} {σ : Sg} {k : Int} : cI d m_X6_beginsStep [vi k] (SH L) σ (fun r σ' => r = bi ((20 ≤ k ∧ k ≤ 27) ∨ k = 31 ∨ k = 33) ∧ σ' = σ) :=
  cI.go rfl rfl (Go.sym (cut := []) 16 ⟨fun cqz1 => ⟨fun cqz2 => ⟨(by decide), ⟨_, rfl, rfl, ⟨(by have zc1 : k < 20 := cqz1; have zc2 : k = 31 := cqz2; first | (rw [bi_t (show (20 ≤ k ∧ k ≤ 27) ∨ k = 31 ∨ k = 33 by omega)]) | (rw [bi_f (show ¬ ((20 ≤ k ∧ k ≤ 27) ∨ k = 31 ∨ k = 33) by omega)])), rfl⟩⟩⟩, fun cqz2 => ⟨fun cqz3 => ⟨(by decide), ⟨_, rfl, rfl, ⟨(by have zc1 : k < 20 := cqz1; have zc2 : ¬ (k = 31) := cqz2; have zc3 : ¬ k = 33 := cqz3; first | (rw [bi_t (show (20 ≤ k ∧ k ≤ 27) ∨ k = 31 ∨ k = 33 by omega)]) | (rw [bi_f (show ¬ ((20 ≤ k ∧ k ≤ 27) ∨ k = 31 ∨ k = 33) by omega)])), rfl⟩⟩⟩, fun cqz3 => ⟨(by decide), ⟨_, rfl, rfl, ⟨(by have zc1 : k < 20 := cqz1; have zc2 : ¬ (k = 31) := cqz2; have zc3 : ¬ (¬ k = 33) := cqz3; first | (rw [bi_t (show (20 ≤ k ∧ k ≤ 27) ∨ k = 31 ∨ k = 33 by omega)]) | (rw [bi_f (show ¬ ((20 ≤ k ∧ k ≤ 27) ∨ k = 31 ∨ k = 33) by omega)])), rfl⟩⟩⟩⟩⟩, fun cqz1 => ⟨fun cqz4 => ⟨(by decide), ⟨_, rfl, rfl, ⟨(by have zc1 : ¬ (k < 20) := cqz1; have zc4 : k ≤ 27 := cqz4; first | (rw [bi_t (show (20 ≤ k ∧ k ≤ 27) ∨ k = 31 ∨ k = 33 by omega)]) | (rw [bi_f (show ¬ ((20 ≤ k ∧ k ≤ 27) ∨ k = 31 ∨ k = 33) by omega)])), rfl⟩⟩⟩, fun cqz4 => ⟨fun cqz5 => ⟨(by decide), ⟨_, rfl, rfl, ⟨(by have zc1 : ¬ (k < 20) := cqz1; have zc4 : ¬ (k ≤ 27) := cqz4; have zc5 : k = 31 := cqz5; first | (rw [bi_t (show (20 ≤ k ∧ k ≤ 27) ∨ k = 31 ∨ k = 33 by omega)]) | (rw [bi_f (show ¬ ((20 ≤ k ∧ k ≤ 27) ∨ k = 31 ∨ k = 33) by omega)])), rfl⟩⟩⟩, fun cqz5 => ⟨fun cqz6 => ⟨(by decide), ⟨_, rfl, rfl, ⟨(by have zc1 : ¬ (k < 20) := cqz1; have zc4 : ¬ (k ≤ 27) := cqz4; have zc5 : ¬ (k = 31) := cqz5; have zc6 : ¬ k = 33 := cqz6; first | (rw [bi_t (show (20 ≤ k ∧ k ≤ 27) ∨ k = 31 ∨ k = 33 by omega)]) | (rw [bi_f (show ¬ ((20 ≤ k ∧ k ≤ 27) ∨ k = 31 ∨ k = 33) by omega)])), rfl⟩⟩⟩, fun cqz6 => ⟨(by decide), ⟨_, rfl, rfl, ⟨(by have zc1 : ¬ (k < 20) := cqz1; have zc4 : ¬ (k ≤ 27) := cqz4; have zc5 : ¬ (k = 31) := cqz5; have zc6 : ¬ (¬ k = 33) := cqz6; first | (rw [bi_t (show (20 ≤ k ∧ k ≤ 27) ∨ k = 31 ∨ k = 33 by omega)]) | (rw [bi_f (show ¬ ((20 ≤ k ∧ k ≤ 27) ∨ k = 31 ∨ k = 33) by omega)])), rfl⟩⟩⟩⟩⟩⟩⟩)
