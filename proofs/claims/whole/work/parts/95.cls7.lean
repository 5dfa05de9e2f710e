/-! ===== the class: a weighed scale (text laid by gencls7.py) ===== -/
theorem mPow_1 {b : Int → Int} (h : 0 ≤ b 6 ∧ b 6 ≤ 2) {s : Int} {n : Nat} : 0 ≤ mPow b s n := (mPow_r h n).1
theorem pSum_add {g g' : Int → Int} {s q v : Int} (hq : 0 ≤ q) : ∀ k : Nat, (∀ p : Nat, p < k → g' p = g p + if (p : Int) = q then v else 0) → pSum g' s k = pSum g s k + if q < k then hasb s q * v else 0
  | 0, _ => by unfold pSum; rw [if_neg (by omega)]; rfl
  | k + 1, h => by
    have ih := pSum_add (g := g) (g' := g') (s := s) (v := v) hq k (fun p hp => h p (by omega))
    rw [pSum_s, pSum_s, ih, h k (by omega)]
    by_cases e : (k : Int) = q
    · rw [if_pos e, if_neg (by omega), if_pos (by omega), Int.mul_add, e]; omega
    · rw [if_neg e, Int.add_zero]
      by_cases c : q < k
      · rw [if_pos c, if_pos (by omega)]; omega
      · rw [if_neg c, if_neg (by omega)]; omega
theorem pSum_z {s : Int} : ∀ k : Nat, pSum (fun _ => 0) s k = 0
  | 0 => rfl
  | k + 1 => by rw [pSum_s, pSum_z k]; simp
theorem pSum_m {c : Int → Int} {s : Int} {P : Nat} (hP : P ≤ 4) : ∀ n : Nat, (∀ m : Nat, m < n → 0 ≤ c (14 + (m : Int)) ∧ c (14 + (m : Int)) < P) → pSum (fun p => mPow c (z_shl 1 p) n) s P = mPow c s n
  | 0, _ => pSum_z P
  | n + 1, h => by
    have hm := h n (by omega)
    have ih := pSum_m (c := c) (s := s) hP n (fun m hm => h m (by omega))
    rw [pSum_add (g := fun p => mPow c (z_shl 1 p) n) (q := c (14 + (n : Int))) (v := mCnt c n) hm.1 P (fun p hp => by
      show mPow c (z_shl 1 p) (n + 1) = _
      rw [mPow_s, hb_p (by omega) (by omega)]
      by_cases e : (p : Int) = c (14 + (n : Int))
      · simp [e]
      · simp [e]), ih, mPow_s, if_pos hm.2]
    rcases hb_01 (s := s) hm.1 (by omega) with e | e <;> rw [e] <;> simp
theorem pSum_c {g g' : Int → Int} {s : Int} : ∀ k : Nat, (∀ p : Int, 0 ≤ p → p < k → g p = g' p) → pSum g s k = pSum g' s k
  | 0, _ => rfl
  | k + 1, h => by rw [pSum_s, pSum_s, pSum_c k (fun p a b => h p a (by omega)), h k (by omega) (by omega)]
theorem gvr_m {c g : Int → Int} {n : Nat} (h6 : 0 ≤ c 6 ∧ c 6 ≤ 2) : ∀ p : Nat, (∀ q : Int, 0 ≤ q → q < p → g q = mPow c (z_shl 1 q) n) → gvr g p = mGov c n p ∧ 0 ≤ (mGov c n p).2 ∧ ((mGov c n p).2 = 0 → (mGov c n p).1 = -1)
  | 0, _ => ⟨rfl, by unfold mGov; decide, fun _ => rfl⟩
  | p + 1, h => by
    obtain ⟨i1, i2, i3⟩ := gvr_m h6 p (fun q a b => h q a (by omega))
    have hg := h p (by omega) (by omega)
    have hn := mPow_1 (b := c) h6 (s := z_shl 1 p) (n := n)
    rw [gvr_s, mGov_s, i1, hg]
    generalize mPow c (z_shl 1 p) n = v at hn ⊢
    generalize mGov c n p = x at i2 i3 ⊢
    obtain ⟨x1, x2⟩ := x
    dsimp only at *
    by_cases a : x2 < v
    · rw [if_pos a, if_neg (by omega), if_pos a]; dsimp only; exact ⟨rfl, by omega, fun e => by omega⟩
    · rw [if_neg a]
      by_cases e : v = x2
      · rw [if_pos e]
        by_cases z : v = 0
        · rw [if_pos (Or.inr z)]; exact ⟨by rw [i3 (by omega)], i2, i3⟩
        · rw [if_neg (by omega), if_neg (by omega)]; dsimp only; exact ⟨by rw [e], by omega, fun _ => rfl⟩
      · rw [if_neg e, if_pos (Or.inl (by omega))]; exact ⟨rfl, i2, i3⟩
/-- the scale tells of a block -/
def Wgh (τ : Sg) (A : Int) (c : Int → Int) : Prop := τ 161 0 = A ∧ (∀ p, 0 ≤ p → p < 4 → τ 164 p = mPow c (z_shl 1 p) (c 1).toNat) ∧ (∀ m, 0 ≤ m → m < c 1 → τ 163 m = mCnt c m) ∧ τ 161 6 = mSet (mTh c 0) (c 1).toNat ∧ τ A 3 = c 0 ∧ τ A 4 = c 1 ∧ τ A 5 = c 2 ∧ (∀ k, 0 ≤ k → k < c 2 → τ (A + 6) k = c (104 + k) ∧ τ (A + 7) k = c (109 + k))
theorem Wgh.p {τ : Sg} {A : Int} {c : Int → Int} (h : Wgh τ A c) (W : WB c) : PwR (τ 164) := fun p a b => by
  have := mPow_r (b := c) (s := z_shl 1 p) W.2.2.2.2.2.2.1 (c 1).toNat
  have h1 := W.2.1
  rw [h.2.1 p a b]; omega
theorem Wgh.s {τ : Sg} {A : Int} {c : Int → Int} (h : Wgh τ A c) (W : WB c) {s : Int} : pSum (τ 164) s (τ A 3).toNat = mPow c s (c 1).toNat := by
  have h0 := W.1
  rw [h.2.2.2.2.1, pSum_c (g' := fun p => mPow c (z_shl 1 p) (c 1).toNat) _ (fun p a b => h.2.1 p a (by omega))]
  exact pSum_m (by omega) _ (fun m hm => by have := W.wm (m := (m : Int)) (by omega) (by omega); unfold WM at this; omega)
theorem Wgh.g {τ : Sg} {A : Int} {c : Int → Int} (h : Wgh τ A c) (W : WB c) : (gvr (τ 164) (τ A 3).toNat).1 = mG c := by
  have h0 := W.1
  rw [h.2.2.2.2.1, (gvr_m W.2.2.2.2.2.2.1 (c 0).toNat (fun q a b => h.2.1 q a (by omega))).1]; rfl
theorem v_powerOfSet20 {d L : Nat} {σ : Sg} {s : Int} {c : Int → Int} (hW : Wgh σ 20 c) (W : WB c) : cI d m_X4_powerOfSet [vr 161, vi s] (SH L) σ (fun r σ' => r = mPow c s (c 1).toNat ∧ σ' = σ) := by
  have h30 : 0 ≤ σ 20 3 ∧ σ 20 3 ≤ 4 := by rw [hW.2.2.2.2.1]; exact W.1
  have key := u_powerOfSet20 (L := L) (d := d) (σ := σ) (f := σ 161) (s := s) h30 (hW.p W)
  refine cI.he (sc_id hW.1) (key.mono (fun r σ' q => ⟨?_, by rw [q.2]; exact (sc_id hW.1).symm⟩))
  rw [q.1]; exact hW.s W
theorem v_allPower20 {d L : Nat} {σ : Sg} {c : Int → Int} (hW : Wgh σ 20 c) (W : WB c) (hd : 1 ≤ d) : cI d m_X4_allPower [vr 161] (SH L) σ (fun r σ' => r = mPow c (z_shl 1 (c 0) - 1) (c 1).toNat ∧ σ' = σ) := by
  have h30 : 0 ≤ σ 20 3 ∧ σ 20 3 ≤ 4 := by rw [hW.2.2.2.2.1]; exact W.1
  have key := u_allPower20 (L := L) (d := d) (σ := σ) (f := σ 161) h30 (hW.p W) hd
  refine cI.he (sc_id hW.1) (key.mono (fun r σ' q => ⟨?_, by rw [q.2]; exact (sc_id hW.1).symm⟩))
  rw [q.1, hW.s W, hW.2.2.2.2.1]
theorem v_governor20 {d L : Nat} {σ : Sg} {c : Int → Int} (hW : Wgh σ 20 c) (W : WB c) : cI d m_X4_governor [vr 161] (SH L) σ (fun r σ' => r = mG c ∧ σ' = σ) := by
  have h30 : 0 ≤ σ 20 3 ∧ σ 20 3 ≤ 4 := by rw [hW.2.2.2.2.1]; exact W.1
  have key := u_governor20 (L := L) (d := d) (σ := σ) (f := σ 161) h30 (hW.p W)
  refine cI.he (sc_id hW.1) (key.mono (fun r σ' q => ⟨?_, by rw [q.2]; exact (sc_id hW.1).symm⟩))
  rw [q.1]; exact hW.g W
theorem v_marginOf20 {d L : Nat} {σ : Sg} {k : Int} {c : Int → Int} (hW : Wgh σ 20 c) (W : WB c) (hk : 0 ≤ k ∧ k < c 2) (hd : 1 ≤ d) : cI d m_X4_marginOf [vr 161, vi k] (SH L) σ (fun r σ' => r = mMar c k ∧ σ' = σ) := by
  have h30 : 0 ≤ σ 20 3 ∧ σ 20 3 ≤ 4 := by rw [hW.2.2.2.2.1]; exact W.1
  have key := u_marginOf20 (L := L) (d := d) (σ := σ) (f := σ 161) (k := k) (by have := W.2.2.1; omega) h30 (hW.p W) hd
  refine cI.he (sc_id hW.1) (key.mono (fun r σ' q => ⟨?_, by rw [q.2]; exact (sc_id hW.1).symm⟩))
  rw [q.1, hW.s W, hW.s W]; have e := hW.2.2.2.2.2.2.2 k hk.1 hk.2; unfold mMar; rw [show σ 26 k = c (104 + k) from e.1, show σ 27 k = c (109 + k) from e.2]
theorem v_powerOfSet48 {d L : Nat} {σ : Sg} {s : Int} {c : Int → Int} (hW : Wgh σ 48 c) (W : WB c) : cI d m_X4_powerOfSet [vr 161, vi s] (SH L) σ (fun r σ' => r = mPow c s (c 1).toNat ∧ σ' = σ) := by
  have h30 : 0 ≤ σ 48 3 ∧ σ 48 3 ≤ 4 := by rw [hW.2.2.2.2.1]; exact W.1
  have key := u_powerOfSet48 (L := L) (d := d) (σ := σ) (f := σ 161) (s := s) h30 (hW.p W)
  refine cI.he (sc_id hW.1) (key.mono (fun r σ' q => ⟨?_, by rw [q.2]; exact (sc_id hW.1).symm⟩))
  rw [q.1]; exact hW.s W
theorem v_allPower48 {d L : Nat} {σ : Sg} {c : Int → Int} (hW : Wgh σ 48 c) (W : WB c) (hd : 1 ≤ d) : cI d m_X4_allPower [vr 161] (SH L) σ (fun r σ' => r = mPow c (z_shl 1 (c 0) - 1) (c 1).toNat ∧ σ' = σ) := by
  have h30 : 0 ≤ σ 48 3 ∧ σ 48 3 ≤ 4 := by rw [hW.2.2.2.2.1]; exact W.1
  have key := u_allPower48 (L := L) (d := d) (σ := σ) (f := σ 161) h30 (hW.p W) hd
  refine cI.he (sc_id hW.1) (key.mono (fun r σ' q => ⟨?_, by rw [q.2]; exact (sc_id hW.1).symm⟩))
  rw [q.1, hW.s W, hW.2.2.2.2.1]
theorem v_governor48 {d L : Nat} {σ : Sg} {c : Int → Int} (hW : Wgh σ 48 c) (W : WB c) : cI d m_X4_governor [vr 161] (SH L) σ (fun r σ' => r = mG c ∧ σ' = σ) := by
  have h30 : 0 ≤ σ 48 3 ∧ σ 48 3 ≤ 4 := by rw [hW.2.2.2.2.1]; exact W.1
  have key := u_governor48 (L := L) (d := d) (σ := σ) (f := σ 161) h30 (hW.p W)
  refine cI.he (sc_id hW.1) (key.mono (fun r σ' q => ⟨?_, by rw [q.2]; exact (sc_id hW.1).symm⟩))
  rw [q.1]; exact hW.g W
theorem v_marginOf48 {d L : Nat} {σ : Sg} {k : Int} {c : Int → Int} (hW : Wgh σ 48 c) (W : WB c) (hk : 0 ≤ k ∧ k < c 2) (hd : 1 ≤ d) : cI d m_X4_marginOf [vr 161, vi k] (SH L) σ (fun r σ' => r = mMar c k ∧ σ' = σ) := by
  have h30 : 0 ≤ σ 48 3 ∧ σ 48 3 ≤ 4 := by rw [hW.2.2.2.2.1]; exact W.1
  have key := u_marginOf48 (L := L) (d := d) (σ := σ) (f := σ 161) (k := k) (by have := W.2.2.1; omega) h30 (hW.p W) hd
  refine cI.he (sc_id hW.1) (key.mono (fun r σ' q => ⟨?_, by rw [q.2]; exact (sc_id hW.1).symm⟩))
  rw [q.1, hW.s W, hW.s W]; have e := hW.2.2.2.2.2.2.2 k hk.1 hk.2; unfold mMar; rw [show σ 54 k = c (104 + k) from e.1, show σ 55 k = c (109 + k) from e.2]
