/-! ===== the class: TOKENS taken (text laid by gencls58.py) ===== -/
theorem kix_b {k : Int} (h : 0 ≤ k ∧ k < 34) : kix (kyV k) = k := by
  have : k = 0 ∨ k = 1 ∨ k = 2 ∨ k = 3 ∨ k = 4 ∨ k = 5 ∨ k = 6 ∨ k = 7 ∨ k = 8 ∨ k = 9 ∨ k = 10 ∨ k = 11 ∨ k = 12 ∨ k = 13 ∨ k = 14 ∨ k = 15 ∨ k = 16 ∨ k = 17 ∨ k = 18 ∨ k = 19 ∨ k = 20 ∨ k = 21 ∨ k = 22 ∨ k = 23 ∨ k = 24 ∨ k = 25 ∨ k = 26 ∨ k = 27 ∨ k = 28 ∨ k = 29 ∨ k = 30 ∨ k = 31 ∨ k = 32 ∨ k = 33 := by omega
  rcases this with rfl | rfl | rfl | rfl | rfl | rfl | rfl | rfl | rfl | rfl | rfl | rfl | rfl | rfl | rfl | rfl | rfl | rfl | rfl | rfl | rfl | rfl | rfl | rfl | rfl | rfl | rfl | rfl | rfl | rfl | rfl | rfl | rfl | rfl <;> decide
theorem kix_f {v k : Int} (h : 0 ≤ k) (q : kix v = k) : v = kyV k := by
  by_cases h0 : v = 6194
  · subst h0; rw [kix_e.1] at q; subst q; exact (kyV_e.1).symm
  by_cases h1 : v = 89728164
  · subst h1; rw [kix_e.2.1] at q; subst q; exact (kyV_e.2.1).symm
  by_cases h2 : v = 9612
  · subst h2; rw [kix_e.2.2.1] at q; subst q; exact (kyV_e.2.2.1).symm
  by_cases h3 : v = 71052
  · subst h3; rw [kix_e.2.2.2.1] at q; subst q; exact (kyV_e.2.2.2.1).symm
  by_cases h4 : v = 16829081
  · subst h4; rw [kix_e.2.2.2.2.1] at q; subst q; exact (kyV_e.2.2.2.2.1).symm
  by_cases h5 : v = 441878706
  · subst h5; rw [kix_e.2.2.2.2.2.1] at q; subst q; exact (kyV_e.2.2.2.2.2.1).symm
  by_cases h6 : v = 486
  · subst h6; rw [kix_e.2.2.2.2.2.2.1] at q; subst q; exact (kyV_e.2.2.2.2.2.2.1).symm
  by_cases h7 : v = 52
  · subst h7; rw [kix_e.2.2.2.2.2.2.2.1] at q; subst q; exact (kyV_e.2.2.2.2.2.2.2.1).symm
  by_cases h8 : v = 20452516
  · subst h8; rw [kix_e.2.2.2.2.2.2.2.2.1] at q; subst q; exact (kyV_e.2.2.2.2.2.2.2.2.1).symm
  by_cases h9 : v = 17376357
  · subst h9; rw [kix_e.2.2.2.2.2.2.2.2.2.1] at q; subst q; exact (kyV_e.2.2.2.2.2.2.2.2.2.1).symm
  by_cases h10 : v = 136228
  · subst h10; rw [kix_e.2.2.2.2.2.2.2.2.2.2.1] at q; subst q; exact (kyV_e.2.2.2.2.2.2.2.2.2.2.1).symm
  by_cases h11 : v = 631915
  · subst h11; rw [kix_e.2.2.2.2.2.2.2.2.2.2.2.1] at q; subst q; exact (kyV_e.2.2.2.2.2.2.2.2.2.2.2.1).symm
  by_cases h12 : v = 278007982
  · subst h12; rw [kix_e.2.2.2.2.2.2.2.2.2.2.2.2.1] at q; subst q; exact (kyV_e.2.2.2.2.2.2.2.2.2.2.2.2.1).symm
  by_cases h13 : v = 21734867
  · subst h13; rw [kix_e.2.2.2.2.2.2.2.2.2.2.2.2.2.1] at q; subst q; exact (kyV_e.2.2.2.2.2.2.2.2.2.2.2.2.2.1).symm
  by_cases h14 : v = 452601326
  · subst h14; rw [kix_e.2.2.2.2.2.2.2.2.2.2.2.2.2.2.1] at q; subst q; exact (kyV_e.2.2.2.2.2.2.2.2.2.2.2.2.2.2.1).symm
  by_cases h15 : v = 6642
  · subst h15; rw [kix_e.2.2.2.2.2.2.2.2.2.2.2.2.2.2.2.1] at q; subst q; exact (kyV_e.2.2.2.2.2.2.2.2.2.2.2.2.2.2.2.1).symm
  by_cases h16 : v = 1309981300
  · subst h16; rw [kix_e.2.2.2.2.2.2.2.2.2.2.2.2.2.2.2.2.1] at q; subst q; exact (kyV_e.2.2.2.2.2.2.2.2.2.2.2.2.2.2.2.2.1).symm
  by_cases h17 : v = 605677
  · subst h17; rw [kix_e.2.2.2.2.2.2.2.2.2.2.2.2.2.2.2.2.2.1] at q; subst q; exact (kyV_e.2.2.2.2.2.2.2.2.2.2.2.2.2.2.2.2.2.1).symm
  by_cases h18 : v = 21015731
  · subst h18; rw [kix_e.2.2.2.2.2.2.2.2.2.2.2.2.2.2.2.2.2.2.1] at q; subst q; exact (kyV_e.2.2.2.2.2.2.2.2.2.2.2.2.2.2.2.2.2.2.1).symm
  by_cases h19 : v = 495763
  · subst h19; rw [kix_e.2.2.2.2.2.2.2.2.2.2.2.2.2.2.2.2.2.2.2.1] at q; subst q; exact (kyV_e.2.2.2.2.2.2.2.2.2.2.2.2.2.2.2.2.2.2.2.1).symm
  by_cases h20 : v = 446125701
  · subst h20; rw [kix_e.2.2.2.2.2.2.2.2.2.2.2.2.2.2.2.2.2.2.2.2.1] at q; subst q; exact (kyV_e.2.2.2.2.2.2.2.2.2.2.2.2.2.2.2.2.2.2.2.2.1).symm
  by_cases h21 : v = 114085
  · subst h21; rw [kix_e.2.2.2.2.2.2.2.2.2.2.2.2.2.2.2.2.2.2.2.2.2.1] at q; subst q; exact (kyV_e.2.2.2.2.2.2.2.2.2.2.2.2.2.2.2.2.2.2.2.2.2.1).symm
  by_cases h22 : v = 239
  · subst h22; rw [kix_e.2.2.2.2.2.2.2.2.2.2.2.2.2.2.2.2.2.2.2.2.2.2.1] at q; subst q; exact (kyV_e.2.2.2.2.2.2.2.2.2.2.2.2.2.2.2.2.2.2.2.2.2.2.1).symm
  by_cases h23 : v = 643129
  · subst h23; rw [kix_e.2.2.2.2.2.2.2.2.2.2.2.2.2.2.2.2.2.2.2.2.2.2.2.1] at q; subst q; exact (kyV_e.2.2.2.2.2.2.2.2.2.2.2.2.2.2.2.2.2.2.2.2.2.2.2.1).symm
  by_cases h24 : v = 4389
  · subst h24; rw [kix_e.2.2.2.2.2.2.2.2.2.2.2.2.2.2.2.2.2.2.2.2.2.2.2.2.1] at q; subst q; exact (kyV_e.2.2.2.2.2.2.2.2.2.2.2.2.2.2.2.2.2.2.2.2.2.2.2.2.1).symm
  by_cases h25 : v = 198028
  · subst h25; rw [kix_e.2.2.2.2.2.2.2.2.2.2.2.2.2.2.2.2.2.2.2.2.2.2.2.2.2.1] at q; subst q; exact (kyV_e.2.2.2.2.2.2.2.2.2.2.2.2.2.2.2.2.2.2.2.2.2.2.2.2.2.1).symm
  by_cases h26 : v = 1497
  · subst h26; rw [kix_e.2.2.2.2.2.2.2.2.2.2.2.2.2.2.2.2.2.2.2.2.2.2.2.2.2.2.1] at q; subst q; exact (kyV_e.2.2.2.2.2.2.2.2.2.2.2.2.2.2.2.2.2.2.2.2.2.2.2.2.2.2.1).symm
  by_cases h27 : v = 762030
  · subst h27; rw [kix_e.2.2.2.2.2.2.2.2.2.2.2.2.2.2.2.2.2.2.2.2.2.2.2.2.2.2.2.1] at q; subst q; exact (kyV_e.2.2.2.2.2.2.2.2.2.2.2.2.2.2.2.2.2.2.2.2.2.2.2.2.2.2.2.1).symm
  by_cases h28 : v = 8042760659
  · subst h28; rw [kix_e.2.2.2.2.2.2.2.2.2.2.2.2.2.2.2.2.2.2.2.2.2.2.2.2.2.2.2.2.1] at q; subst q; exact (kyV_e.2.2.2.2.2.2.2.2.2.2.2.2.2.2.2.2.2.2.2.2.2.2.2.2.2.2.2.2.1).symm
  by_cases h29 : v = 3274253476
  · subst h29; rw [kix_e.2.2.2.2.2.2.2.2.2.2.2.2.2.2.2.2.2.2.2.2.2.2.2.2.2.2.2.2.2.1] at q; subst q; exact (kyV_e.2.2.2.2.2.2.2.2.2.2.2.2.2.2.2.2.2.2.2.2.2.2.2.2.2.2.2.2.2.1).symm
  by_cases h30 : v = 26265747
  · subst h30; rw [kix_e.2.2.2.2.2.2.2.2.2.2.2.2.2.2.2.2.2.2.2.2.2.2.2.2.2.2.2.2.2.2.1] at q; subst q; exact (kyV_e.2.2.2.2.2.2.2.2.2.2.2.2.2.2.2.2.2.2.2.2.2.2.2.2.2.2.2.2.2.2.1).symm
  by_cases h31 : v = 409072
  · subst h31; rw [kix_e.2.2.2.2.2.2.2.2.2.2.2.2.2.2.2.2.2.2.2.2.2.2.2.2.2.2.2.2.2.2.2.1] at q; subst q; exact (kyV_e.2.2.2.2.2.2.2.2.2.2.2.2.2.2.2.2.2.2.2.2.2.2.2.2.2.2.2.2.2.2.2.1).symm
  by_cases h32 : v = 5572
  · subst h32; rw [kix_e.2.2.2.2.2.2.2.2.2.2.2.2.2.2.2.2.2.2.2.2.2.2.2.2.2.2.2.2.2.2.2.2.1] at q; subst q; exact (kyV_e.2.2.2.2.2.2.2.2.2.2.2.2.2.2.2.2.2.2.2.2.2.2.2.2.2.2.2.2.2.2.2.2.1).symm
  by_cases h33 : v = 643568
  · subst h33; rw [kix_e.2.2.2.2.2.2.2.2.2.2.2.2.2.2.2.2.2.2.2.2.2.2.2.2.2.2.2.2.2.2.2.2.2] at q; subst q; exact (kyV_e.2.2.2.2.2.2.2.2.2.2.2.2.2.2.2.2.2.2.2.2.2.2.2.2.2.2.2.2.2.2.2.2.2).symm
  rw [kix_n ⟨h0, h1, h2, h3, h4, h5, h6, h7, h8, h9, h10, h11, h12, h13, h14, h15, h16, h17, h18, h19, h20, h21, h22, h23, h24, h25, h26, h27, h28, h29, h30, h31, h32, h33⟩] at q; omega
theorem kix_iff {v k : Int} (h : 0 ≤ k ∧ k < 34) : kix v = k ↔ v = kyV k := ⟨fun q => kix_f h.1 q, fun q => by rw [q]; exact kix_b h⟩
theorem kxN_r {v : Int} : ∀ n : Nat, -1 ≤ kxN v n
  | 0 => by unfold kxN; decide
  | n + 1 => by
    have := kxN_r (v := v) n
    rw [kxN_s]; split <;> omega
theorem kix_r {v : Int} : -1 ≤ kix v := by rw [← kxN_k]; exact kxN_r 34
def TC (y : Int → Int) (σ : Sg) (g : Int → Int) : Prop := TkC (σ 17) g ∧ GI g ∧ g 12 = 0 ∧ (σ 17 1 = 0 ∧ σ 17 2 = -1) ∧ σ 18 = y ∧ BY y ∧ KR σ
def TF (σ : Sg) (g : Int → Int) : Prop := 0 < g 12 ∧ σ 17 1 = g 12 ∧ σ 17 2 = g 13
def TO (y : Int → Int) (σ : Sg) (r : Int) (g : Int → Int) : Prop := (r = 1 ∧ TC y σ g) ∨ (r = 0 ∧ TF σ g)
def frTp (σ σ' : Sg) : Prop := ∀ q, q ≠ 17 → σ' q = σ q
theorem TkC.key {t g : Int → Int} (h : TkC t g) {k : Int} (hk : 0 ≤ k ∧ k < 34) : t 3 = k ↔ (g 14 = 1 ∧ g 19 = kyV k) := by
  obtain ⟨_, h1, h2, _, _⟩ := h
  by_cases c : g 14 = 1
  · rw [(h1 c).1, kix_iff hk]; exact ⟨fun q => ⟨c, q⟩, fun q => q.2⟩
  · rw [h2 c]; exact ⟨fun q => by omega, fun q => absurd q.1 c⟩
theorem TkC.name {t g : Int → Int} (h : TkC t g) : (t 12 = 1 ∧ ¬ t 4 = 0 ∧ t 3 = -1) ↔ (g 14 = 1 ∧ g 18 ≤ 8 ∧ ¬ 0 ≤ kix (g 19)) := by
  obtain ⟨⟨_, _, _, h0⟩, h1, h2, _, _⟩ := h
  rw [h0]
  by_cases c : g 14 = 1
  · obtain ⟨a1, a2, a3, a4⟩ := h1 c
    have := kix_r (v := g 19)
    by_cases e : g 18 ≤ 8
    · rw [if_pos e] at a2; have := a3 e; omega
    · rw [if_neg e] at a2; omega
  · exact ⟨fun q => absurd q.1 c, fun q => absurd q.1 c⟩
theorem TkC.cg {t t' g : Int → Int} (h : TkC t g) (e : ∀ j, j = 3 ∨ j = 4 ∨ (9 ≤ j ∧ j ≤ 13) → t' j = t j) : TkC t' g := by
  unfold TkC at *; rw [e 3 (by omega), e 4 (by omega), e 9 (by omega), e 10 (by omega), e 11 (by omega), e 12 (by omega), e 13 (by omega)]; exact h
theorem TC.u {y g : Int → Int} {σ : Sg} (h : TC y σ g) {j v : Int} (hj : j = 0 ∨ j = 5 ∨ j = 6) : TC y (up σ 17 j v) g := by
  obtain ⟨h1, h2, h3, h4, h5, h6, h7⟩ := h
  refine ⟨h1.cg (fun q hq => by rw [up_nj (by omega)]), h2, h3, ?_, by rw [up_row (by decide)]; exact h5, h6, fun i x1 x2 => by rw [up_row (by decide)]; exact h7 i x1 x2⟩
  rw [up_nj (by omega), up_nj (by omega)]; exact h4
theorem TC.fr {y g : Int → Int} {σ σ' : Sg} (h : TC y σ g) (e : ∀ q, 17 ≤ q → q ≤ 19 → σ' q = σ q) : TC y σ' g := by
  obtain ⟨h1, h2, h3, h4, h5, h6, h7⟩ := h
  refine ⟨?_, h2, h3, ?_, ?_, h6, fun i x1 x2 => ?_⟩
  · rw [e 17 (by decide) (by decide)]; exact h1
  · rw [e 17 (by decide) (by decide)]; exact h4
  · rw [e 18 (by decide) (by decide)]; exact h5
  · rw [e 19 (by decide) (by decide)]; exact h7 i x1 x2
theorem TF.fr {g : Int → Int} {σ σ' : Sg} (h : TF σ g) (e : σ' 17 = σ 17) : TF σ' g := by unfold TF at *; rw [e]; exact h
theorem TF.gs {g g' : Int → Int} {σ : Sg} (h : TF σ g) (s : Gs g g') : TF σ g' := by
  obtain ⟨h1, h2, h3⟩ := h
  obtain ⟨s1, s2⟩ := s h1
  exact ⟨by omega, by omega, by omega⟩
theorem TC.n {y g : Int → Int} {σ : Sg} (h : TC y σ g) : ¬ 0 < g 12 := by have := h.2.2.1; omega
theorem ami_12 {g : Int → Int} (h : g 12 = 0) : mAmi g 12 = (if g 14 = 4 then 1 else 2) ∧ mAmi g 13 = g 15 := by
  unfold mAmi mFail; rw [if_neg (by omega)]; simp (disch := decide) only [bu_e, bu_n, and_self]
theorem fail_12 {g : Int → Int} (h : g 12 = 0) {k q : Int} : mFail g k q 12 = k ∧ mFail g k q 13 = q := by
  unfold mFail; rw [if_neg (by omega)]; simp (disch := decide) only [bu_e, bu_n, and_self]
def rfS (σ : Sg) (k : Int) : Sg := up (up σ 17 1 (if σ 17 12 = 4 then 1 else k)) 17 2 (σ 17 10)
theorem TC.ami {y g : Int → Int} {σ : Sg} (h : TC y σ g) : TF (rfS σ 2) (mAmi g) := by
  have e := ami_12 h.2.2.1
  obtain ⟨⟨_, t10, _, t12⟩, _⟩ := h.1
  unfold TF; rw [e.1, e.2]
  refine ⟨by split <;> decide, ?_, ?_⟩
  · unfold rfS; rw [up_nj (by decide), up_eq, t12]
  · unfold rfS; rw [up_eq, t10]
theorem TC.fl {y g : Int → Int} {σ : Sg} (h : TC y σ g) {k : Int} (hk : 0 < k) (h4 : ¬ g 14 = 4) : TF (rfS σ k) (mFail g k (g 15)) := by
  have e := fail_12 (k := k) (q := g 15) h.2.2.1
  obtain ⟨⟨_, t10, _, t12⟩, _⟩ := h.1
  unfold TF; rw [e.1, e.2]
  refine ⟨hk, ?_, ?_⟩
  · unfold rfS; rw [up_nj (by decide), up_eq, t12, if_neg h4]
  · unfold rfS; rw [up_eq, t10]
theorem frTp.rf {σ : Sg} {k : Int} : frTp σ (rfS σ k) := fun q x => by unfold rfS; rw [up_row x, up_row x]
theorem frTp.tr {σ σ1 σ2 : Sg} (h : frTp σ σ1) (h2 : frTp σ1 σ2) : frTp σ σ2 := fun q x => (h2 q x).trans (h q x)
theorem frTp.rfl {σ : Sg} : frTp σ σ := fun _ _ => Eq.refl _
theorem frTp.u {σ : Sg} {j v : Int} : frTp σ (up σ 17 j v) := fun q x => up_row x
theorem v_advance {d L : Nat} {σ : Sg} {y g : Int → Int} (h : TC y σ g) (hd : 1 ≤ d) : cV d m_X9_advance [vr 17] (SH L) σ (fun σ' => TC y σ' (mAdv y g) ∧ (σ' 17 5 = σ 17 5 ∧ σ' 17 6 = σ 17 6) ∧ frTp σ σ') := by
  obtain ⟨h1, h2, h3, h4, h5, h6, h7⟩ := h
  refine (u_advance (L := L) (d := d) (σ := σ) (g := g) h2 (by rw [h5]; exact h6) h7 h1.1.1 h1.1.2.2.1 hd).mono (fun σ' ⟨a1, a2, a3⟩ => ⟨⟨?_, mAdv_gi h2, by rw [mAdv_f (by omega)]; exact h3, ?_, ?_, h6, fun i x1 x2 => ?_⟩, ⟨a2 5 (by omega), a2 6 (by omega)⟩, a3⟩)
  · rw [← h5]; exact a1
  · rw [a2 1 (by omega), a2 2 (by omega)]; exact h4
  · rw [a3 18 (by decide)]; exact h5
  · rw [a3 19 (by decide)]; exact h7 i x1 x2
theorem u_trefuse {d L : Nat} {σ : Sg} {k : Int} : cI d m_X9_refuse [vr 17, vi k] (SH L) σ (fun r σ' => r = 0 ∧ σ' = rfS σ k) :=
  cI.go rfl rfl (Go.sym (cut := []) 15 ⟨rfl, ⟨fun cqz1 => ⟨⟨rfl, (ib rfl)⟩, ⟨rfl, ⟨⟨rfl, (ib rfl)⟩, ⟨(by decide), ⟨_, rfl, rfl, ⟨rfl, (by unfold rfS; have z : ¬ σ 17 12 = 4 := cqz1; rw [if_neg z]; rfl)⟩⟩⟩⟩⟩⟩, fun cqz1 => ⟨⟨rfl, (ib rfl)⟩, ⟨rfl, ⟨⟨rfl, (ib rfl)⟩, ⟨(by decide), ⟨_, rfl, rfl, ⟨rfl, (by unfold rfS; have z : ¬ ¬ σ 17 12 = 4 := cqz1; rw [if_pos (Decidable.of_not_not z)]; rfl)⟩⟩⟩⟩⟩⟩⟩⟩)
theorem u_isAtEnd {d L : Nat} {σ : Sg} {y g : Int → Int} (h : TC y σ g) : cI d m_X9_isAtEnd [vr 17] (SH L) σ (fun r σ' => r = bi (g 14 = 0) ∧ σ' = σ) :=
  cI.go rfl rfl (Go.sym (cut := []) 7 ⟨rfl, ⟨fun cqz1 => ⟨(by decide), ⟨_, rfl, rfl, ⟨(by have t12 : σ 17 12 = g 14 := h.1.1.2.2.2; (try clear ih) <;> (try clear hV) <;> (try clear K) <;> (try clear KS) <;> (try simp only [icond, nc, bi0, bi1, bin0, bin1, ne_eq, Decidable.not_not] at *) <;> (try simp (disch := omega) only [icond, q32_in, srM, srN, jc_lt, jc_gt, jc_le, jc_ge, jc_eq, bi0, bi1, bin0, bin1, List.headD_cons, ne_eq, Decidable.not_not, fin01, nc, not_true_eq_false, not_false_eq_true, false_and, and_false, true_and, and_true, false_or, or_false, sr_sr, sr_e, sr_n, bu_n, bu_e, sr_id, up_sr, sca0, sca1, sca2, scb0, scb1, scb2, shc0, shc1, mem24, mem52, shn] at *) <;> (try simp (disch := omega) only [q32_in, bu_n, bu_e] at *) <;> (unfold bi; simp (disch := omega) only [if_pos, if_neg])), rfl⟩⟩⟩, fun cqz1 => ⟨(by decide), ⟨_, rfl, rfl, ⟨(by have t12 : σ 17 12 = g 14 := h.1.1.2.2.2; (try clear ih) <;> (try clear hV) <;> (try clear K) <;> (try clear KS) <;> (try simp only [icond, nc, bi0, bi1, bin0, bin1, ne_eq, Decidable.not_not] at *) <;> (try simp (disch := omega) only [icond, q32_in, srM, srN, jc_lt, jc_gt, jc_le, jc_ge, jc_eq, bi0, bi1, bin0, bin1, List.headD_cons, ne_eq, Decidable.not_not, fin01, nc, not_true_eq_false, not_false_eq_true, false_and, and_false, true_and, and_true, false_or, or_false, sr_sr, sr_e, sr_n, bu_n, bu_e, sr_id, up_sr, sca0, sca1, sca2, scb0, scb1, scb2, shc0, shc1, mem24, mem52, shn] at *) <;> (try simp (disch := omega) only [q32_in, bu_n, bu_e] at *) <;> (unfold bi; simp (disch := omega) only [if_pos, if_neg])), rfl⟩⟩⟩⟩⟩)
theorem u_isName {d L : Nat} {σ : Sg} {y g : Int → Int} (h : TC y σ g) : cI d m_X9_isName [vr 17] (SH L) σ (fun r σ' => r = nmI g ∧ σ' = σ) :=
  cI.go rfl rfl (Go.sym (cut := []) 17 ⟨rfl, ⟨fun cqz1 => ⟨(by decide), ⟨_, rfl, rfl, ⟨(by have n := h.1.name; have z : ¬ σ 17 12 = 1 := cqz1; exact (bi_f (fun q => by have := n.mpr q; omega)).symm), rfl⟩⟩⟩, fun cqz1 => ⟨rfl, ⟨fun cqz2 => ⟨(by decide), ⟨_, rfl, rfl, ⟨(by have n := h.1.name; have z : σ 17 4 = 0 := jc_eq.mp (show j_cmp (σ 17 4) 0 = 0 from cqz2); exact (bi_f (fun q => by have := n.mpr q; omega)).symm), rfl⟩⟩⟩, fun cqz2 => ⟨rfl, ⟨fun cqz3 => ⟨(by decide), ⟨_, rfl, rfl, ⟨(by have n := h.1.name; have z : ¬ σ 17 3 = -1 := cqz3; exact (bi_f (fun q => by have := n.mpr q; omega)).symm), rfl⟩⟩⟩, fun cqz3 => ⟨(by decide), ⟨_, rfl, rfl, ⟨(by have n := h.1.name; have z0 : ¬ ¬ σ 17 12 = 1 := cqz1; have z1 : ¬ σ 17 4 = 0 := (fun e => (show ¬ j_cmp (σ 17 4) 0 = 0 from cqz2) (jc_eq.mpr e)); have z2 : ¬ ¬ σ 17 3 = -1 := cqz3; exact (bi_t (n.mp (by omega))).symm), rfl⟩⟩⟩⟩⟩⟩⟩⟩⟩)
theorem u_takeKey {d L : Nat} {σ : Sg} {y g : Int → Int} {k : Int} (h : TC y σ g) (hk : 0 ≤ k ∧ k < 34) (hd : 2 ≤ d) : cI d m_X9_takeKey [vr 17, vi k] (SH L) σ (fun r σ' => TO y σ' r (mMust y g (kwI g (kyV k))) ∧ frTp σ σ') :=
  cI.go rfl rfl (Go.sym (cut := []) 9 ⟨rfl, ⟨fun cqz1 => ⟨⟨nb rfl, nb rfl, rfl⟩, ⟨d0 hd, nb rfl⟩, cV.bind (v_advance h (ds (by omega : 1 + 1 ≤ d))) (fun σ1 ⟨a1, a2, a3⟩ => ⟨(by decide), ⟨_, rfl, rfl, ⟨Or.inl ⟨rfl, (by have z := (h.1.key hk).mp cqz1; have e : mMust y g (kwI g (kyV k)) = mAdv y g := (by unfold mMust kwI; rw [if_neg h.n, bi_t z, if_neg (by decide)]); rw [e]; exact a1)⟩, a3⟩⟩⟩)⟩, fun cqz1 => ⟨⟨nb rfl, nb rfl, rfl⟩, ⟨d0 hd, nb rfl⟩, cI.det (u_trefuse) ⟨(by decide), ⟨_, rfl, rfl, ⟨Or.inr ⟨rfl, (by have z := (fun q => cqz1 ((h.1.key hk).mpr q)); have e : mMust y g (kwI g (kyV k)) = mAmi g := (by unfold mMust kwI; rw [if_neg h.n, bi_f z, if_pos rfl]); rw [e]; exact h.ami)⟩, frTp.rf⟩⟩⟩⟩⟩⟩)
theorem u_skipKey {d L : Nat} {σ : Sg} {y g : Int → Int} {k : Int} (h : TC y σ g) (hk : 0 ≤ k ∧ k < 34) (hd : 2 ≤ d) : cI d m_X9_skipKey [vr 17, vi k] (SH L) σ (fun r σ' => r = (mPer y g (kwI g (kyV k))).1 ∧ TC y σ' (mPer y g (kwI g (kyV k))).2 ∧ σ' 17 5 = σ 17 5 ∧ frTp σ σ') :=
  cI.go rfl rfl (Go.sym (cut := []) 14 ⟨rfl, ⟨fun cqz1 => ⟨fun cqz2 => ⟨(by decide), ⟨_, rfl, rfl, ⟨(by have z := (fun q => cqz1 ((h.1.key hk).mpr q)); have e : mPer y g (kwI g (kyV k)) = (0, g) := (by unfold mPer kwI; rw [if_pos (Or.inr (bi_f z))]); rw [e]), (by have z := (fun q => cqz1 ((h.1.key hk).mpr q)); have e : mPer y g (kwI g (kyV k)) = (0, g) := (by unfold mPer kwI; rw [if_pos (Or.inr (bi_f z))]); rw [e]; exact h), rfl, frTp.rfl⟩⟩⟩, fun cqz2 => (by exfalso; revert cqz2; simp only [icond]; decide)⟩, fun cqz1 => ⟨fun cqz3 => (by exfalso; revert cqz3; simp only [icond]; decide), fun cqz3 => ⟨⟨nb rfl, nb rfl, rfl⟩, ⟨d0 hd, nb rfl⟩, cV.bind (v_advance h (ds (by omega : 1 + 1 ≤ d))) (fun σ1 ⟨a1, a2, a3⟩ => ⟨(by decide), ⟨_, rfl, rfl, ⟨(by have z := (h.1.key hk).mp (Decidable.of_not_not cqz1); have e : mPer y g (kwI g (kyV k)) = (1, mAdv y g) := (by unfold mPer kwI; rw [if_neg (fun q => by rw [bi_t z] at q; exact q.elim h.n (by decide))]); rw [e]), (by have z := (h.1.key hk).mp (Decidable.of_not_not cqz1); have e : mPer y g (kwI g (kyV k)) = (1, mAdv y g) := (by unfold mPer kwI; rw [if_neg (fun q => by rw [bi_t z] at q; exact q.elim h.n (by decide))]); rw [e]; exact a1), a2.1, a3⟩⟩⟩)⟩⟩⟩⟩)
theorem cou_a {y g : Int → Int} {lo hi : Int} (h : g 12 = 0) (z : ¬ g 14 = 2) : mCou y g lo hi = (0, mAmi g) := by
  have p : 0 < mAmi g 12 := by rw [(ami_12 h).1]; split <;> decide
  unfold mCou
  have e1 : mCo1 g = mAmi g := by unfold mCo1; rw [if_pos ⟨h, z⟩]
  have e2 : mCo2 (mAmi g) lo hi = mAmi g := by unfold mCo2; rw [if_neg (fun q => by omega)]
  rw [e1, e2]; unfold mCo3; rw [if_pos p]
theorem cou_b {y g : Int → Int} {lo hi : Int} (h : g 12 = 0) (z : g 14 = 2) (r : ¬ (lo ≤ g 17 ∧ g 17 ≤ hi)) : mCou y g lo hi = (0, mFail g 4 (g 15)) := by
  unfold mCou
  have e1 : mCo1 g = g := by unfold mCo1; rw [if_neg (fun q => q.2 z)]
  have e2 : mCo2 g lo hi = mFail g 4 (g 15) := by unfold mCo2; rw [if_pos ⟨h, r⟩]
  rw [e1, e2]; unfold mCo3; rw [if_pos (by rw [(fail_12 h).1]; decide)]
theorem cou_c {y g : Int → Int} {lo hi : Int} (h : g 12 = 0) (z : g 14 = 2) (r : lo ≤ g 17 ∧ g 17 ≤ hi) : mCou y g lo hi = (g 17, mAdv y g) := by
  unfold mCou
  have e1 : mCo1 g = g := by unfold mCo1; rw [if_neg (fun q => q.2 z)]
  have e2 : mCo2 g lo hi = g := by unfold mCo2; rw [if_neg (fun q => q.2 r)]
  rw [e1, e2]; unfold mCo3; rw [if_neg (by omega)]
theorem u_takeNumber {d L : Nat} {σ : Sg} {y g : Int → Int} {lo hi : Int} (h : TC y σ g) (hd : 2 ≤ d) : cI d m_X9_takeNumber [vr 17, vi lo, vi hi] (SH L) σ (fun r σ' => TO y σ' r (mCou y g lo hi).2 ∧ (r = 1 → σ' 17 5 = (mCou y g lo hi).1 ∧ lo ≤ (mCou y g lo hi).1 ∧ (mCou y g lo hi).1 ≤ hi) ∧ frTp σ σ') :=
  cI.go rfl rfl (Go.sym (cut := []) 21 ⟨rfl, ⟨fun cqz1 => ⟨rfl, ⟨fun cqz2 => ⟨⟨nb rfl, nb rfl, rfl⟩, ⟨d0 hd, nb rfl⟩, cI.det (u_trefuse) ⟨(by decide), ⟨_, rfl, rfl, ⟨Or.inr ⟨rfl, (by have z : σ 17 12 = 2 := cqz1; rw [h.1.1.2.2.2] at z; have v17 : σ 17 13 = g 17 := h.1.2.2.2.1 z; have z2 : σ 17 13 < lo := cqz2; have e : mCou y g lo hi = (0, mFail g 4 (g 15)) := cou_b h.2.2.1 z (by omega); rw [e]; exact h.fl (by decide) (by omega))⟩, (fun q => absurd q (by decide)), frTp.rf⟩⟩⟩⟩, fun cqz2 => ⟨rfl, ⟨fun cqz3 => ⟨rfl, ⟨⟨rfl, (ib rfl)⟩, ⟨⟨nb rfl, nb rfl, rfl⟩, ⟨d0 hd, nb rfl⟩, cV.bind (v_advance (σ := up σ 17 5 (σ 17 13)) (h.u (by omega)) (ds (by omega : 1 + 1 ≤ d))) (fun σ1 ⟨a1, a2, a3⟩ => ⟨(by decide), ⟨_, rfl, rfl, ⟨Or.inl ⟨rfl, (by have z : σ 17 12 = 2 := cqz1; rw [h.1.1.2.2.2] at z; have v17 : σ 17 13 = g 17 := h.1.2.2.2.1 z; have z2 : ¬ σ 17 13 < lo := cqz2; have z3 : σ 17 13 ≤ hi := cqz3; have e : mCou y g lo hi = (g 17, mAdv y g) := cou_c h.2.2.1 z (by omega); rw [e]; exact a1)⟩, (fun _ => by have z : σ 17 12 = 2 := cqz1; rw [h.1.1.2.2.2] at z; have v17 : σ 17 13 = g 17 := h.1.2.2.2.1 z; have z2 : ¬ σ 17 13 < lo := cqz2; have z3 : σ 17 13 ≤ hi := cqz3; have e : mCou y g lo hi = (g 17, mAdv y g) := cou_c h.2.2.1 z (by omega); rw [e]; show σ1 17 5 = g 17 ∧ lo ≤ g 17 ∧ g 17 ≤ hi; rw [a2.1, up_eq]; exact ⟨v17, by omega, by omega⟩), (frTp.u.tr a3)⟩⟩⟩)⟩⟩⟩, fun cqz3 => ⟨⟨nb rfl, nb rfl, rfl⟩, ⟨d0 hd, nb rfl⟩, cI.det (u_trefuse) ⟨(by decide), ⟨_, rfl, rfl, ⟨Or.inr ⟨rfl, (by have z : σ 17 12 = 2 := cqz1; rw [h.1.1.2.2.2] at z; have v17 : σ 17 13 = g 17 := h.1.2.2.2.1 z; have z2 : ¬ σ 17 13 ≤ hi := cqz3; have e : mCou y g lo hi = (0, mFail g 4 (g 15)) := cou_b h.2.2.1 z (by omega); rw [e]; exact h.fl (by decide) (by omega))⟩, (fun q => absurd q (by decide)), frTp.rf⟩⟩⟩⟩⟩⟩⟩⟩, fun cqz1 => ⟨⟨nb rfl, nb rfl, rfl⟩, ⟨d0 hd, nb rfl⟩, cI.det (u_trefuse) ⟨(by decide), ⟨_, rfl, rfl, ⟨Or.inr ⟨rfl, (by have z : ¬ σ 17 12 = 2 := cqz1; rw [h.1.1.2.2.2] at z; have e : mCou y g lo hi = (0, mAmi g) := cou_a h.2.2.1 z; rw [e]; exact h.ami)⟩, (fun q => absurd q (by decide)), frTp.rf⟩⟩⟩⟩⟩⟩)
theorem u_takeClose {d L : Nat} {σ : Sg} {y g : Int → Int} (h : TC y σ g) (hd : 2 ≤ d) : cI d m_X9_takeClose [vr 17] (SH L) σ (fun r σ' => TO y σ' r (mMust y g (sgI g)) ∧ frTp σ σ') :=
  cI.go rfl rfl (Go.sym (cut := []) 13 ⟨rfl, ⟨fun cqz1 => ⟨⟨nb rfl, nb rfl, rfl⟩, ⟨d0 hd, nb rfl⟩, cI.det (u_trefuse) ⟨(by decide), ⟨_, rfl, rfl, ⟨Or.inr ⟨rfl, (by have z0 : ¬ σ 17 12 = 3 := cqz1; rw [h.1.1.2.2.2] at z0; have e : mMust y g (sgI g) = mAmi g := (by unfold mMust sgI; rw [if_neg h.n, bi_f (by omega), if_pos rfl]); rw [e]; exact h.ami)⟩, frTp.rf⟩⟩⟩⟩, fun cqz1 => ⟨rfl, ⟨fun cqz2 => ⟨⟨nb rfl, nb rfl, rfl⟩, ⟨d0 hd, nb rfl⟩, cV.bind (v_advance h (ds (by omega : 1 + 1 ≤ d))) (fun σ1 ⟨a1, a2, a3⟩ => ⟨(by decide), ⟨_, rfl, rfl, ⟨Or.inl ⟨rfl, (by have z0 : ¬ ¬ σ 17 12 = 3 := cqz1; rw [h.1.1.2.2.2] at z0; have v := h.1.2.2.2.2 (by omega); have z1 : σ 17 13 = 59 := cqz2; have e : mMust y g (sgI g) = mAdv y g := (by unfold mMust sgI; rw [if_neg h.n, bi_t (by omega), if_neg (by decide)]); rw [e]; exact a1)⟩, a3⟩⟩⟩)⟩, fun cqz2 => ⟨⟨nb rfl, nb rfl, rfl⟩, ⟨d0 hd, nb rfl⟩, cI.det (u_trefuse) ⟨(by decide), ⟨_, rfl, rfl, ⟨Or.inr ⟨rfl, (by have z0 : ¬ ¬ σ 17 12 = 3 := cqz1; rw [h.1.1.2.2.2] at z0; have v := h.1.2.2.2.2 (by omega); have z1 : ¬ σ 17 13 = 59 := cqz2; have e : mMust y g (sgI g) = mAmi g := (by unfold mMust sgI; rw [if_neg h.n, bi_f (by omega), if_pos rfl]); rw [e]; exact h.ami)⟩, frTp.rf⟩⟩⟩⟩⟩⟩⟩⟩)
theorem u_takeCompares {d L : Nat} {σ : Sg} {y g : Int → Int} (h : TC y σ g) (hd : 2 ≤ d) : cI d m_X9_takeCompares [vr 17] (SH L) σ (fun r σ' => TO y σ' r (mMust y g (cmI g)) ∧ (r = 1 → σ' 17 6 = g 17) ∧ frTp σ σ') :=
  cI.go rfl rfl (Go.sym (cut := []) 17 ⟨rfl, ⟨fun cqz1 => ⟨⟨nb rfl, nb rfl, rfl⟩, ⟨d0 hd, nb rfl⟩, cI.det (u_trefuse) ⟨(by decide), ⟨_, rfl, rfl, ⟨Or.inr ⟨rfl, (by have z0 : ¬ σ 17 12 = 3 := cqz1; rw [h.1.1.2.2.2] at z0; have e : mMust y g (cmI g) = mAmi g := (by unfold mMust cmI; rw [if_neg h.n, bi_f (by omega), if_pos rfl]); rw [e]; exact h.ami)⟩, (fun q => absurd q (by decide)), frTp.rf⟩⟩⟩⟩, fun cqz1 => ⟨rfl, ⟨fun cqz2 => ⟨rfl, ⟨⟨rfl, (ib rfl)⟩, ⟨⟨nb rfl, nb rfl, rfl⟩, ⟨d0 hd, nb rfl⟩, cV.bind (v_advance (σ := up σ 17 6 (σ 17 13)) (h.u (by omega)) (ds (by omega : 1 + 1 ≤ d))) (fun σ1 ⟨a1, a2, a3⟩ => ⟨(by decide), ⟨_, rfl, rfl, ⟨Or.inl ⟨rfl, (by have z0 : ¬ ¬ σ 17 12 = 3 := cqz1; rw [h.1.1.2.2.2] at z0; have v := h.1.2.2.2.2 (by omega); have z1 : ¬ σ 17 13 = 59 := cqz2; have e : mMust y g (cmI g) = mAdv y g := (by unfold mMust cmI; rw [if_neg h.n, bi_t (by omega), if_neg (by decide)]); rw [e]; exact a1)⟩, (fun _ => by have z0 : ¬ ¬ σ 17 12 = 3 := cqz1; rw [h.1.1.2.2.2] at z0; have v := h.1.2.2.2.2 (by omega); have z1 : ¬ σ 17 13 = 59 := cqz2; have e : mMust y g (cmI g) = mAdv y g := (by unfold mMust cmI; rw [if_neg h.n, bi_t (by omega), if_neg (by decide)]); show σ1 17 6 = g 17; rw [a2.2, up_eq]; exact v.1), (frTp.u.tr a3)⟩⟩⟩)⟩⟩⟩, fun cqz2 => ⟨⟨nb rfl, nb rfl, rfl⟩, ⟨d0 hd, nb rfl⟩, cI.det (u_trefuse) ⟨(by decide), ⟨_, rfl, rfl, ⟨Or.inr ⟨rfl, (by have z0 : ¬ ¬ σ 17 12 = 3 := cqz1; rw [h.1.1.2.2.2] at z0; have v := h.1.2.2.2.2 (by omega); have z1 : ¬ ¬ σ 17 13 = 59 := cqz2; have e : mMust y g (cmI g) = mAmi g := (by unfold mMust cmI; rw [if_neg h.n, bi_f (by omega), if_pos rfl]); rw [e]; exact h.ami)⟩, (fun q => absurd q (by decide)), frTp.rf⟩⟩⟩⟩⟩⟩⟩⟩)
theorem u_begin {d L : Nat} {σ : Sg} {g : Int → Int} {n : Int} (hy : BY (σ 18)) (hK : KR σ) (hn : 0 ≤ n ∧ n ≤ 900) (h9 : g 9 = n) (h16 : g 16 = 0) (h12 : g 12 = 0) (hd : 2 ≤ d) : cV d m_X9_begin [vr 17, vi n] (SH L) σ (fun σ' => TC (σ 18) σ' (mAdv (σ 18) g) ∧ frTp σ σ') :=
  cV.go rfl rfl (Go.sym (cut := []) 16 ⟨⟨rfl, (ib rfl)⟩, ⟨⟨rfl, (ib rfl)⟩, ⟨⟨rfl, (ib rfl)⟩, ⟨⟨rfl, (ib rfl)⟩, ⟨⟨nb rfl, nb rfl, rfl⟩, ⟨d0 hd, nb rfl⟩, cV.bind (u_advance (σ := (up (up (up (up σ 17 9 n) 17 11 0) 17 1 0) 17 2 (-1))) (g := g) ⟨by omega, by omega⟩ (by exact hy) (by exact hK) (by show n = _; exact h9.symm) (by show 0 = _; exact h16.symm) (ds (by omega : 1 + 1 ≤ d))) (fun σ1 ⟨a1, a2, a3⟩ => ⟨rfl, rfl, ⟨⟨a1, mAdv_gi ⟨by omega, by omega⟩, (by rw [mAdv_f (by omega)]; exact h12), (by show σ1 17 1 = 0 ∧ σ1 17 2 = -1; rw [a2 1 (by omega), a2 2 (by omega)]; exact ⟨rfl, rfl⟩), (by show σ1 18 = _; rw [a3 18 (by decide)]; rfl), hy, (fun i x1 x2 => by show σ1 19 i = _; rw [a3 19 (by decide)]; exact hK i x1 x2)⟩, (fun q x => by show σ1 q = σ q; rw [a3 q x, up_row x, up_row x, up_row x, up_row x])⟩⟩)⟩⟩⟩⟩⟩)
