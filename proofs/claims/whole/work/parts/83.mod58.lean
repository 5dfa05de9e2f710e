/-! ===== the model: assembly, whole (text laid by genmod58.py) ===== -/
def pAsB (y : Int → Int) (x : Ps) : Ps := (mMust y (pPart y x).1 (bi ((pPart y x).1 14 = 3 ∧ (pPart y x).1 17 = 59)), (pPart y x).2)
def pAs (y : Int → Int) : Nat → Ps → Ps
  | 0, x => x
  | k + 1, x => if x.1 12 = 0 ∧ ¬ x.1 14 = 0 then pAs y k (pAsB y x) else x
theorem pAs_s {y : Int → Int} {k : Nat} {x : Ps} (h : x.1 12 = 0 ∧ ¬ x.1 14 = 0) : pAs y (k + 1) x = pAs y k (pAsB y x) := if_pos h
theorem pAs_o {y : Int → Int} {x : Ps} (h : ¬ (x.1 12 = 0 ∧ ¬ x.1 14 = 0)) : ∀ k, pAs y k x = x
  | 0 => rfl
  | k + 1 => if_neg h
theorem PG.asb {y : Int → Int} {x : Ps} (h : PI y x) : PG y x (pAsB y x) := by
  have p := PG.part h
  exact p.tr (PG.g p.1 (mMust_gi p.1.1) (mMust_p p.1.2.2) (Gm.must p.1.1) Gs.must)
theorem PG.as {y : Int → Int} : ∀ (k : Nat) (x : Ps), PI y x → PG y x (pAs y k x)
  | 0, _, h => PG.rfl h
  | k + 1, x, h => by
    by_cases c : x.1 12 = 0 ∧ ¬ x.1 14 = 0
    · rw [pAs_s c]; exact (PG.asb h).tr (PG.as k _ (PG.asb h).1)
    · rw [pAs_o c]; exact PG.rfl h
theorem must_16 {y g : Int → Int} {b : Int} (h : GI g) (h12 : mMust y g b 12 = 0) (h14 : ¬ mMust y g b 14 = 0) (h0 : 0 ≤ g 12) : g 16 < mMust y g b 16 := by
  unfold mMust at *
  by_cases c : 0 < g 12
  · rw [if_pos c] at h12; omega
  · rw [if_neg c] at *
    by_cases e : b = 0
    · rw [if_pos e] at h12
      exfalso
      unfold mAmi mFail at h12
      rw [if_neg c] at h12
      simp (disch := omega) only [bu_n, bu_e] at h12
      split at h12 <;> omega
    · rw [if_neg e] at *
      exact (mAdv_16 h).2 h14
theorem asb_16 {y : Int → Int} {x : Ps} (h : PI y x) (hc : (pAsB y x).1 12 = 0 ∧ ¬ (pAsB y x).1 14 = 0) : x.1 16 < (pAsB y x).1 16 := by
  have p := PG.part h
  have h1 := must_16 (y := y) (b := bi ((pPart y x).1 14 = 3 ∧ (pPart y x).1 17 = 59)) p.1.1 hc.1 hc.2 p.1.2.2
  have h2 := p.2.1.2
  show x.1 16 < mMust y (pPart y x).1 _ 16
  omega
theorem t_asm_l {d L : Nat} {σ : Sg} {n : Int} {Q : Option MV → MH → Prop} (hy : BY (σ 186)) (hd : 8 ≤ d) : ∀ (k : Nat) (x : Ps), PI (σ 186) x → ((x.1 12 = 0 ∧ ¬ x.1 14 = 0) → x.1 9 - x.1 16 < k) → Go d k_X12_assembly 33 [vr 182, vi n] [] (SH L, stP σ (pAs (σ 186) k x)) Q → Go d k_X12_assembly 19 [vr 182, vi n] [] (SH L, stP σ x) Q := by
  intro k
  induction k using Nat.strongRecOn with
  | ind k ih =>
    intro x hp hm K
    exact Go.sym (cut := [19, 33]) 15 ⟨rfl, ⟨fun c1 => (Go.toh rfl rfl (he (by rw [pAs_o (show ¬ (x.1 12 = 0 ∧ ¬ x.1 14 = 0) by (try clear ih) <;> (try clear hV) <;> (try clear K) <;> (try clear KS) <;> (try simp only [stP_2, stP_7, stP_0, stP_o, stP_u, stP_c, stP_w, stP_s, icond, nc, bi0, bi1, bin0, bin1, ne_eq, Decidable.not_not] at *) <;> (try simp (disch := omega) only [stP_2, stP_7, stP_0, stP_o, stP_u, stP_c, stP_w, stP_s, icond, q32_in, srM, srN, jc_lt, jc_gt, jc_le, jc_ge, jc_eq, bi0, bi1, bin0, bin1, List.headD_cons, ne_eq, Decidable.not_not, fin01, nc, not_true_eq_false, not_false_eq_true, false_and, and_false, true_and, and_true, false_or, or_false, sr_sr, sr_e, sr_n, bu_n, bu_e, sr_id, up_sr, shn] at *) <;> (try simp (disch := omega) only [stP_2, stP_7, stP_0, stP_o, stP_u, stP_c, stP_w, stP_s, q32_in, bu_n, bu_e] at *) <;> omega)])) K), fun c1 => ⟨rfl, ⟨fun c2 => (Go.toh rfl rfl (he (by rw [pAs_o (show ¬ (x.1 12 = 0 ∧ ¬ x.1 14 = 0) by (try clear ih) <;> (try clear hV) <;> (try clear K) <;> (try clear KS) <;> (try simp only [stP_2, stP_7, stP_0, stP_o, stP_u, stP_c, stP_w, stP_s, icond, nc, bi0, bi1, bin0, bin1, ne_eq, Decidable.not_not] at *) <;> (try simp (disch := omega) only [stP_2, stP_7, stP_0, stP_o, stP_u, stP_c, stP_w, stP_s, icond, q32_in, srM, srN, jc_lt, jc_gt, jc_le, jc_ge, jc_eq, bi0, bi1, bin0, bin1, List.headD_cons, ne_eq, Decidable.not_not, fin01, nc, not_true_eq_false, not_false_eq_true, false_and, and_false, true_and, and_true, false_or, or_false, sr_sr, sr_e, sr_n, bu_n, bu_e, sr_id, up_sr, shn] at *) <;> (try simp (disch := omega) only [stP_2, stP_7, stP_0, stP_o, stP_u, stP_c, stP_w, stP_s, q32_in, bu_n, bu_e] at *) <;> omega)])) K), fun c2 => ⟨⟨nb rfl, nb rfl, rfl⟩, ⟨d0 hd, nb rfl⟩, cV.det (t_readPart hp hy (ds (by omega : 7 + 1 ≤ d))) ⟨⟨nb rfl, nb rfl, rfl⟩, ⟨d0 hd, nb rfl⟩, cI.det (t_isSign) ⟨⟨nb rfl, nb rfl, rfl⟩, ⟨d0 hd, nb rfl⟩, cV.det (t_must (by rw [stP_2]; exact (PG.part hp).1.1) (by rw [stP_o (by decide) (by decide) (by decide)]; exact hy) (ds (by omega : 2 + 1 ≤ d))) ((by have hc : (x.1 12 = 0 ∧ ¬ x.1 14 = 0) := (by (try clear ih) <;> (try clear hV) <;> (try clear K) <;> (try clear KS) <;> (try simp only [stP_2, stP_7, stP_0, stP_o, stP_u, stP_c, stP_w, stP_s, icond, nc, bi0, bi1, bin0, bin1, ne_eq, Decidable.not_not] at *) <;> (try simp (disch := omega) only [stP_2, stP_7, stP_0, stP_o, stP_u, stP_c, stP_w, stP_s, icond, q32_in, srM, srN, jc_lt, jc_gt, jc_le, jc_ge, jc_eq, bi0, bi1, bin0, bin1, List.headD_cons, ne_eq, Decidable.not_not, fin01, nc, not_true_eq_false, not_false_eq_true, false_and, and_false, true_and, and_true, false_or, or_false, sr_sr, sr_e, sr_n, bu_n, bu_e, sr_id, up_sr, shn] at *) <;> (try simp (disch := omega) only [stP_2, stP_7, stP_0, stP_o, stP_u, stP_c, stP_w, stP_s, q32_in, bu_n, bu_e] at *) <;> omega); obtain ⟨k', hk'⟩ : ∃ k', k = k' + 1 := ⟨k - 1, by have := hm hc; have := hp.1; unfold GI at this; omega⟩; subst hk'; rw [pAs_s hc] at K; exact Go.toh rfl rfl (he (by unfold pAsB; simp (disch := omega) only [nc, srM, srN, up_sr, sr_sr, sr_e, sr_n, stP_2, stP_7, stP_0, stP_o, stP_u, stP_c, stP_w, stP_s])) (ih k' (by omega) (pAsB (σ 186) x) (PG.asb hp).1 (fun hc' => by have h1 := asb_16 hp hc'; have h2 := (PG.asb hp).2.1.1 9 (by omega); have := hm hc; omega) K)))⟩⟩⟩⟩⟩⟩⟩
def pAsT (x : Ps) : Int × Ps := if x.1 12 = 0 then (x.2.1 1593, gWl x.1, cpb 398 1592 0 x.2.1, cpb 40 160 0 x.2.2) else (-1, gWl x.1, x.2)
theorem t_asm_t {d L : Nat} {σ : Sg} {n : Int} {x : Ps} (hd : 8 ≤ d) : Go d k_X12_assembly 33 [vr 182, vi n] [] (SH L, stP σ x) (fun v h' => ∃ r, v = some (vi r) ∧ h'.1 = SH L ∧ r = (pAsT x).1 ∧ h'.2 = stP σ (pAsT x).2) := by
  exact Go.sym (cut := []) 13 ⟨⟨nb rfl, nb rfl, rfl⟩, ⟨d0 hd, nb rfl⟩, cI.det (t_isWell (ds (by omega : 1 + 1 ≤ d))) ⟨fun c1 => ⟨⟨nb rfl, nb rfl, rfl⟩, ⟨d0 hd, nb rfl⟩, cV.det (t_copy (by decide) (by decide) (by decide)) ⟨rfl, ⟨⟨rfl, (il rfl), (ib rfl)⟩, ⟨_, rfl, rfl, (by unfold pAsT; (try clear ih) <;> (try clear hV) <;> (try clear K) <;> (try clear KS) <;> (try simp only [stP_2, stP_7, stP_0, stP_o, stP_u, stP_c, stP_w, stP_s, icond, nc, bi0, bi1, bin0, bin1, ne_eq, Decidable.not_not] at *) <;> (try simp (disch := omega) only [stP_2, stP_7, stP_0, stP_o, stP_u, stP_c, stP_w, stP_s, icond, q32_in, srM, srN, jc_lt, jc_gt, jc_le, jc_ge, jc_eq, bi0, bi1, bin0, bin1, List.headD_cons, ne_eq, Decidable.not_not, fin01, nc, not_true_eq_false, not_false_eq_true, false_and, and_false, true_and, and_true, false_or, or_false, sr_sr, sr_e, sr_n, bu_n, bu_e, sr_id, up_sr, shn] at *) <;> (try simp (disch := omega) only [stP_2, stP_7, stP_0, stP_o, stP_u, stP_c, stP_w, stP_s, q32_in, bu_n, bu_e] at *) <;> (try simp (disch := omega) only [if_pos, if_neg, and_self, and_true, true_and]) <;> first | done | rfl | (exfalso; omega) | exact ⟨rfl, rfl⟩)⟩⟩⟩⟩, fun c1 => ⟨_, rfl, rfl, (by unfold pAsT; (try clear ih) <;> (try clear hV) <;> (try clear K) <;> (try clear KS) <;> (try simp only [stP_2, stP_7, stP_0, stP_o, stP_u, stP_c, stP_w, stP_s, icond, nc, bi0, bi1, bin0, bin1, ne_eq, Decidable.not_not] at *) <;> (try simp (disch := omega) only [stP_2, stP_7, stP_0, stP_o, stP_u, stP_c, stP_w, stP_s, icond, q32_in, srM, srN, jc_lt, jc_gt, jc_le, jc_ge, jc_eq, bi0, bi1, bin0, bin1, List.headD_cons, ne_eq, Decidable.not_not, fin01, nc, not_true_eq_false, not_false_eq_true, false_and, and_false, true_and, and_true, false_or, or_false, sr_sr, sr_e, sr_n, bu_n, bu_e, sr_id, up_sr, shn] at *) <;> (try simp (disch := omega) only [stP_2, stP_7, stP_0, stP_o, stP_u, stP_c, stP_w, stP_s, q32_in, bu_n, bu_e] at *) <;> (try simp (disch := omega) only [if_pos, if_neg, and_self, and_true, true_and]) <;> first | done | rfl | (exfalso; omega) | exact ⟨rfl, rfl⟩)⟩⟩⟩
def gZ (g : Int → Int) : Int → Int := bu (bu g 1 0) 0 0
def pAs0 (y g c x : Int → Int) (n : Int) : Ps := (bu (gSt y (gZ g) n) 25 0, eBm 1592 10 c, x)
def g_asm (y g c x : Int → Int) (n : Int) : Int × Ps := if n < 0 ∨ g 8 < n ∨ 900 < n then (-1, bu (gZ g) 0 5, c, x) else pAsT (pAs y 1000 (pAs0 y g c x n))
theorem gSt_gi {y g : Int → Int} {n : Int} (h : 0 ≤ n ∧ n ≤ 900) : GI (gSt y g n) ∧ gSt y g n 12 = 0 := by
  constructor
  · apply mAdv_gi; unfold GI; simp (disch := omega) only [bu_n, bu_e]; omega
  · unfold gSt; rw [mAdv_f (by omega), bu_e rfl]
theorem eBm_ci {o : Int} {c : Int → Int} (h : o = 1592) : CI (eBm o 10 c) := by
  subst h
  refine ⟨?_, ?_, ?_, ?_⟩ <;> (unfold eBm; rw [if_pos (by decide)]; decide)
theorem pAs0_i {y g c x : Int → Int} {n : Int} (h : 0 ≤ n ∧ n ≤ 900) : PI y (pAs0 y g c x n) := ⟨bu25_gi (gSt_gi h).1 (Or.inl rfl), eBm_ci rfl, by show 0 ≤ bu (gSt y (gZ g) n) 25 0 12; rw [bu_n (by omega), (gSt_gi h).2]; decide⟩
theorem t_starts_n {d L : Nat} {σ : Sg} {n m : Int} (hm : m ≤ 900) (hy : BY (σ 186)) (h : n < 0 ∨ σ 182 8 < n ∨ m < n) (hd : 2 ≤ d) : cI d m_X12_starts [vr 182, vi n, vi m] (SH L) σ (fun r σ' => r = 0 ∧ σ' = sr σ 182 (bu (σ 182) 0 5)) := (t_starts hm hy hd).mono (fun r σ' q => by rw [if_pos h] at q; exact ⟨congrArg Prod.fst q, congrArg Prod.snd q⟩)
theorem t_starts_y {d L : Nat} {σ : Sg} {n m : Int} (hm : m ≤ 900) (hy : BY (σ 186)) (h : ¬ (n < 0 ∨ σ 182 8 < n ∨ m < n)) (hd : 2 ≤ d) : cI d m_X12_starts [vr 182, vi n, vi m] (SH L) σ (fun r σ' => r = 1 ∧ σ' = sr σ 182 (gSt (σ 186) (σ 182) n)) := (t_starts hm hy hd).mono (fun r σ' q => by rw [if_neg h] at q; exact ⟨congrArg Prod.fst q, congrArg Prod.snd q⟩)
theorem stP_e {σ : Sg} {g c x : Int → Int} (h1 : c = σ 187) (h2 : x = σ 190) : sr σ 182 g = stP σ (g, c, x) := by subst h1 h2; rw [← stP_u (x := (σ 182, σ 187, σ 190)), stP_id]
theorem t_assembly_n {d L : Nat} {σ : Sg} {n : Int} (h : n < 0 ∨ σ 182 8 < n ∨ 900 < n) (hy : BY (σ 186)) (hd : 9 ≤ d) : cI d m_X12_assembly [vr 182, vi n] (SH L) σ (fun r σ' => r = (g_asm (σ 186) (σ 182) (σ 187) (σ 190) n).1 ∧ σ' = stP σ (g_asm (σ 186) (σ 182) (σ 187) (σ 190) n).2) :=
  cI.go rfl rfl (Go.sym (cut := [13]) 14 ⟨⟨rfl, (ib rfl)⟩, ⟨⟨rfl, (ib rfl)⟩, ⟨⟨nb rfl, nb rfl, rfl⟩, ⟨d0 hd, nb rfl⟩, cI.det (t_starts_n (by decide) (by exact hy) (by exact h) (ds (by omega : 2 + 1 ≤ d))) ⟨fun c1 => (by exfalso; revert c1; simp only [icond]; decide), fun c1 => ⟨_, rfl, rfl, (by unfold g_asm gZ; rw [if_pos h]; simp (disch := omega) only [nc, up_sr, sr_sr, sr_e]; exact ⟨by first | trivial | rfl, stP_e rfl rfl⟩)⟩⟩⟩⟩⟩)
theorem t_assembly_y {d L : Nat} {σ : Sg} {n : Int} (h : ¬ (n < 0 ∨ σ 182 8 < n ∨ 900 < n)) (hy : BY (σ 186)) (hd : 9 ≤ d) : cI d m_X12_assembly [vr 182, vi n] (SH L) σ (fun r σ' => r = (g_asm (σ 186) (σ 182) (σ 187) (σ 190) n).1 ∧ σ' = stP σ (g_asm (σ 186) (σ 182) (σ 187) (σ 190) n).2) :=
  cI.go rfl rfl (Go.sym (cut := [19]) 18 ⟨⟨rfl, (ib rfl)⟩, ⟨⟨rfl, (ib rfl)⟩, ⟨⟨nb rfl, nb rfl, rfl⟩, ⟨d0 hd, nb rfl⟩, cI.det (t_starts_y (by decide) (by exact hy) (by exact h) (ds (by omega : 2 + 1 ≤ d))) ⟨fun c1 => ⟨⟨nb rfl, nb rfl, rfl⟩, ⟨d0 hd, nb rfl⟩, cV.det (t_empties (by decide)) ⟨⟨rfl, (ib rfl)⟩, ((by have hn : 0 ≤ n ∧ n ≤ 900 := (by omega); refine Go.toh (ls' := [vr 182, vi n]) (st' := []) (h' := (SH L, stP σ (pAs0 (σ 186) (σ 182) (σ 187) (σ 190) n))) rfl rfl (he (by unfold pAs0 gZ; simp (disch := omega) only [nc, srM, srN, up_sr, sr_sr, sr_e, sr_n]; rw [stP_e (σ := σ) rfl rfl]; simp (disch := omega) only [stP_u, stP_c, stP_2, stP_7, sr_e, sr_n, stP_o] <;> rfl)) ((t_asm_l hy (by omega) 1000 _ (pAs0_i hn) (fun _ => by have := (pAs0_i (y := σ 186) (g := σ 182) (c := σ 187) (x := σ 190) hn).1; unfold GI at this; omega) (t_asm_t (by omega))).mono (fun v h' ⟨r, q1, q2, q3, q4⟩ => ⟨r, q1, q2, by rw [q3]; unfold g_asm; rw [if_neg h], by rw [q4]; unfold g_asm; rw [if_neg h]⟩))))⟩⟩, fun c1 => (by exfalso; revert c1; simp only [icond]; decide)⟩⟩⟩⟩)
theorem t_assembly {d L : Nat} {σ : Sg} {n : Int} (hy : BY (σ 186)) (hd : 9 ≤ d) : cI d m_X12_assembly [vr 182, vi n] (SH L) σ (fun r σ' => r = (g_asm (σ 186) (σ 182) (σ 187) (σ 190) n).1 ∧ σ' = stP σ (g_asm (σ 186) (σ 182) (σ 187) (σ 190) n).2) := by
  by_cases h : n < 0 ∨ σ 182 8 < n ∨ 900 < n
  · exact t_assembly_n h hy hd
  · exact t_assembly_y h hy hd
