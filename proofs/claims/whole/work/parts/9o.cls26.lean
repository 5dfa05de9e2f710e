/-! ===== the class: TRAY coupled, the counts copied (text laid by gencls26.py) ===== -/
theorem g_tray_y {s y n : Int → Int} {t k m : Int} (h : (0 ≤ t ∧ t < 4 ∧ 0 ≤ k ∧ k ≤ 3) ∧ 0 ≤ m ∧ m ≤ 60) : (g_tray s y n t k m).2 = (bu s t k, bu y t m, zrw m (60 * t) n) := by
  unfold g_tray; rw [if_pos h.1, if_neg (by omega), if_neg (by omega)]
theorem g_tray_n {s y n : Int → Int} {t k m : Int} (h : ¬ ((0 ≤ t ∧ t < 4 ∧ 0 ≤ k ∧ k ≤ 3) ∧ 0 ≤ m ∧ m ≤ 60)) : (g_tray s y n t k m).2 = (s, y, n) := by
  unfold g_tray
  by_cases a : 0 ≤ t ∧ t < 4 ∧ 0 ≤ k ∧ k ≤ 3
  · rw [if_pos a]
    by_cases c : 60 < m
    · rw [if_pos c]
    · rw [if_neg c, if_pos (by omega)]
  · rw [if_neg a]
theorem Trs.ly {σ : Sg} {s y n : Int → Int} {t k m : Int} (h : Trs σ s y n) (ht : 0 ≤ t ∧ t < 4) (hk : 0 ≤ k ∧ k ≤ 3) (hm : 0 ≤ m ∧ m ≤ 60) : Trs (sr (sr σ (9 + 2 * t) (bu (bu (σ (9 + 2 * t)) 0 k) 1 m)) (10 + 2 * t) (r10 60 (fun _ => 0) (σ (10 + 2 * t)))) (bu s t k) (bu y t m) (zrw m (60 * t) n) := fun u a b => by
  by_cases e : u = t
  · subst e
    rw [sr_n (show (9 : Int) + 2 * u ≠ 10 + 2 * u by omega), sr_e rfl, sr_e rfl, bu_e rfl, bu_e rfl]
    refine ⟨Or.inr ⟨by rw [bu_n (by decide), bu_e rfl], bu_e rfl, hk.1, hk.2, hm.1, hm.2⟩, fun j j1 j2 => ?_⟩
    rw [r10_in (by omega)]; unfold zrw; rw [if_pos (by omega)]
  · rw [sr_n (show (9 : Int) + 2 * u ≠ 10 + 2 * t by omega), sr_n (show (9 : Int) + 2 * u ≠ 9 + 2 * t by omega), sr_n (show (10 : Int) + 2 * u ≠ 10 + 2 * t by omega), sr_n (show (10 : Int) + 2 * u ≠ 9 + 2 * t by omega), bu_n e, bu_n e]
    have q := h u a b
    refine ⟨q.1, fun j j1 j2 => ?_⟩
    have y1 : y u ≤ 60 := by have := q.1; omega
    unfold zrw; rw [if_neg (by omega)]; exact q.2 j j1 j2
theorem u_tray {d L : Nat} {σ : Sg} {t k m : Int} {s y n : Int → Int} (hT : Trs σ s y n) (hd : 2 ≤ d) : cI d m_X11_tray [vr 7, vi t, vi k, vi m] (SH L) σ (fun r σ' => (r, σ' 7 0) = (g_tray s y n t k m).1 ∧ Trs σ' (g_tray s y n t k m).2.1 (g_tray s y n t k m).2.2.1 (g_tray s y n t k m).2.2.2 ∧ frTr σ σ') := by
  refine (tr_4 (P := fun t => cI d m_X11_tray [vr 7, vi t, vi k, vi m] (SH L) σ (fun r σ' => (r, σ' 7 0) = (g_tray s y n t k m).1 ∧ lTr σ σ' t k m)) (u_tray0 hd) (u_tray1 hd) (u_tray2 hd) (u_tray3 hd) (fun _ ht => u_tray_o ht hd) t).mono (fun r σ' ⟨e1, e2⟩ => ⟨e1, ?_⟩)
  unfold lTr at e2
  by_cases h : (0 ≤ t ∧ t < 4 ∧ 0 ≤ k ∧ k ≤ 3) ∧ 0 ≤ m ∧ m ≤ 60
  · rw [if_pos h] at e2
    rw [g_tray_y h, e2]
    refine ⟨(hT.ly ⟨h.1.1, h.1.2.1⟩ h.1.2.2 h.2).st, fun a j x _ z => ?_⟩
    unfold up; rw [if_neg z, sr_n (by omega), sr_n (by omega)]
  · rw [if_neg h] at e2
    obtain ⟨z, e2⟩ := e2
    rw [g_tray_n h, e2]
    exact ⟨hT.st, fun a j _ _ z => by unfold up; rw [if_neg z]⟩
