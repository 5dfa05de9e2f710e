/-! ===== the class: what PARTS change in the draft (text laid by gencls64.py) ===== -/
theorem new_f {y g c v : Int → Int} {s n : Int} (h12 : g 12 = 0) (hn : c (1592 + s) = n) : (mNew y g c v s n).2.1 = mFail g 6 (g 15) := by
  have e0 : mNw0 g (c (1592 + s)) n = mFail g 6 (g 15) := by unfold mNw0; rw [if_pos hn]
  unfold mNew; rw [e0, if_pos (by rw [(fail_12 h12).1]; decide)]
theorem Nms.n {σ σ' : Sg} {b b' x x' : Int → Int} (h : Nms σ 48 b x) (h0 : ∀ k, 0 ≤ k → k < b' 0 → σ' 51 k = x' k) (h1 : ∀ k, 0 ≤ k → k < b' 1 → σ' (66 + k) 0 = x' (10 + k)) (h2 : ∀ k, 0 ≤ k → k < b' 2 → σ' 53 k = x' (20 + k)) (h3 : ∀ k, 0 ≤ k → k < b' 3 → σ' 56 k = x' (30 + k)) : Nms σ' 48 b' x' := ⟨h0, h1, h2, h3⟩
theorem PD.pty {σ σ' : Sg} {x : Ps} {g : Int → Int} {p nm : Int} (h : PD σ x) (hp : p = x.2.1 1592) (h4 : p < 4) (e48 : σ' 48 = bu (σ 48) 3 (p + 1)) (e51 : σ' 51 = bu (σ 51) p nm) (eo : ∀ q, 49 ≤ q → q ≤ 75 → q ≠ 51 → σ' q = σ q) (e2 : σ' 168 2 = g 25) : PD σ' (g, bu x.2.1 1592 (p + 1), bu x.2.2 (160 + p) nm) := by
  obtain ⟨⟨d1, d2, d3⟩, _, h3, hz⟩ := h
  have hp : p = bk x.2.1 0 := hp
  have e : bk (bu x.2.1 1592 (p + 1)) = bu (bk x.2.1) 0 (p + 1) := bk_b (by omega)
  have f : wk (bu x.2.2 (160 + p) nm) = bu (wk x.2.2) p nm := wk_b rfl
  have kb : ∀ j, j ≠ 0 → bu (bk x.2.1) 0 (p + 1) j = bk x.2.1 j := fun j q => bu_n q
  have k0 : bu (bk x.2.1) 0 (p + 1) 0 = p + 1 := bu_e rfl
  have hp0 := d3.1.1
  refine ⟨⟨?_, ?_, ?_⟩, e2, ?_, ?_⟩ <;> dsimp only
  · rw [e]
    obtain ⟨a1, a2, a3, a4, a5, a6⟩ := d1
    refine ⟨?_, ?_, ⟨fun j x y => ?_, ?_⟩, fun m' x y => ?_, fun k x y => ?_, fun r x y => ?_⟩
    · rw [e48, k0, kb _ (by omega), kb _ (by omega), kb _ (by omega), kb _ (by omega), bu_e rfl, bu_n (by decide), bu_n (by decide), bu_n (by decide), bu_n (by decide)]
      exact ⟨rfl, a1.2⟩
    · rw [eo _ (by omega) (by omega) (by omega), kb _ (by omega), kb _ (by omega), kb _ (by omega), kb _ (by omega)]; exact a2
    · rw [eo _ (by omega) (by omega) (by omega), kb _ (by omega)]; exact a3.1 j x y
    · rw [eo _ (by omega) (by omega) (by omega), kb _ (by omega)]; exact a3.2
    · rw [kb 1 (by omega)] at y
      have w1 := d3.2.1
      have q := a4 m' x y
      rw [eo _ (by omega) (by omega) (by omega)]
      unfold AsmM at *
      rw [kb _ (by omega), kb _ (by omega), kb _ (by omega), kb _ (by omega), kb _ (by omega), kb _ (by omega), kb _ (by omega), kb _ (by omega), kb _ (by omega)]; exact q
    · rw [kb 2 (by omega)] at y
      rw [eo _ (by omega) (by omega) (by omega), eo _ (by omega) (by omega) (by omega), kb _ (by omega), kb _ (by omega)]; exact a5 k x y
    · rw [kb 3 (by omega)] at y
      rw [eo _ (by omega) (by omega) (by omega), eo _ (by omega) (by omega) (by omega), kb _ (by omega), kb _ (by omega)]; exact a6 r x y
  · rw [e, f]
    refine d2.n (fun k x1 x2 => ?_) (fun k x1 x2 => ?_) (fun k x1 x2 => ?_) (fun k x1 x2 => ?_)
    · rw [k0] at x2; rw [e51]
      by_cases q : k = p
      · rw [bu_e q, bu_e q]
      · rw [bu_n q, bu_n q]; exact d2.1 k x1 (by omega)
    · rw [kb 1 (by omega)] at x2
      have w1 := d3.2.1
      rw [eo _ (by omega) (by omega) (by omega), bu_n (by omega)]; exact d2.2.1 k x1 x2
    · rw [kb 2 (by omega)] at x2
      rw [eo _ (by omega) (by omega) (by omega), bu_n (by omega)]; exact d2.2.2.1 k x1 x2
    · rw [kb 3 (by omega)] at x2
      rw [eo _ (by omega) (by omega) (by omega), bu_n (by omega)]; exact d2.2.2.2 k x1 x2
  · rw [e]
    obtain ⟨w0, w1, w2, w3, w4, w5, w6, w7, w8, w9, wm, wk, wr⟩ := d3
    refine ⟨?_, ?_, ?_, ?_, ?_, ?_, ?_, ?_, ?_, fun j x1 x2 => ?_, fun m x1 x2 => ?_, fun k x1 x2 => ?_, fun r x1 x2 => ?_⟩
    · rw [k0]; omega
    · rw [kb _ (by omega)]; exact w1
    · rw [kb _ (by omega)]; exact w2
    · rw [kb _ (by omega)]; exact w3
    · rw [kb _ (by omega)]; exact w4
    · rw [kb _ (by omega)]; exact w5
    · rw [kb _ (by omega)]; exact w6
    · rw [kb _ (by omega)]; exact w7
    · rw [kb _ (by omega)]; exact w8
    · rw [kb _ (by omega), kb _ (by omega)]; exact w9 j x1 x2
    · rw [kb 1 (by omega)] at x2
      have q := wm m x1 x2
      unfold WM at *
      rw [k0, kb _ (by omega), kb _ (by omega), kb _ (by omega), kb _ (by omega), kb _ (by omega), kb _ (by omega), kb _ (by omega), kb _ (by omega), kb _ (by omega), kb _ (by omega)]; omega
    · rw [kb 2 (by omega)] at x2
      rw [kb _ (by omega), kb _ (by omega)]; exact wk k x1 x2
    · rw [kb 3 (by omega)] at x2
      rw [kb _ (by omega), kb _ (by omega)]; exact wr r x1 x2
  · rw [e]; intro m x1 x2; rw [kb 1 (by omega)] at x1
    have w1 := d3.2.1
    rw [kb _ (by omega), kb _ (by omega), kb _ (by omega), kb _ (by omega), kb _ (by omega), kb _ (by omega), kb _ (by omega)]; exact h3 m x1 x2
  · rw [eo 59 (by decide) (by decide) (by decide), e, kb _ (by omega), kb _ (by omega)]; exact hz
theorem PD.mot {σ σ' : Sg} {x : Ps} {g : Int → Int} {p nm s t : Int} (h : PD σ x) (hp : p = x.2.1 1594) (h4 : p < 5) (hst : (0 ≤ s ∧ s < 16) ∧ (0 ≤ t ∧ t < 16)) (e48 : σ' 48 = bu (σ 48) 5 (p + 1)) (eN : σ' 53 = bu (σ 53) p nm) (e1 : σ' 54 = bu (σ 54) p s) (e2 : σ' 55 = bu (σ 55) p t) (eo : ∀ q, 49 ≤ q → q ≤ 75 → q ≠ 53 → q ≠ 54 → q ≠ 55 → σ' q = σ q) (e9 : σ' 168 2 = g 25) : PD σ' (g, bu (bu (bu x.2.1 (1592 + 104 + p) s) (1592 + 109 + p) t) 1594 (p + 1), bu x.2.2 (160 + 20 + p) nm) := by
  obtain ⟨⟨d1, d2, d3⟩, _, h3, hz⟩ := h
  have hp : p = bk x.2.1 2 := hp
  have e : bk (bu (bu (bu x.2.1 (1592 + 104 + p) s) (1592 + 109 + p) t) 1594 (p + 1)) = bu (bu (bu (bk x.2.1) (104 + p) s) (109 + p) t) 2 (p + 1) := by rw [bk_b (j := 2) (by omega), bk_b (j := 109 + p) (by omega), bk_b (j := 104 + p) (by omega)]
  have f : wk (bu x.2.2 (160 + 20 + p) nm) = bu (wk x.2.2) (20 + p) nm := wk_b (by omega)
  have hp0 : 0 ≤ p := by have := d3.2.2.1; omega
  have w1 := d3.2.1
  have kb : ∀ j, j ≠ 2 → j ≠ 104 + p → j ≠ 109 + p → bu (bu (bu (bk x.2.1) (104 + p) s) (109 + p) t) 2 (p + 1) j = bk x.2.1 j := fun j q1 q2 q3 => by rw [bu_n q1, bu_n q3, bu_n q2]
  have k0 : bu (bu (bu (bk x.2.1) (104 + p) s) (109 + p) t) 2 (p + 1) 2 = p + 1 := bu_e rfl
  have k1 : bu (bu (bu (bk x.2.1) (104 + p) s) (109 + p) t) 2 (p + 1) (104 + p) = s := by rw [bu_n (by omega), bu_n (by omega), bu_e rfl]
  have k2 : bu (bu (bu (bk x.2.1) (104 + p) s) (109 + p) t) 2 (p + 1) (109 + p) = t := by rw [bu_n (by omega), bu_e rfl]
  refine ⟨⟨?_, ?_, ?_⟩, e9, ?_, ?_⟩ <;> dsimp only
  · rw [e]
    obtain ⟨a1, a2, a3, a4, a5, a6⟩ := d1
    refine ⟨?_, ?_, ⟨fun j x y => ?_, ?_⟩, fun m' x y => ?_, fun k x y => ?_, fun r x y => ?_⟩
    · rw [e48, k0, kb _ (by omega) (by omega) (by omega), kb _ (by omega) (by omega) (by omega), kb _ (by omega) (by omega) (by omega), kb _ (by omega) (by omega) (by omega), bu_e rfl, bu_n (by decide), bu_n (by decide), bu_n (by decide), bu_n (by decide)]
      exact ⟨a1.1, a1.2.1, rfl, a1.2.2.2.1, a1.2.2.2.2⟩
    · rw [eo _ (by omega) (by omega) (by omega) (by omega) (by omega), kb _ (by omega) (by omega) (by omega), kb _ (by omega) (by omega) (by omega), kb _ (by omega) (by omega) (by omega), kb _ (by omega) (by omega) (by omega)]; exact a2
    · rw [eo _ (by omega) (by omega) (by omega) (by omega) (by omega), kb _ (by omega) (by omega) (by omega)]; exact a3.1 j x y
    · rw [eo _ (by omega) (by omega) (by omega) (by omega) (by omega), kb _ (by omega) (by omega) (by omega)]; exact a3.2
    · rw [kb 1 (by omega) (by omega) (by omega)] at y
      have q := a4 m' x y
      rw [eo _ (by omega) (by omega) (by omega) (by omega) (by omega)]
      unfold AsmM at *
      rw [kb _ (by omega) (by omega) (by omega), kb _ (by omega) (by omega) (by omega), kb _ (by omega) (by omega) (by omega), kb _ (by omega) (by omega) (by omega), kb _ (by omega) (by omega) (by omega), kb _ (by omega) (by omega) (by omega), kb _ (by omega) (by omega) (by omega), kb _ (by omega) (by omega) (by omega), kb _ (by omega) (by omega) (by omega)]; exact q
    · rw [k0] at y
      show σ' 54 k = _ ∧ σ' 55 k = _
      rw [e1, e2]
      by_cases q : k = p
      · subst q; rw [bu_e rfl, bu_e rfl, k1, k2]; exact ⟨rfl, rfl⟩
      · rw [bu_n q, bu_n q, kb _ (by omega) (by omega) (by omega), kb _ (by omega) (by omega) (by omega)]; exact a5 k x (by omega)
    · rw [kb 3 (by omega) (by omega) (by omega)] at y
      have w3 := d3.2.2.2.1
      rw [eo _ (by omega) (by omega) (by omega) (by omega) (by omega), eo _ (by omega) (by omega) (by omega) (by omega) (by omega), kb _ (by omega) (by omega) (by omega), kb _ (by omega) (by omega) (by omega)]; exact a6 r x y
  · rw [e, f]
    refine d2.n (fun k x1 x2 => ?_) (fun k x1 x2 => ?_) (fun k x1 x2 => ?_) (fun k x1 x2 => ?_)
    · rw [kb 0 (by omega) (by omega) (by omega)] at x2
      have w0 := d3.1
      rw [eo _ (by omega) (by omega) (by omega) (by omega) (by omega), bu_n (by omega)]; exact d2.1 k x1 x2
    · rw [kb 1 (by omega) (by omega) (by omega)] at x2
      rw [eo _ (by omega) (by omega) (by omega) (by omega) (by omega), bu_n (by omega)]; exact d2.2.1 k x1 x2
    · rw [k0] at x2; rw [eN]
      by_cases q : k = p
      · rw [bu_e q, bu_e (by omega)]
      · rw [bu_n q, bu_n (by omega)]; exact d2.2.2.1 k x1 (by omega)
    · rw [kb 3 (by omega) (by omega) (by omega)] at x2
      rw [eo _ (by omega) (by omega) (by omega) (by omega) (by omega), bu_n (by omega)]; exact d2.2.2.2 k x1 x2
  · rw [e]
    obtain ⟨w0, w1, w2, w3, w4, w5, w6, w7, w8, w9, wm, wk, wr⟩ := d3
    refine ⟨?_, ?_, ?_, ?_, ?_, ?_, ?_, ?_, ?_, fun j x1 x2 => ?_, fun m x1 x2 => ?_, fun k x1 x2 => ?_, fun r x1 x2 => ?_⟩
    · rw [kb _ (by omega) (by omega) (by omega)]; exact w0
    · rw [kb _ (by omega) (by omega) (by omega)]; exact w1
    · rw [k0]; omega
    · rw [kb _ (by omega) (by omega) (by omega)]; exact w3
    · rw [kb _ (by omega) (by omega) (by omega)]; exact w4
    · rw [kb _ (by omega) (by omega) (by omega)]; exact w5
    · rw [kb _ (by omega) (by omega) (by omega)]; exact w6
    · rw [kb _ (by omega) (by omega) (by omega)]; exact w7
    · rw [kb _ (by omega) (by omega) (by omega)]; exact w8
    · rw [kb _ (by omega) (by omega) (by omega), kb _ (by omega) (by omega) (by omega)]; exact w9 j x1 x2
    · rw [kb 1 (by omega) (by omega) (by omega)] at x2
      have q := wm m x1 x2
      unfold WM at *
      rw [kb _ (by omega) (by omega) (by omega), kb _ (by omega) (by omega) (by omega), kb _ (by omega) (by omega) (by omega), kb _ (by omega) (by omega) (by omega), kb _ (by omega) (by omega) (by omega), kb _ (by omega) (by omega) (by omega), kb _ (by omega) (by omega) (by omega), kb _ (by omega) (by omega) (by omega), kb _ (by omega) (by omega) (by omega), kb _ (by omega) (by omega) (by omega), kb _ (by omega) (by omega) (by omega)]; exact q
    · rw [k0] at x2
      by_cases q : k = p
      · subst q; rw [k1, k2]; exact hst
      · rw [kb _ (by omega) (by omega) (by omega), kb _ (by omega) (by omega) (by omega)]; exact wk k x1 (by omega)
    · rw [kb 3 (by omega) (by omega) (by omega)] at x2
      rw [kb _ (by omega) (by omega) (by omega), kb _ (by omega) (by omega) (by omega)]; exact wr r x1 x2
  · rw [e]; intro m x1 x2; rw [kb 1 (by omega) (by omega) (by omega)] at x1
    rw [kb _ (by omega) (by omega) (by omega), kb _ (by omega) (by omega) (by omega), kb _ (by omega) (by omega) (by omega), kb _ (by omega) (by omega) (by omega), kb _ (by omega) (by omega) (by omega), kb _ (by omega) (by omega) (by omega), kb _ (by omega) (by omega) (by omega)]; exact h3 m x1 x2
  · rw [eo 59 (by decide) (by decide) (by decide) (by decide) (by decide), e, kb _ (by omega) (by omega) (by omega), kb _ (by omega) (by omega) (by omega)]; exact hz
theorem PD.roo {σ σ' : Sg} {x : Ps} {g : Int → Int} {p nm s t : Int} (h : PD σ x) (hp : p = x.2.1 1595) (h4 : p < 6) (hst : (1 ≤ s ∧ s ≤ 60) ∧ (0 ≤ t ∧ t ≤ 16)) (e48 : σ' 48 = bu (σ 48) 6 (p + 1)) (eN : σ' 56 = bu (σ 56) p nm) (e1 : σ' 57 = bu (σ 57) p s) (e2 : σ' 58 = bu (σ 58) p t) (eo : ∀ q, 49 ≤ q → q ≤ 75 → q ≠ 56 → q ≠ 57 → q ≠ 58 → σ' q = σ q) (e9 : σ' 168 2 = g 25) : PD σ' (g, bu (bu (bu x.2.1 (1592 + 114 + p) s) (1592 + 120 + p) t) 1595 (p + 1), bu x.2.2 (160 + 30 + p) nm) := by
  obtain ⟨⟨d1, d2, d3⟩, _, h3, hz⟩ := h
  have hp : p = bk x.2.1 3 := hp
  have e : bk (bu (bu (bu x.2.1 (1592 + 114 + p) s) (1592 + 120 + p) t) 1595 (p + 1)) = bu (bu (bu (bk x.2.1) (114 + p) s) (120 + p) t) 3 (p + 1) := by rw [bk_b (j := 3) (by omega), bk_b (j := 120 + p) (by omega), bk_b (j := 114 + p) (by omega)]
  have f : wk (bu x.2.2 (160 + 30 + p) nm) = bu (wk x.2.2) (30 + p) nm := wk_b (by omega)
  have hp0 : 0 ≤ p := by have := d3.2.2.2.1; omega
  have w1 := d3.2.1
  have kb : ∀ j, j ≠ 3 → j ≠ 114 + p → j ≠ 120 + p → bu (bu (bu (bk x.2.1) (114 + p) s) (120 + p) t) 3 (p + 1) j = bk x.2.1 j := fun j q1 q2 q3 => by rw [bu_n q1, bu_n q3, bu_n q2]
  have k0 : bu (bu (bu (bk x.2.1) (114 + p) s) (120 + p) t) 3 (p + 1) 3 = p + 1 := bu_e rfl
  have k1 : bu (bu (bu (bk x.2.1) (114 + p) s) (120 + p) t) 3 (p + 1) (114 + p) = s := by rw [bu_n (by omega), bu_n (by omega), bu_e rfl]
  have k2 : bu (bu (bu (bk x.2.1) (114 + p) s) (120 + p) t) 3 (p + 1) (120 + p) = t := by rw [bu_n (by omega), bu_e rfl]
  refine ⟨⟨?_, ?_, ?_⟩, e9, ?_, ?_⟩ <;> dsimp only
  · rw [e]
    obtain ⟨a1, a2, a3, a4, a5, a6⟩ := d1
    refine ⟨?_, ?_, ⟨fun j x y => ?_, ?_⟩, fun m' x y => ?_, fun k x y => ?_, fun r x y => ?_⟩
    · rw [e48, k0, kb _ (by omega) (by omega) (by omega), kb _ (by omega) (by omega) (by omega), kb _ (by omega) (by omega) (by omega), kb _ (by omega) (by omega) (by omega), bu_e rfl, bu_n (by decide), bu_n (by decide), bu_n (by decide), bu_n (by decide)]
      exact ⟨a1.1, a1.2.1, a1.2.2.1, rfl, a1.2.2.2.2⟩
    · rw [eo _ (by omega) (by omega) (by omega) (by omega) (by omega), kb _ (by omega) (by omega) (by omega), kb _ (by omega) (by omega) (by omega), kb _ (by omega) (by omega) (by omega), kb _ (by omega) (by omega) (by omega)]; exact a2
    · rw [eo _ (by omega) (by omega) (by omega) (by omega) (by omega), kb _ (by omega) (by omega) (by omega)]; exact a3.1 j x y
    · rw [eo _ (by omega) (by omega) (by omega) (by omega) (by omega), kb _ (by omega) (by omega) (by omega)]; exact a3.2
    · rw [kb 1 (by omega) (by omega) (by omega)] at y
      have q := a4 m' x y
      rw [eo _ (by omega) (by omega) (by omega) (by omega) (by omega)]
      unfold AsmM at *
      rw [kb _ (by omega) (by omega) (by omega), kb _ (by omega) (by omega) (by omega), kb _ (by omega) (by omega) (by omega), kb _ (by omega) (by omega) (by omega), kb _ (by omega) (by omega) (by omega), kb _ (by omega) (by omega) (by omega), kb _ (by omega) (by omega) (by omega), kb _ (by omega) (by omega) (by omega), kb _ (by omega) (by omega) (by omega)]; exact q
    · rw [kb 2 (by omega) (by omega) (by omega)] at y
      have w2 := d3.2.2.1
      rw [eo _ (by omega) (by omega) (by omega) (by omega) (by omega), eo _ (by omega) (by omega) (by omega) (by omega) (by omega), kb _ (by omega) (by omega) (by omega), kb _ (by omega) (by omega) (by omega)]; exact a5 k x y
    · rw [k0] at y
      show σ' 57 r = _ ∧ σ' 58 r = _
      rw [e1, e2]
      by_cases q : r = p
      · subst q; rw [bu_e rfl, bu_e rfl, k1, k2]; exact ⟨rfl, rfl⟩
      · rw [bu_n q, bu_n q, kb _ (by omega) (by omega) (by omega), kb _ (by omega) (by omega) (by omega)]; exact a6 r x (by omega)
  · rw [e, f]
    refine d2.n (fun k x1 x2 => ?_) (fun k x1 x2 => ?_) (fun k x1 x2 => ?_) (fun k x1 x2 => ?_)
    · rw [kb 0 (by omega) (by omega) (by omega)] at x2
      have w0 := d3.1
      rw [eo _ (by omega) (by omega) (by omega) (by omega) (by omega), bu_n (by omega)]; exact d2.1 k x1 x2
    · rw [kb 1 (by omega) (by omega) (by omega)] at x2
      rw [eo _ (by omega) (by omega) (by omega) (by omega) (by omega), bu_n (by omega)]; exact d2.2.1 k x1 x2
    · rw [kb 2 (by omega) (by omega) (by omega)] at x2
      have w2 := d3.2.2.1
      rw [eo _ (by omega) (by omega) (by omega) (by omega) (by omega), bu_n (by omega)]; exact d2.2.2.1 k x1 x2
    · rw [k0] at x2; rw [eN]
      by_cases q : k = p
      · rw [bu_e q, bu_e (by omega)]
      · rw [bu_n q, bu_n (by omega)]; exact d2.2.2.2 k x1 (by omega)
  · rw [e]
    obtain ⟨w0, w1, w2, w3, w4, w5, w6, w7, w8, w9, wm, wk, wr⟩ := d3
    refine ⟨?_, ?_, ?_, ?_, ?_, ?_, ?_, ?_, ?_, fun j x1 x2 => ?_, fun m x1 x2 => ?_, fun k x1 x2 => ?_, fun r x1 x2 => ?_⟩
    · rw [kb _ (by omega) (by omega) (by omega)]; exact w0
    · rw [kb _ (by omega) (by omega) (by omega)]; exact w1
    · rw [kb _ (by omega) (by omega) (by omega)]; exact w2
    · rw [k0]; omega
    · rw [kb _ (by omega) (by omega) (by omega)]; exact w4
    · rw [kb _ (by omega) (by omega) (by omega)]; exact w5
    · rw [kb _ (by omega) (by omega) (by omega)]; exact w6
    · rw [kb _ (by omega) (by omega) (by omega)]; exact w7
    · rw [kb _ (by omega) (by omega) (by omega)]; exact w8
    · rw [kb _ (by omega) (by omega) (by omega), kb _ (by omega) (by omega) (by omega)]; exact w9 j x1 x2
    · rw [kb 1 (by omega) (by omega) (by omega)] at x2
      have q := wm m x1 x2
      unfold WM at *
      rw [kb _ (by omega) (by omega) (by omega), kb _ (by omega) (by omega) (by omega), kb _ (by omega) (by omega) (by omega), kb _ (by omega) (by omega) (by omega), kb _ (by omega) (by omega) (by omega), kb _ (by omega) (by omega) (by omega), kb _ (by omega) (by omega) (by omega), kb _ (by omega) (by omega) (by omega), kb _ (by omega) (by omega) (by omega), kb _ (by omega) (by omega) (by omega), kb _ (by omega) (by omega) (by omega)]; exact q
    · rw [kb 2 (by omega) (by omega) (by omega)] at x2
      rw [kb _ (by omega) (by omega) (by omega), kb _ (by omega) (by omega) (by omega)]; exact wk k x1 x2
    · rw [k0] at x2
      by_cases q : r = p
      · subst q; rw [k1, k2]; exact hst
      · rw [kb _ (by omega) (by omega) (by omega), kb _ (by omega) (by omega) (by omega)]; exact wr r x1 (by omega)
  · rw [e]; intro m x1 x2; rw [kb 1 (by omega) (by omega) (by omega)] at x1
    rw [kb _ (by omega) (by omega) (by omega), kb _ (by omega) (by omega) (by omega), kb _ (by omega) (by omega) (by omega), kb _ (by omega) (by omega) (by omega), kb _ (by omega) (by omega) (by omega), kb _ (by omega) (by omega) (by omega), kb _ (by omega) (by omega) (by omega)]; exact h3 m x1 x2
  · rw [eo 59 (by decide) (by decide) (by decide) (by decide) (by decide), e, kb _ (by omega) (by omega) (by omega), kb _ (by omega) (by omega) (by omega)]; exact hz
theorem PD.twi {σ σ' : Sg} {x : Ps} {g : Int → Int} {a b : Int} (h : PD σ x) (ha : 0 ≤ a ∧ a < bk x.2.1 1) (hb : 0 ≤ b ∧ b < bk x.2.1 1) (hab : ¬ a = b) (ea : σ' (66 + a) = bu (σ (66 + a)) 7 b) (eb : σ' (66 + b) = bu (σ (66 + b)) 7 a) (eo : ∀ q, 48 ≤ q → q ≤ 75 → q ≠ 66 + a → q ≠ 66 + b → σ' q = σ q) (e2 : σ' 168 2 = g 25) : PD σ' (g, bu (bu x.2.1 (1686 + a) b) (1686 + b) a, x.2.2) := by
  obtain ⟨⟨d1, d2, d3⟩, _, h3, hz⟩ := h
  have w1 := d3.2.1
  have e : bk (bu (bu x.2.1 (1686 + a) b) (1686 + b) a) = bu (bu (bk x.2.1) (94 + a) b) (94 + b) a := by rw [bk_b (j := 94 + b) (by omega), bk_b (j := 94 + a) (by omega)]
  have kb : ∀ j, j ≠ 94 + a → j ≠ 94 + b → bu (bu (bk x.2.1) (94 + a) b) (94 + b) a j = bk x.2.1 j := fun j q1 q2 => by rw [bu_n q2, bu_n q1]
  have ka : bu (bu (bk x.2.1) (94 + a) b) (94 + b) a (94 + a) = b := by rw [bu_n (by omega), bu_e rfl]
  have kB : bu (bu (bk x.2.1) (94 + a) b) (94 + b) a (94 + b) = a := bu_e rfl
  refine ⟨⟨?_, ?_, ?_⟩, e2, ?_, ?_⟩ <;> dsimp only
  · rw [e]
    obtain ⟨a1, a2, a3, a4, a5, a6⟩ := d1
    refine ⟨?_, ?_, ⟨fun j x y => ?_, ?_⟩, fun m' x y => ?_, fun k x y => ?_, fun r x y => ?_⟩
    · rw [eo _ (by omega) (by omega) (by omega) (by omega), kb _ (by omega) (by omega), kb _ (by omega) (by omega), kb _ (by omega) (by omega), kb _ (by omega) (by omega), kb _ (by omega) (by omega)]; exact a1
    · rw [eo _ (by omega) (by omega) (by omega) (by omega), kb _ (by omega) (by omega), kb _ (by omega) (by omega), kb _ (by omega) (by omega), kb _ (by omega) (by omega)]; exact a2
    · rw [eo _ (by omega) (by omega) (by omega) (by omega), kb _ (by omega) (by omega)]; exact a3.1 j x y
    · rw [eo _ (by omega) (by omega) (by omega) (by omega), kb _ (by omega) (by omega)]; exact a3.2
    · rw [kb 1 (by omega) (by omega)] at y
      have q := a4 m' x y
      show AsmM (σ' (66 + m')) _ m'
      have q : AsmM (σ (66 + m')) (bk _) m' := q
      by_cases cqz1 : m' = a
      · subst cqz1; rw [ea]
        unfold AsmM at *
        rw [ka, kb _ (by omega) (by omega), kb _ (by omega) (by omega), kb _ (by omega) (by omega), kb _ (by omega) (by omega), kb _ (by omega) (by omega), kb _ (by omega) (by omega), kb _ (by omega) (by omega), kb _ (by omega) (by omega), bu_e rfl, bu_n (by decide), bu_n (by decide), bu_n (by decide), bu_n (by decide), bu_n (by decide), bu_n (by decide), bu_n (by decide), bu_n (by decide)]
        exact ⟨q.1, q.2.1, q.2.2.1, q.2.2.2.1, q.2.2.2.2.1, q.2.2.2.2.2.1, rfl, q.2.2.2.2.2.2.2⟩
      · by_cases cqz2 : m' = b
        · subst cqz2; rw [eb]
          unfold AsmM at *
          rw [kB, kb _ (by omega) (by omega), kb _ (by omega) (by omega), kb _ (by omega) (by omega), kb _ (by omega) (by omega), kb _ (by omega) (by omega), kb _ (by omega) (by omega), kb _ (by omega) (by omega), kb _ (by omega) (by omega), bu_e rfl, bu_n (by decide), bu_n (by decide), bu_n (by decide), bu_n (by decide), bu_n (by decide), bu_n (by decide), bu_n (by decide), bu_n (by decide)]
          exact ⟨q.1, q.2.1, q.2.2.1, q.2.2.2.1, q.2.2.2.2.1, q.2.2.2.2.2.1, rfl, q.2.2.2.2.2.2.2⟩
        · rw [eo _ (by omega) (by omega) (by omega) (by omega)]
          unfold AsmM at *
          rw [kb _ (by omega) (by omega), kb _ (by omega) (by omega), kb _ (by omega) (by omega), kb _ (by omega) (by omega), kb _ (by omega) (by omega), kb _ (by omega) (by omega), kb _ (by omega) (by omega), kb _ (by omega) (by omega), kb _ (by omega) (by omega)]; exact q
    · have w2 := d3.2.2.1
      rw [kb 2 (by omega) (by omega)] at y
      rw [eo _ (by omega) (by omega) (by omega) (by omega), eo _ (by omega) (by omega) (by omega) (by omega), kb _ (by omega) (by omega), kb _ (by omega) (by omega)]; exact a5 k x y
    · rw [kb 3 (by omega) (by omega)] at y
      rw [eo _ (by omega) (by omega) (by omega) (by omega), eo _ (by omega) (by omega) (by omega) (by omega), kb _ (by omega) (by omega), kb _ (by omega) (by omega)]; exact a6 r x y
  · rw [e]
    refine d2.n (fun k x1 x2 => ?_) (fun k x1 x2 => ?_) (fun k x1 x2 => ?_) (fun k x1 x2 => ?_)
    · rw [kb 0 (by omega) (by omega)] at x2
      rw [eo _ (by omega) (by omega) (by omega) (by omega)]; exact d2.1 k x1 x2
    · rw [kb 1 (by omega) (by omega)] at x2
      by_cases cqz1 : k = a
      · subst cqz1; rw [ea, bu_n (by decide)]; exact d2.2.1 k x1 x2
      · by_cases cqz2 : k = b
        · subst cqz2; rw [eb, bu_n (by decide)]; exact d2.2.1 k x1 x2
        · rw [eo _ (by omega) (by omega) (by omega) (by omega)]; exact d2.2.1 k x1 x2
    · rw [kb 2 (by omega) (by omega)] at x2
      rw [eo _ (by omega) (by omega) (by omega) (by omega)]; exact d2.2.2.1 k x1 x2
    · rw [kb 3 (by omega) (by omega)] at x2
      rw [eo _ (by omega) (by omega) (by omega) (by omega)]; exact d2.2.2.2 k x1 x2
  · rw [e]
    obtain ⟨w0, w1, w2, w3, w4, w5, w6, w7, w8, w9, wm, wk, wr⟩ := d3
    refine ⟨?_, ?_, ?_, ?_, ?_, ?_, ?_, ?_, ?_, fun j x1 x2 => ?_, fun m x1 x2 => ?_, fun k x1 x2 => ?_, fun r x1 x2 => ?_⟩
    · rw [kb _ (by omega) (by omega)]; exact w0
    · rw [kb _ (by omega) (by omega)]; exact w1
    · rw [kb _ (by omega) (by omega)]; exact w2
    · rw [kb _ (by omega) (by omega)]; exact w3
    · rw [kb _ (by omega) (by omega)]; exact w4
    · rw [kb _ (by omega) (by omega)]; exact w5
    · rw [kb _ (by omega) (by omega)]; exact w6
    · rw [kb _ (by omega) (by omega)]; exact w7
    · rw [kb _ (by omega) (by omega)]; exact w8
    · rw [kb _ (by omega) (by omega), kb _ (by omega) (by omega)]; exact w9 j x1 x2
    · rw [kb 1 (by omega) (by omega)] at x2
      have q := wm m x1 x2
      unfold WM at *
      have z : -1 ≤ bu (bu (bk x.2.1) (94 + a) b) (94 + b) a (94 + m) ∧ bu (bu (bk x.2.1) (94 + a) b) (94 + b) a (94 + m) < bk x.2.1 1 := by
        by_cases cqz1 : m = a
        · rw [cqz1, ka]; omega
        · by_cases cqz2 : m = b
          · rw [cqz2, kB]; omega
          · rw [kb _ (by omega) (by omega)]; exact q.2.2.2.2.2.2.2.2
      rw [kb (14 + m) (by omega) (by omega), kb 0 (by omega) (by omega), kb (24 + m) (by omega) (by omega), kb (34 + m) (by omega) (by omega), kb (44 + m) (by omega) (by omega), kb (54 + m) (by omega) (by omega), kb (64 + m) (by omega) (by omega), kb (74 + m) (by omega) (by omega), kb (84 + m) (by omega) (by omega), kb 1 (by omega) (by omega)]
      exact ⟨q.1, q.2.1, q.2.2.1, q.2.2.2.1, q.2.2.2.2.1, q.2.2.2.2.2.1, q.2.2.2.2.2.2.1, q.2.2.2.2.2.2.2.1, z⟩
    · rw [kb 2 (by omega) (by omega)] at x2
      rw [kb _ (by omega) (by omega), kb _ (by omega) (by omega)]; exact wk k x1 x2
    · rw [kb 3 (by omega) (by omega)] at x2
      rw [kb _ (by omega) (by omega), kb _ (by omega) (by omega)]; exact wr r x1 x2
  · rw [e]; intro m x1 x2; rw [kb 1 (by omega) (by omega)] at x1
    rw [kb _ (by omega) (by omega), kb _ (by omega) (by omega), kb _ (by omega) (by omega), kb _ (by omega) (by omega), kb _ (by omega) (by omega), kb _ (by omega) (by omega), kb _ (by omega) (by omega)]; exact h3 m x1 x2
  · rw [eo 59 (by decide) (by decide) (by omega) (by omega), e, kb _ (by omega) (by omega), kb _ (by omega) (by omega)]; exact hz
