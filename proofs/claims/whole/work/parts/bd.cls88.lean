/-! ===== what calls keep of a block (text laid by gencls88.py) ===== -/
def HK (b b' : Int → Int) : Prop := WB b' ∧ b' 8 ≤ 9999 ∧ (∀ j, 0 ≤ j → j < 3 → b' j = b j) ∧ (∀ j, 126 ≤ j → b' j = b j)
theorem HK.rfl {b : Int → Int} (B : WB b) (h8 : b 8 ≤ 9999) : HK b b := ⟨B, h8, fun _ _ _ => Eq.refl _, fun _ _ => Eq.refl _⟩
theorem HK.b {b : Int → Int} {i v : Int} (h8 : b 8 ≤ 9999) (w : WB (bu b i v)) (hi : 4 ≤ i ∧ i < 126 ∧ i ≠ 8) : HK b (bu b i v) := ⟨w, by rw [bu_n (by omega)]; exact h8, fun j _ _ => bu_n (by omega), fun j _ => bu_n (by omega)⟩
theorem hk_walk {b : Int → Int} {m w : Int} (B : WB b) (h8 : b 8 ≤ 9999) : HK b (g_walk b m w).2 := by
  have b1 := B.2.1
  unfold g_walk
  split
  · rename_i hm
    split
    · rename_i hw
      split
      · exact HK.b h8 (B.mem hm.1 hm.2 (by omega)) (by omega)
      · exact HK.rfl B h8
    · exact HK.rfl B h8
  · exact HK.rfl B h8
theorem hk_fall {b : Int → Int} {m w : Int} (hs : w = 0 ∨ w = 1) (B : WB b) (h8 : b 8 ≤ 9999) : HK b (g_fall b m w).2 := by
  have b1 := B.2.1
  unfold g_fall
  split
  · rename_i hm
    split
    · exact HK.b h8 (B.mem hm.1 hm.2 (by omega)) (by omega)
    · exact HK.rfl B h8
  · exact HK.rfl B h8
theorem hk_hide {b : Int → Int} {m w : Int} (hs : w = 0 ∨ w = 1) (B : WB b) (h8 : b 8 ≤ 9999) : HK b (g_hide b m w).2 := by
  have b1 := B.2.1
  unfold g_hide
  split
  · rename_i hm
    split
    · exact HK.b h8 (B.mem hm.1 hm.2 (by omega)) (by omega)
    · exact HK.rfl B h8
  · exact HK.rfl B h8
theorem hk_carry {b : Int → Int} {m w : Int} (B : WB b) (h8 : b 8 ≤ 9999) : HK b (g_carry b m w).2 := by
  have b1 := B.2.1
  unfold g_carry
  split
  · rename_i hm
    split
    · rename_i hw
      split
      · exact HK.b h8 (B.mem hm.1 hm.2 (by omega)) (by omega)
      · exact HK.rfl B h8
    · exact HK.rfl B h8
  · exact HK.rfl B h8
theorem hk_rule {b : Int → Int} {x w : Int} (B : WB b) (h8 : b 8 ≤ 9999) : HK b (g_rule b x w).2 := by
  unfold g_rule
  split
  · rename_i hx
    exact HK.b h8 (B.l8 hx) (by omega)
  · exact HK.rfl B h8
theorem hk_join {b : Int → Int} {m p : Int} (B : WB b) (h8 : b 8 ≤ 9999) : HK b (g_join b m p).2 := by
  have b1 := B.2.1
  unfold g_join
  split
  · rename_i hm
    split
    · exact HK.rfl B h8
    · exact HK.b h8 (B.mem hm.1.1 hm.1.2 (by omega)) (by omega)
  · exact HK.rfl B h8
theorem hk_die {b : Int → Int} {m : Int} (B : WB b) (h8 : b 8 ≤ 9999) : HK b (g_die b m).2 := by
  have b1 := B.2.1
  unfold g_die
  split
  · rename_i hm
    split
    · refine ⟨mDie_w B hm.1 hm.2, ?_, fun j x y => ?_, fun j x => ?_⟩
      · show mDie b m 8 ≤ 9999
        rw [mDie_1 (by omega) hm.1]; exact h8
      · show mDie b m j = b j
        exact mDie_1 (by omega) hm.1
      · show mDie b m j = b j
        unfold mDie; rw [bu_n (by omega), bu_n (by omega)]
    · exact HK.rfl B h8
  · exact HK.rfl B h8
theorem hk_year {b : Int → Int} (B : WB b) (h8 : b 8 ≤ 9999) : HK b (g_year b).2 := by
  have b1 := B.2.1
  unfold g_year
  refine ⟨mYr_w B (by omega), ?_, fun j x y => ?_, fun j x => ?_⟩
  · show (mYr b (b 1).toNat).2 8 ≤ 9999
    rw [mYr_1 (by omega) (by omega)]; exact h8
  · exact mYr_1 (by omega) (by omega)
  · exact mYr_1 (by omega) (by omega)
theorem hk_minute {b : Int → Int} {n : Int} (B : WB b) (h8 : b 8 ≤ 9999) : HK b (g_minute b n).2 := by
  unfold g_minute
  split
  · rename_i hn
    split
    · rename_i hm
      refine ⟨mMinN_w B _, ?_, fun j x y => ?_, fun j x => ?_⟩
      · show mMinN b n.toNat 8 ≤ 9999
        rw [mMinN_8 B]; omega
      · exact mMinN_1 B (by omega) _
      · exact mMinN_1 B (by omega) _
    · exact HK.rfl B h8
  · exact HK.rfl B h8
theorem WB.sd {b b' : Int → Int} (h : WB b) (e : ∀ j, j < 104 ∨ 114 ≤ j → b' j = b j) (y : ∀ k, 0 ≤ k → k < b 2 → (0 ≤ b' (104 + k) ∧ b' (104 + k) < 16) ∧ (0 ≤ b' (109 + k) ∧ b' (109 + k) < 16)) : WB b' := by
  obtain ⟨h0, h1, h2, h3, h4, h5, h6, h7, h8, h9, hm, hk, hr⟩ := h
  have e0 := e 0 (by omega)
  have e1 := e 1 (by omega)
  have e2 := e 2 (by omega)
  have e3 := e 3 (by omega)
  refine ⟨by rw [e0]; exact h0, by rw [e1]; exact h1, by rw [e2]; exact h2, by rw [e3]; exact h3, by rw [e 4 (by omega)]; exact h4, by rw [e 5 (by omega)]; exact h5, by rw [e 6 (by omega)]; exact h6, by rw [e 7 (by omega)]; exact h7, by rw [e 8 (by omega)]; exact h8, fun j p q => ?_, fun m p q => ?_, fun k p q => ?_, fun r p q => ?_⟩
  · rw [e j (by omega), e 8 (by omega)]; exact h9 j p q
  · rw [e1] at q
    have z := hm m p q
    unfold WM at *
    rw [e (14 + m) (by omega), e (24 + m) (by omega), e (34 + m) (by omega), e (44 + m) (by omega), e (54 + m) (by omega), e (64 + m) (by omega), e (74 + m) (by omega), e (84 + m) (by omega), e (94 + m) (by omega), e0, e1]
    exact z
  · rw [e2] at q; exact y k p q
  · rw [e3] at q
    rw [e (114 + r) (by omega), e (120 + r) (by omega)]; exact hr r p q
theorem uns_d : ∀ x : Fin 16, ∀ p : Fin 4, (0 ≤ z_and (x.val : Int) (z_xor (z_shl 1 (p.val : Int)) (-1)) ∧ z_and (x.val : Int) (z_xor (z_shl 1 (p.val : Int)) (-1)) < 16) ∧ (0 ≤ z_or (x.val : Int) (z_shl 1 (p.val : Int)) ∧ z_or (x.val : Int) (z_shl 1 (p.val : Int)) < 16) := by decide +kernel
theorem uns_r {x p : Int} (hx : 0 ≤ x ∧ x < 16) (hp : 0 ≤ p ∧ p < 4) : (0 ≤ z_and x (z_xor (z_shl 1 p) (-1)) ∧ z_and x (z_xor (z_shl 1 p) (-1)) < 16) ∧ (0 ≤ z_or x (z_shl 1 p) ∧ z_or x (z_shl 1 p) < 16) := by
  have z := uns_d ⟨x.toNat, by omega⟩ ⟨p.toNat, by omega⟩
  have ex : ((x.toNat : Nat) : Int) = x := by omega
  have ep : ((p.toNat : Nat) : Int) = p := by omega
  dsimp only at z
  rw [ex, ep] at z
  exact z
theorem uns_j {b : Int → Int} {k p j : Int} (h : ¬ (104 ≤ j ∧ j < 114)) (hk : 0 ≤ k ∧ k < 5) : mUns b k p j = b j := by
  unfold mUns; rw [bu_n (by omega), bu_n (by omega)]
theorem uns_y {b : Int → Int} {k p : Int} (B : WB b) (hk : 0 ≤ k ∧ k < b 2) (hp : 0 ≤ p ∧ p < b 0) : ∀ q, 0 ≤ q → q < b 2 → (0 ≤ mUns b k p (104 + q) ∧ mUns b k p (104 + q) < 16) ∧ (0 ≤ mUns b k p (109 + q) ∧ mUns b k p (109 + q) < 16) := by
  intro q q0 q1
  have b2 := B.2.2.1
  have b0 := B.1
  have z := B.2.2.2.2.2.2.2.2.2.2.2.1
  have zq := z q q0 q1
  have zk := z k hk.1 hk.2
  have u1 := (uns_r (p := p) zk.1 (by omega)).1
  have u2 := (uns_r (p := p) zk.2 (by omega)).1
  unfold mUns
  by_cases e : q = k
  · subst e
    constructor
    · rw [bu_n (by omega), bu_e rfl]; exact u1
    · rw [bu_e rfl]; exact u2
  · rw [bu_n (by omega), bu_n (by omega), bu_n (by omega), bu_n (by omega)]; exact zq
theorem hk_side {b : Int → Int} {k p s : Int} (B : WB b) (h8 : b 8 ≤ 9999) : HK b (g_side b k p s).2 := by
  have b2 := B.2.2.1
  have b0 := B.1
  unfold g_side
  split
  · rename_i hk
    have uy := uns_y B hk.1 hk.2
    have uj : ∀ j, ¬ (104 ≤ j ∧ j < 114) → mUns b k p j = b j := fun j h => uns_j h (by omega)
    split
    · rename_i hs
      show HK b (if s < 2 then _ else _)
      split
      · rename_i h2
        have yk := uy k hk.1.1 hk.1.2
        have ys : 0 ≤ mUns b k p (104 + 5 * s + k) ∧ mUns b k p (104 + 5 * s + k) < 16 := by
          rcases (show s = 0 ∨ s = 1 by omega) with e | e
          · subst e; exact yk.1
          · subst e; exact yk.2
        have uo := (uns_r (p := p) ys (by omega)).2
        refine ⟨B.sd (fun j h => ?_) (fun q q0 q1 => ?_), ?_, fun j x y => ?_, fun j x => ?_⟩
        · rw [bu_n (by omega), uj j (by omega)]
        · have yq := uy q q0 q1
          constructor
          · by_cases e : 104 + q = 104 + 5 * s + k
            · rw [bu_e e]; exact uo
            · rw [bu_n e]; exact yq.1
          · by_cases e : 109 + q = 104 + 5 * s + k
            · rw [bu_e e]; exact uo
            · rw [bu_n e]; exact yq.2
        · rw [bu_n (by omega), uj 8 (by omega)]; exact h8
        · rw [bu_n (by omega), uj j (by omega)]
        · rw [bu_n (by omega), uj j (by omega)]
      · exact ⟨B.sd (fun j h => uj j (by omega)) uy, by rw [uj 8 (by omega)]; exact h8, fun j x y => uj j (by omega), fun j x => uj j (by omega)⟩
    · exact HK.rfl B h8
  · exact HK.rfl B h8
theorem hk_live {g c y : Int → Int} {s : Int} (B : WB c) (h8 : c 8 ≤ 9999) (w : SWf c 4 0 (c 127)) : HK c (g_live g c y s).2.1 := by
  unfold g_live
  split
  · rename_i hs
    split
    · exact HK.rfl B h8
    · have J := rRun_j (g := g) B h8 (show 0 ≤ s ∧ s < 65536 by omega) w
      exact ⟨J.1, J.2.1, fun j p q => J.2.2.2.2.2 j (by omega), fun j p => J.2.2.2.2.2 j (by omega)⟩
  · exact HK.rfl B h8
