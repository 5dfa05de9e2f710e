/-! ===== live, lived, mark, back: what they do to what holds (text laid by gencls92.py) ===== -/
theorem IV.lv {σ σ1 σ2 : Sg} {r1 r2 : Int} {P : (Int × Int × Int) × (Int → Int) × (Int → Int)} (h : IV σ) (k : HK (σ 187) P.2.1) (u : (r1, σ1 7 0, σ1 7 15) = P.1) (uA : Asm σ1 20 P.2.1) (uy : ∀ j, 0 ≤ j → j ≤ 4 → σ1 180 j = P.2.2 j) (fu : frLv σ σ1) (t : ((r2, σ2 182 0, σ2 182 33), σ2 187, σ2 193) = P) (ft : frL σ1 σ2) : r1 = r2 ∧ IV σ2 := by
  have z := u.trans (congrArg Prod.fst t).symm
  have e187 : σ2 187 = P.2.1 := congrArg (fun q => q.2.1) t
  have e193 : σ2 193 = P.2.2 := congrArg (fun q => q.2.2) t
  have z0 : σ1 7 0 = σ2 182 0 := congrArg (fun q => q.2.1) z
  have z3 : σ1 7 15 = σ2 182 33 := congrArg (fun q => q.2.2) z
  have k6 : ∀ j, 126 ≤ j → σ2 187 j = σ 187 j := fun j p => by rw [e187]; exact k.2.2.2 j p
  have g : ∀ a j : Int, a ≠ 187 → a ≠ 193 → ¬ (a = 182 ∧ (j = 0 ∨ j = 1 ∨ (33 ≤ j ∧ j ≤ 41))) → ¬ ((a = 20 ∧ j = 1) ∨ a = 21 ∨ a = 22 ∨ a = 26 ∨ a = 27 ∨ (38 ≤ a ∧ a < 48 ∧ 1 ≤ j)) → (a < 48 ∨ (76 ≤ a ∧ a < 161) ∨ 182 ≤ a) → ¬ (a = 7 ∧ (j = 0 ∨ j = 15)) → σ2 a j = σ a j := fun a j x1 x2 x3 x4 x5 x6 => by
    rw [ft a j x1 x2 x3, fu a j x4 x5 x6]
  obtain ⟨hA, hB, hC, hD, hE, hF, hG, hH⟩ := h.2
  refine ⟨congrArg Prod.fst z, ?_, hA.cg (fun a j c => g a j (by omega) (by omega) (by omega) (by omega) (by omega) (by omega)), hB.cg (fun a j c => g a j (by omega) (by omega) (by omega) (by omega) (by omega) (by omega)), hC.cg (fun a j c => g a j (by omega) (by omega) (by omega) (by omega) (by omega) (by omega)), hD.cg (fun a j c => g a j (by omega) (by omega) (by omega) (by omega) (by omega) (by omega)), hE.cg (fun a j c => g a j (by omega) (by omega) (by omega) (by omega) (by omega) (by omega)), ?_, hG.cg (fun a j c => ?_), ⟨?_, fun j p q => ?_⟩⟩
  · unfold IVS
    rw [ft 7 0 (by decide) (by decide) (by omega)]; exact z0
  · unfold IVF
    rw [e187, rw_e (σ' := σ2) (σ := σ) (a := 190) (fun j => g 190 j (by omega) (by omega) (by omega) (by omega) (by omega) (by omega))]
    exact HAs.h hF k (uA.fr (fun a p q => rw_e (fun j => ft a j (by omega) (by omega) (by omega))) k.1.2.1) (fun a j p q => g a j (by omega) (by omega) (by omega) q (by omega) (by omega))
  · by_cases cqz7 : a = 187
    · subst cqz7; exact k6 j (by omega)
    · exact g a j cqz7 (by omega) (by omega) (by omega) (by omega) (by omega)
  · rw [ft 7 15 (by decide) (by decide) (by omega)]; exact z3
  · rw [ft 180 j (by decide) (by decide) (by omega), e193]; exact uy j p q
theorem IVH.f {σ : Sg} {x : Int} (h : IVH σ) : f_lived (σ 182 33) (σ 193) x = f_lived (σ 7 15) (σ 180) x := by
  unfold f_lived
  split
  · rename_i hx
    rw [h.1, h.2 x hx.1 hx.2]
  · rfl
theorem up_f {f : Sg} {a j v : Int} (P : Sg → Prop) (h : P f) (e : up f a j v = f) : P (up f a j v) := by rw [e]; exact h
theorem IV.mk {σ σ1 σ2 : Sg} {r1 r2 : Int} (h : IV σ) (u : (σ 7 8 = 3 ∧ r1 = -1 ∧ σ1 = up σ 7 0 7) ∨ (σ 7 8 < 3 ∧ r1 = σ 7 8 + 1 ∧ ∃ σ', CpA σ σ' (77 + 28 * σ 7 8) 20 ∧ σ1 = up (up σ' 7 8 (σ 7 8 + 1)) 7 0 0)) (t : ((r2, σ2 182 0, σ2 182 24), σ2 187, σ2 190) = g_mark (σ 182 24) (σ 187) (σ 190)) (ft : frB σ1 σ2) : r1 = r2 ∧ IV σ2 := by
  obtain ⟨hA, hB, hC, hD, hE, hF, hG, hH⟩ := h.2
  obtain ⟨⟨n1, n2, n3⟩, hM⟩ := hG
  rw [← n1] at t
  rcases u with ⟨e3, er, es⟩ | ⟨e3, er, σ', cp, es⟩
  · unfold g_mark at t
    rw [if_pos e3] at t
    have cqz7 : σ2 187 = σ 187 := congrArg (fun q => q.2.1) t
    have cqz9 : σ2 190 = σ 190 := congrArg (fun q => q.2.2) t
    have cqz24 : σ2 182 24 = σ 7 8 := congrArg (fun q => q.1.2.2) t
    have g : ∀ a j : Int, Cel a j → σ2 a j = σ a j := fun a j c => by
      by_cases a7 : a = 187
      · subst a7; rw [cqz7]
      · by_cases a9 : a = 190
        · subst a9; rw [cqz9]
        · by_cases a2 : a = 182 ∧ j = 24
          · obtain ⟨q1, q2⟩ := a2
            subst q1; subst q2; rw [cqz24]; exact n1
          · unfold Cel at c
            rw [ft a j a7 a9 (by omega), es]
            by_cases c0 : a = 7
            · subst c0; exact up_nj (by omega)
            · rw [up_row c0]
    refine ⟨er.trans (congrArg (fun q => q.1.1) t).symm, ?_, IVr.cg h.2 g⟩
    unfold IVS
    rw [ft 7 0 (by decide) (by decide) (by omega), es, up_eq]; exact (congrArg (fun q => q.1.2.1) t).symm
  · unfold g_mark at t
    rw [if_neg (by omega)] at t
    have cqz7 : σ2 187 = cpb 398 0 (398 * (σ 7 8 + 1)) (σ 187) := congrArg (fun q => q.2.1) t
    have cqz9 : σ2 190 = cpb 40 0 (40 * (σ 7 8 + 1)) (σ 190) := congrArg (fun q => q.2.2) t
    have cqz24 : σ2 182 24 = σ 7 8 + 1 := congrArg (fun q => q.1.2.2) t
    have fc := cp.2.2.2.2.2.2.2.2
    have s1 : ∀ a j : Int, ¬ (a = 7 ∧ (j = 0 ∨ j = 8)) → σ1 a j = σ' a j := fun a j p => by
      rw [es]
      by_cases c0 : a = 7
      · subst c0; rw [up_nj (by omega), up_nj (by omega)]
      · rw [up_row c0, up_row c0]
    have g : ∀ a j : Int, a ≠ 187 → a ≠ 190 → ¬ (a = 182 ∧ (j = 0 ∨ j = 1 ∨ j = 24)) → ¬ (a = 7 ∧ (j = 0 ∨ j = 8)) → ¬ (77 + 28 * σ 7 8 ≤ a ∧ a ≤ 77 + 28 * σ 7 8 + 27) → σ2 a j = σ a j := fun a j x1 x2 x3 x4 x5 => by
      rw [ft a j x1 x2 x3, s1 a j x4, fc a x5]
    refine ⟨er.trans (congrArg (fun q => q.1.1) t).symm, ?_, hA.cg (fun a j c => g a j (by omega) (by omega) (by omega) (by omega) (by omega)), hB.cg (fun a j c => g a j (by omega) (by omega) (by omega) (by omega) (by omega)), hC.cg (fun a j c => g a j (by omega) (by omega) (by omega) (by omega) (by omega)), hD.cg (fun a j c => g a j (by omega) (by omega) (by omega) (by omega) (by omega)), hE.cg (fun a j c => g a j (by omega) (by omega) (by omega) (by omega) (by omega)), hF.cg (fun a j c => ?_), ⟨⟨?_, ?_⟩, fun k p q => ?_⟩, hH.cg (fun a j c => g a j (by omega) (by omega) (by omega) (by omega) (by omega))⟩
    · unfold IVS
      rw [ft 7 0 (by decide) (by decide) (by omega), es, up_eq]; exact (congrArg (fun q => q.1.2.1) t).symm
    · by_cases a7 : a = 187
      · subst a7; rw [cqz7, cpb_out (by omega)]
      · by_cases a9 : a = 190
        · subst a9; rw [cqz9, cpb_out (by omega)]
        · exact g a j a7 a9 (by omega) (by omega) (by omega)
    · rw [ft 7 8 (by decide) (by decide) (by omega), es, up_nj (by decide), up_eq, cqz24]
    · rw [ft 7 8 (by decide) (by decide) (by omega), es, up_nj (by decide), up_eq]; omega
    · rw [ft 7 8 (by decide) (by decide) (by omega), es, up_nj (by decide), up_eq] at q
      by_cases ek : k = σ 7 8
      · subst ek
        have h1 : HAs σ' (77 + 28 * σ 7 8) (σ 187) (σ 190) := ⟨hF.1.cp cp, hF.2.1.cp hF.1 cp, hF.2.2.1.cp cp, hF.2.2.2⟩
        refine (HAs.fr h1 (fun a x y => rw_e (fun j => ?_))).cb (fun j x y => ?_) (fun j x y => ?_)
        · rw [ft a j (by omega) (by omega) (by omega), s1 a j (by omega)]
        · show σ2 187 _ = _
          rw [cqz7, cpb_in (by omega)]; exact congrArg _ (by omega)
        · show σ2 190 _ = _
          rw [cqz9, cpb_in (by omega)]; exact congrArg _ (by omega)
      · refine (HAs.fr (hM k p (by omega)) (fun a x y => rw_e (fun j => g a j (by omega) (by omega) (by omega) (by omega) (by omega)))).cb (fun j x y => ?_) (fun j x y => ?_)
        · show σ2 187 _ = σ 187 _
          rw [cqz7, cpb_out (by omega)]
        · show σ2 190 _ = σ 190 _
          rw [cqz9, cpb_out (by omega)]
theorem IV.bk {σ σ1 σ2 : Sg} {r1 r2 : Int} (h : IV σ) (u : (σ 7 8 = 0 ∧ r1 = -1 ∧ σ1 = up σ 7 0 8) ∨ (0 < σ 7 8 ∧ r1 = σ 7 8 - 1 ∧ ∃ σ', CpA (up σ 7 8 (σ 7 8 - 1)) σ' 20 (77 + 28 * (σ 7 8 - 1)) ∧ σ1 = up σ' 7 0 0)) (t : ((r2, σ2 182 0, σ2 182 24), σ2 187, σ2 190) = g_back (σ 182 24) (σ 187) (σ 190)) (ft : frB σ1 σ2) : r1 = r2 ∧ IV σ2 := by
  obtain ⟨hA, hB, hC, hD, hE, hF, hG, hH⟩ := h.2
  obtain ⟨⟨n1, n2, n3⟩, hM⟩ := hG
  rw [← n1] at t
  rcases u with ⟨e3, er, es⟩ | ⟨e3, er, σ', cp, es⟩
  · unfold g_back at t
    rw [if_pos e3] at t
    have cqz7 : σ2 187 = σ 187 := congrArg (fun q => q.2.1) t
    have cqz9 : σ2 190 = σ 190 := congrArg (fun q => q.2.2) t
    have cqz24 : σ2 182 24 = σ 7 8 := congrArg (fun q => q.1.2.2) t
    have g : ∀ a j : Int, Cel a j → σ2 a j = σ a j := fun a j c => by
      by_cases a7 : a = 187
      · subst a7; rw [cqz7]
      · by_cases a9 : a = 190
        · subst a9; rw [cqz9]
        · by_cases a2 : a = 182 ∧ j = 24
          · obtain ⟨q1, q2⟩ := a2
            subst q1; subst q2; rw [cqz24]; exact n1
          · unfold Cel at c
            rw [ft a j a7 a9 (by omega), es]
            by_cases c0 : a = 7
            · subst c0; exact up_nj (by omega)
            · rw [up_row c0]
    refine ⟨er.trans (congrArg (fun q => q.1.1) t).symm, ?_, IVr.cg h.2 g⟩
    unfold IVS
    rw [ft 7 0 (by decide) (by decide) (by omega), es, up_eq]; exact (congrArg (fun q => q.1.2.1) t).symm
  · unfold g_back at t
    rw [if_neg (by omega)] at t
    have cqz7 : σ2 187 = cpb 398 (398 * σ 7 8) 0 (σ 187) := congrArg (fun q => q.2.1) t
    have cqz9 : σ2 190 = cpb 40 (40 * σ 7 8) 0 (σ 190) := congrArg (fun q => q.2.2) t
    have cqz24 : σ2 182 24 = σ 7 8 - 1 := congrArg (fun q => q.1.2.2) t
    have fc := cp.2.2.2.2.2.2.2.2
    have m8 : σ' 7 8 = σ 7 8 - 1 := by rw [fc 7 (by omega), up_eq]
    have s1 : ∀ a j : Int, ¬ (a = 7 ∧ j = 0) → σ1 a j = σ' a j := fun a j p => by
      rw [es]
      by_cases c0 : a = 7
      · subst c0; exact up_nj (by omega)
      · rw [up_row c0]
    have s2 : ∀ a j : Int, ¬ (20 ≤ a ∧ a ≤ 47) → ¬ (a = 7 ∧ j = 8) → σ' a j = σ a j := fun a j p q => by
      rw [fc a (by omega)]
      by_cases c0 : a = 7
      · subst c0; exact up_nj (by omega)
      · rw [up_row c0]
    have g : ∀ a j : Int, a ≠ 187 → a ≠ 190 → ¬ (a = 182 ∧ (j = 0 ∨ j = 1 ∨ j = 24)) → ¬ (a = 7 ∧ (j = 0 ∨ j = 8)) → ¬ (20 ≤ a ∧ a ≤ 47) → σ2 a j = σ a j := fun a j x1 x2 x3 x4 x5 => by
      rw [ft a j x1 x2 x3, s1 a j (by omega), s2 a j x5 (by omega)]
    refine ⟨er.trans (congrArg (fun q => q.1.1) t).symm, ?_, hA.cg (fun a j c => g a j (by omega) (by omega) (by omega) (by omega) (by omega)), hB.cg (fun a j c => g a j (by omega) (by omega) (by omega) (by omega) (by omega)), hC.cg (fun a j c => g a j (by omega) (by omega) (by omega) (by omega) (by omega)), hD.cg (fun a j c => g a j (by omega) (by omega) (by omega) (by omega) (by omega)), hE.cg (fun a j c => g a j (by omega) (by omega) (by omega) (by omega) (by omega)), ?_, ⟨⟨?_, ?_⟩, fun k p q => ?_⟩, hH.cg (fun a j c => g a j (by omega) (by omega) (by omega) (by omega) (by omega))⟩
    · unfold IVS
      rw [ft 7 0 (by decide) (by decide) (by omega), es, up_eq]; exact (congrArg (fun q => q.1.2.1) t).symm
    · have h0 := hM (σ 7 8 - 1) (by omega) (by omega)
      have h1 : HAs (up σ 7 8 (σ 7 8 - 1)) (77 + 28 * (σ 7 8 - 1)) _ _ := HAs.fr h0 (fun a x y => up_row (by omega))
      have h2 : HAs σ' 20 _ _ := ⟨h1.1.cp cp, h1.2.1.cp h1.1 cp, h1.2.2.1.cp cp, h1.2.2.2⟩
      refine (HAs.fr h2 (fun a x y => rw_e (fun j => ?_))).cb (fun j x y => ?_) (fun j x y => ?_)
      · rw [ft a j (by omega) (by omega) (by omega), s1 a j (by omega)]
      · show σ2 187 j = σ 187 _
        rw [cqz7, cpb_in (by omega)]; exact congrArg _ (by omega)
      · show σ2 190 j = σ 190 _
        rw [cqz9, cpb_in (by omega)]; exact congrArg _ (by omega)
    · rw [ft 7 8 (by decide) (by decide) (by omega), s1 7 8 (by omega), m8, cqz24]
    · rw [ft 7 8 (by decide) (by decide) (by omega), s1 7 8 (by omega), m8]; omega
    · rw [ft 7 8 (by decide) (by decide) (by omega), s1 7 8 (by omega), m8] at q
      refine (HAs.fr (hM k p (by omega)) (fun a x y => rw_e (fun j => g a j (by omega) (by omega) (by omega) (by omega) (by omega)))).cb (fun j x y => ?_) (fun j x y => ?_)
      · show σ2 187 _ = σ 187 _
        rw [cqz7, cpb_out (by omega)]
      · show σ2 190 _ = σ 190 _
        rw [cqz9, cpb_out (by omega)]
