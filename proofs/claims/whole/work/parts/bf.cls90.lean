/-! ===== what the calls do to what holds (text laid by gencls90.py) ===== -/
theorem IV.A {σ : Sg} (h : IV σ) : Asm σ 20 (σ 187) := h.2.2.2.2.2.2.1.1
theorem IV.F {σ : Sg} (h : IV σ) : HAs σ 20 (σ 187) (σ 190) := h.2.2.2.2.2.2.1
theorem IV.W {σ : Sg} (h : IV σ) : WB (σ 187) := h.F.2.2.2.1
theorem IV.h8 {σ : Sg} (h : IV σ) : σ 187 8 ≤ 9999 := h.F.2.2.2.2.1
theorem IV.S {σ : Sg} (h : IV σ) : Scr σ 20 (σ 187) := h.F.2.2.1
theorem IV.wf {σ : Sg} (h : IV σ) : SWf (σ 187) 4 0 (σ 187 127) := h.F.2.2.2.2.2
theorem IV.lw {σ : Sg} (h : IV σ) : LWs σ := h.2.2.2.2.2.1.2.1
theorem IV.kr {σ : Sg} (h : IV σ) : KR σ := h.2.2.2.2.2.1.1
theorem IV.r4 {σ : Sg} (h : IV σ) (j : Int) : r32 (σ 4 j) := h.2.2.2.2.2.1.2.2 j
theorem IV.T {σ : Sg} (h : IV σ) : Trs σ (σ 183) (σ 184) (σ 185) := h.2.2.1.1
theorem IV.wt {σ : Sg} (h : IV σ) : WT (σ 184) := h.2.2.1.2
theorem IV.C {σ : Sg} (h : IV σ) : IVC σ := h.2.2.2.1
theorem IV.G {σ : Sg} (h : IV σ) : IVG σ := h.2.2.2.2.2.2.2.1
theorem IV.H {σ : Sg} (h : IV σ) : IVH σ := h.2.2.2.2.2.2.2.2
theorem frHa.row {σ σ' : Sg} (h : frHa σ σ') {a : Int} (ha : (a < 20 ∨ (28 ≤ a ∧ a < 38) ∨ (76 ≤ a ∧ a < 161) ∨ a = 180 ∨ 182 ≤ a) ∧ a ≠ 7) : σ' a = σ a := funext (fun j => h a j (by omega) (by omega) (by omega))
theorem frFr.row {σ σ' : Sg} (h : frFr σ σ') {a : Int} (ha : (a < 48 ∨ (76 ≤ a ∧ a < 161) ∨ a = 180 ∨ 182 ≤ a) ∧ a ≠ 7) : σ' a = σ a := funext (fun j => h a j ha.1 (by omega))
theorem frTr.row {σ σ' : Sg} (h : frTr σ σ') {a : Int} (ha : ((a < 9 ∨ (17 ≤ a ∧ a < 48)) ∨ (76 ≤ a ∧ a < 161) ∨ a = 180 ∨ 182 ≤ a) ∧ a ≠ 7) : σ' a = σ a := funext (fun j => h a j (by omega) (by omega) (by omega))
theorem frLv.row {σ σ' : Sg} (h : frLv σ σ') {a : Int} (ha : (a < 20 ∨ (28 ≤ a ∧ a < 38) ∨ (76 ≤ a ∧ a < 161) ∨ 182 ≤ a) ∧ a ≠ 7) : σ' a = σ a := funext (fun j => h a j (by omega) (by omega) (by omega))
theorem frFd.row {σ σ' : Sg} (h : frFd σ σ') {a : Int} (ha : a ≠ 17 ∧ a ≠ 18) : σ' a = σ a := funext (fun j => h a j ha.2 (by omega))
/-- the hall, changed -/
theorem HAs.h {σ σ2 : Sg} {b b' x : Int → Int} (h : HAs σ 20 b x) (k : HK b b') (hA : Asm σ2 20 b') (f : ∀ a j : Int, (20 ≤ a ∧ a < 48) → ¬ ((a = 20 ∧ j = 1) ∨ a = 21 ∨ a = 22 ∨ a = 26 ∨ a = 27 ∨ (38 ≤ a ∧ a < 48 ∧ 1 ≤ j)) → σ2 a j = σ a j) : HAs σ2 20 b' x := by
  obtain ⟨a0, n0, s0, B, _, w0⟩ := h
  obtain ⟨B', k8, k3, k6⟩ := k
  have e3 : b' 3 = b 3 := by
    have z1 := hA.1.2.2.2.1
    have z2 := a0.1.2.2.2.1
    rw [f 20 6 (by omega) (by omega)] at z1
    exact z1.symm.trans z2
  have e4 : ∀ j, 0 ≤ j → j < 4 → b' j = b j := fun j p q => by
    by_cases e : j = 3
    · subst e; exact e3
    · exact k3 j p (by omega)
  refine ⟨hA, ?_, ?_, B', k8, ?_⟩
  · exact (n0.fr B.2.1.2 (fun a j p q r => f a j (by omega) (by omega))).cb e4
  · exact (s0.fr (fun a p q => rw_e (fun j => f a j (by omega) (by omega)))).cb k6
  · rw [k6 127 (by omega)]
    exact SWf.cb (fun j p => by
      by_cases e : j < 3
      · exact k3 j (by omega) e
      · exact k6 j (by omega)) 4 _ _ w0
theorem IV.h {σ σ1 σ2 : Sg} {r1 r2 : Int} {p : Int × Int} {b' : Int → Int} (h : IV σ) (k : HK (σ 187) b') (u : (r1, σ1 7 0) = p) (uA : Asm σ1 20 b') (fu : frHa σ σ1) (t : ((r2, σ2 182 0), σ2 187) = (p, b')) (ft : frN σ1 σ2) : r1 = r2 ∧ IV σ2 := by
  have z := u.trans (congrArg Prod.fst t).symm
  have e187 : σ2 187 = b' := congrArg Prod.snd t
  have e : ∀ a j : Int, a ≠ 187 → ¬ (a = 182 ∧ (j = 0 ∨ j = 1)) → ¬ ((a = 20 ∧ j = 1) ∨ a = 21 ∨ a = 22 ∨ a = 26 ∨ a = 27 ∨ (38 ≤ a ∧ a < 48 ∧ 1 ≤ j)) → (a < 48 ∨ (76 ≤ a ∧ a < 161) ∨ a = 180 ∨ 182 ≤ a) → ¬ (a = 7 ∧ j = 0) → σ2 a j = σ a j := fun a j p q r s t => by
    rw [ft a j p q, fu a j r s t]
  have k6 : ∀ j, 126 ≤ j → σ2 187 j = σ 187 j := fun j p => by rw [e187]; exact k.2.2.2 j p
  obtain ⟨hA, hB, hC, hD, hE, hF, hG, hH⟩ := h.2
  refine ⟨congrArg Prod.fst z, ?_, hA.cg (fun a j c => e a j (by omega) (by omega) (by omega) (by omega) (by omega)), hB.cg (fun a j c => e a j (by omega) (by omega) (by omega) (by omega) (by omega)), hC.cg (fun a j c => e a j (by omega) (by omega) (by omega) (by omega) (by omega)), hD.cg (fun a j c => e a j (by omega) (by omega) (by omega) (by omega) (by omega)), hE.cg (fun a j c => e a j (by omega) (by omega) (by omega) (by omega) (by omega)), ?_, hG.cg (fun a j c => ?_), hH.cg (fun a j c => e a j (by omega) (by omega) (by omega) (by omega) (by omega))⟩
  · have z2 : σ1 7 0 = σ2 182 0 := congrArg Prod.snd z
    unfold IVS
    rw [ft 7 0 (by decide) (by omega)]; exact z2
  · unfold IVF
    rw [e187, rw_e (σ' := σ2) (σ := σ) (a := 190) (fun j => e 190 j (by omega) (by omega) (by omega) (by omega) (by omega))]
    exact HAs.h hF k (uA.fr (fun a p q => rw_e (fun j => ft a j (by omega) (by omega))) k.1.2.1) (fun a j p q => e a j (by omega) (by omega) q (by omega) (by omega))
  · by_cases cqz7 : a = 187
    · subst cqz7; exact k6 j (by omega)
    · exact e a j cqz7 (by omega) (by omega) (by omega) (by omega)
/-- what the model may change beside STATUS and the fraction -/
def frZ (σ σ' : Sg) : Prop := ∀ a j : Int, a ≠ 188 → a ≠ 189 → a ≠ 191 → a ≠ 192 → ¬ (a = 182 ∧ ((0 ≤ j ∧ j ≤ 3) ∨ (27 ≤ j ∧ j ≤ 29) ∨ (34 ≤ j ∧ j ≤ 41))) → σ' a j = σ a j
theorem frF.z {σ σ' : Sg} (h : frF σ σ') : frZ σ σ' := fun a j _ _ _ _ p => h a j (by omega)
theorem frQ.z {σ σ' : Sg} (h : frQ σ σ') : frZ σ σ' := fun a j _ _ _ q p => h a j q (by omega)
theorem frU.z {σ σ' : Sg} (h : frU σ σ') : frZ σ σ' := fun a j _ q _ _ p => h a j q (by omega)
theorem IV.q {σ σ1 σ2 : Sg} {r1 r2 : Int} {p : (Int × Int) × Int × Int} (h : IV σ) (u : ((r1, σ1 7 0), σ1 7 1, σ1 7 2) = p) (fu : frFr σ σ1) (t : ((r2, σ2 182 0), σ2 182 2, σ2 182 3) = p) (ft : frZ σ1 σ2) : r1 = r2 ∧ IV σ2 := by
  have z := u.trans t.symm
  have e : ∀ a j : Int, a ≠ 188 → a ≠ 189 → a ≠ 191 → a ≠ 192 → ¬ (a = 182 ∧ ((0 ≤ j ∧ j ≤ 3) ∨ (27 ≤ j ∧ j ≤ 29) ∨ (34 ≤ j ∧ j ≤ 41))) → (a < 48 ∨ (76 ≤ a ∧ a < 161) ∨ a = 180 ∨ 182 ≤ a) → ¬ (a = 7 ∧ 0 ≤ j ∧ j ≤ 2) → σ2 a j = σ a j := fun a j x1 x2 x3 x4 x5 x6 x7 => by
    rw [ft a j x1 x2 x3 x4 x5, fu a j x6 x7]
  have f7 : ∀ j, σ2 7 j = σ1 7 j := fun j => ft 7 j (by decide) (by decide) (by decide) (by decide) (by omega)
  have z0 : σ1 7 0 = σ2 182 0 := congrArg (fun q => q.1.2) z
  have z1 : σ1 7 1 = σ2 182 2 := congrArg (fun q => q.2.1) z
  have z2 : σ1 7 2 = σ2 182 3 := congrArg (fun q => q.2.2) z
  obtain ⟨hA, hB, hC, hD, hE, hF, hG, hH⟩ := h.2
  have g : ∀ a j : Int, Cel a j → ¬ (a = 7 ∧ (j = 1 ∨ j = 2)) → ¬ (a = 182 ∧ (j = 2 ∨ j = 3)) → σ2 a j = σ a j := fun a j c x y => by
    unfold Cel at c
    exact e a j (by omega) (by omega) (by omega) (by omega) (by omega) (by omega) (by omega)
  unfold Cel at g
  refine ⟨congrArg (fun q => q.1.1) z, ?_, ⟨?_, ?_⟩, hB.cg (fun a j c => g a j (by omega) (by omega) (by omega)), hC.cg (fun a j c => g a j (by omega) (by omega) (by omega)), hD.cg (fun a j c => g a j (by omega) (by omega) (by omega)), hE.cg (fun a j c => g a j (by omega) (by omega) (by omega)), hF.cg (fun a j c => g a j (by omega) (by omega) (by omega)), hG.cg (fun a j c => g a j (by omega) (by omega) (by omega)), hH.cg (fun a j c => g a j (by omega) (by omega) (by omega))⟩
  · unfold IVS; rw [f7]; exact z0
  · rw [f7]; exact z1
  · rw [f7]; exact z2
theorem frT.y {σ σ' : Sg} (h : frT σ σ') : frY σ σ' := fun a j _ _ q p => h a j q p
theorem IV.t {σ σ1 σ2 : Sg} {r1 r2 : Int} {p : Int × Int} (h : IV σ) (u : (r1, σ1 7 0) = p) (fu : frTr σ σ1) (t : (r2, σ2 182 0) = p) (ft : frY σ1 σ2) (hT : Trs σ1 (σ2 183) (σ2 184) (σ2 185)) (hw : WT (σ2 184)) : r1 = r2 ∧ IV σ2 := by
  have z := u.trans t.symm
  obtain ⟨hA, hB, hC, hD, hE, hF, hG, hH⟩ := h.2
  have g : ∀ a j : Int, Cel a j → ¬ (9 ≤ a ∧ a ≤ 16) → ¬ (183 ≤ a ∧ a ≤ 185) → σ2 a j = σ a j := fun a j c x y => by
    unfold Cel at c
    rw [ft a j (by omega) (by omega) (by omega) (by omega), fu a j (by omega) (by omega) (by omega)]
  unfold Cel at g
  refine ⟨congrArg Prod.fst z, ?_, hA.cg (fun a j c => g a j (by omega) (by omega) (by omega)), ⟨hT.fr (fun a j p q => ft a j (by omega) (by omega) (by omega) (by omega)), hw⟩, hC.cg (fun a j c => g a j (by omega) (by omega) (by omega)), hD.cg (fun a j c => g a j (by omega) (by omega) (by omega)), hE.cg (fun a j c => g a j (by omega) (by omega) (by omega)), hF.cg (fun a j c => g a j (by omega) (by omega) (by omega)), hG.cg (fun a j c => g a j (by omega) (by omega) (by omega)), hH.cg (fun a j c => g a j (by omega) (by omega) (by omega))⟩
  unfold IVS
  rw [ft 7 0 (by decide) (by decide) (by decide) (by omega)]; exact congrArg Prod.snd z
theorem BY.bu {y : Int → Int} {i v : Int} (h : BY y) (hv : -128 ≤ v ∧ v ≤ 127) : BY (bu y i v) := fun j => by
  by_cases e : j = i
  · rw [bu_e e]; exact hv
  · rw [bu_n e]; exact h j
theorem byt_r {x s : Int} : -128 ≤ byt x s ∧ byt x s ≤ 127 := by
  unfold byt
  have h1 := Int.le_bmod (x := (z_shr x s).bmod 256) (m := 256) (by decide)
  have h2 := Int.bmod_lt (x := (z_shr x s).bmod 256) (m := 256) (by decide)
  omega
theorem BY.ly {y : Int → Int} {t x : Int} (h : BY y) : ∀ k : Nat, BY (layN y t x k)
  | 0 => h
  | k + 1 => by rw [layN_s]; exact BY.bu (BY.ly h k) byt_r
theorem BY.fd {y : Int → Int} {t p q r s u : Int} (h : BY y) : BY (g_feed y t p q r s u).2 := by
  unfold g_feed; split
  · exact BY.ly (BY.ly (BY.ly (BY.ly (BY.ly h 4) 4) 4) 4) 4
  · exact h
theorem fd_t {y : Int → Int} {t p q r s u : Int} (h : 0 ≤ t ∧ t ≤ 900) : 0 ≤ (g_feed y t p q r s u).1.2 ∧ (g_feed y t p q r s u).1.2 ≤ 900 := by
  unfold g_feed; split
  · rename_i z; exact ⟨by show 0 ≤ t + 20; omega, z⟩
  · exact h
theorem IV.fd {σ σ1 σ2 : Sg} {r1 r2 p q r s u : Int} (h : IV σ) (o : ((r1, σ1 17 0), σ1 18) = g_feed (σ 18) (σ 17 0) p q r s u) (fu : frFd σ σ1) (t : ((r2, σ2 182 8), σ2 186) = g_feed (σ 18) (σ 17 0) p q r s u) (ft : frG σ1 σ2) : r1 = r2 ∧ IV σ2 := by
  have z := o.trans t.symm
  obtain ⟨hA, hB, hC, hD, hE, hF, hG, hH⟩ := h.2
  have g : ∀ a j : Int, a ≠ 186 → ¬ (a = 182 ∧ (j = 1 ∨ j = 8)) → a ≠ 18 → ¬ (a = 17 ∧ j = 0) → σ2 a j = σ a j := fun a j x y x2 y2 => by
    rw [ft a j x y, fu a j x2 y2]
  have f17 : σ2 17 0 = σ1 17 0 := ft 17 0 (by decide) (by omega)
  have f18 : σ2 18 = σ1 18 := rw_e (fun j => ft 18 j (by decide) (by omega))
  refine ⟨congrArg (fun q => q.1.1) z, ?_, hA.cg (fun a j c => g a j (by omega) (by omega) (by omega) (by omega)), hB.cg (fun a j c => g a j (by omega) (by omega) (by omega) (by omega)), ⟨⟨?_, ?_⟩, ?_, ?_⟩, hD.cg (fun a j c => g a j (by omega) (by omega) (by omega) (by omega)), hE.cg (fun a j c => g a j (by omega) (by omega) (by omega) (by omega)), hF.cg (fun a j c => g a j (by omega) (by omega) (by omega) (by omega)), hG.cg (fun a j c => g a j (by omega) (by omega) (by omega) (by omega)), hH.cg (fun a j c => g a j (by omega) (by omega) (by omega) (by omega))⟩
  · unfold IVS; rw [g 7 0 (by decide) (by omega) (by decide) (by omega), g 182 0 (by decide) (by omega) (by decide) (by omega)]; exact h.1
  · rw [f17]; exact congrArg (fun q => q.1.2) z
  · rw [f17, show σ1 17 0 = (g_feed (σ 18) (σ 17 0) p q r s u).1.2 from congrArg (fun q => q.1.2) o]
    exact fd_t hC.1.2
  · rw [f18]; exact congrArg Prod.snd z
  · rw [f18, show σ1 18 = (g_feed (σ 18) (σ 17 0) p q r s u).2 from congrArg Prod.snd o]
    exact hC.2.2.fd
