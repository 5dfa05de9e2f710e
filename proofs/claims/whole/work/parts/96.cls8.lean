/-! ===== the class: weighing, as the others use it (text laid by gencls8.py) ===== -/
theorem WB.yd {b b' : Int → Int} (h : WB b) (e : ∀ j, ¬ (24 ≤ j ∧ j < 34) → (j < 4 ∨ 6 < j) → b' j = b j) (hl : (1 ≤ b' 4 ∧ b' 4 ≤ 999) ∧ (0 ≤ b' 5 ∧ b' 5 ≤ 99) ∧ (0 ≤ b' 6 ∧ b' 6 ≤ 2)) (y : ∀ m, 0 ≤ m → m < b 1 → 0 ≤ b' (24 + m) ∧ b' (24 + m) ≤ 999) : WB b' := by
  have h1 := h.2.1
  have h2 := h.2.2.1
  have h3 := h.2.2.2.1
  obtain ⟨a0, a1, a2, a3, a4, a5, a6, a7, a8, a9, am, ak, ar⟩ := h
  have e1 : b' 1 = b 1 := e 1 (by omega) (by omega)
  have e0 : b' 0 = b 0 := e 0 (by omega) (by omega)
  have e2 : b' 2 = b 2 := e 2 (by omega) (by omega)
  have e3 : b' 3 = b 3 := e 3 (by omega) (by omega)
  have e8 : b' 8 = b 8 := e 8 (by omega) (by omega)
  refine ⟨by rw [e0]; exact a0, by rw [e1]; exact a1, by rw [e2]; exact a2, by rw [e3]; exact a3, hl.1, hl.2.1, hl.2.2, by rw [e 7 (by omega) (by omega)]; exact a7, by rw [e8]; exact a8, fun j x z => by rw [e j (by omega) (by omega), e8]; exact a9 j x z, fun m x z => ?_, fun k x z => ?_, fun r x z => ?_⟩
  · rw [e1] at z
    have w := am m x z
    have hy := y m x z
    unfold WM at *
    rw [e (14 + m) (by omega) (by omega), e (34 + m) (by omega) (by omega), e (44 + m) (by omega) (by omega), e (54 + m) (by omega) (by omega), e (64 + m) (by omega) (by omega), e (74 + m) (by omega) (by omega), e (84 + m) (by omega) (by omega), e (94 + m) (by omega) (by omega), e0, e1]
    exact ⟨w.1, hy, w.2.2⟩
  · rw [e2] at z; rw [e (104 + k) (by omega) (by omega), e (109 + k) (by omega) (by omega)]; exact ak k x z
  · rw [e3] at z; rw [e (114 + r) (by omega) (by omega), e (120 + r) (by omega) (by omega)]; exact ar r x z
theorem scb_w {at' f b : Int → Int} (B : WB b) (hL : Ld f at' b) : WB (scb at' f b) := by
  have hb := B.2.1
  refine B.yd (fun j x y => ?_) ?_ (fun m x y => by rw [scb_y x y]; exact hL.2.2.2.2 m x y)
  · exact scb_o hb.2 (by omega)
  · rw [scb_4.1, scb_4.2.1, scb_4.2.2]; exact ⟨hL.2.1, hL.2.2.1, hL.2.2.2.1⟩
theorem yAf_r {r : Int → Int} {t : Int} (h : 0 ≤ r 2 ∧ r 2 ≤ 999) (h3 : 0 ≤ r 3) (ht : 0 ≤ t) : 0 ≤ yAf r t ∧ yAf r t ≤ 999 := by
  have hm : 0 ≤ r 3 * t := Int.mul_nonneg h3 ht
  unfold yAf; repeat' split
  all_goals omega
theorem yRow_r {b : Int → Int} (B : WB b) {m t : Int} (h1 : 0 ≤ m) (h2 : m < b 1) (ht : 0 ≤ t) : 0 ≤ yRow b t m ∧ yRow b t m ≤ 999 := by
  have w := B.wm h1 h2
  unfold WM at w
  exact yAf_r (r := mrow b m) (by show 0 ≤ b (24 + m) ∧ b (24 + m) ≤ 999; omega) (by show 0 ≤ b (34 + m); omega) ht
def bT (b : Int → Int) (t : Int) : Int → Int := fun j => if 24 ≤ j ∧ j < 24 + b 1 then yRow b t (j - 24) else b j
theorem yRow_0 {b : Int → Int} (B : WB b) {m : Int} (h1 : 0 ≤ m) (h2 : m < b 1) : yRow b 0 m = b (24 + m) := by
  have w := B.wm h1 h2
  unfold WM at w
  unfold yRow yAf
  have e2 : mrow b m 2 = b (24 + m) := rfl
  rw [e2, Int.mul_zero]
  repeat' split
  all_goals omega
theorem bT_0 {b : Int → Int} (B : WB b) : bT b 0 = b := by
  funext j; unfold bT; split
  · next c => rw [yRow_0 B (by omega) (by omega)]; congr 1; omega
  · rfl
theorem ldR_v {f b : Int → Int} {A : Int} : ldR f b A 0 = A ∧ ldR f b A 1 = b 4 ∧ ldR f b A 2 = b 5 ∧ ldR f b A 3 = b 6 ∧ ldR f b A 4 = mAll b := by unfold ldR; simp (disch := omega) only [bu_e, bu_n, and_self]
theorem Ld.of {f b g : Int → Int} {A t : Int} (B : WB b) (ht : 0 ≤ t) : Ld (ldR f b A) (r10 (b 1) (yRow b t) g) b := by
  have v := ldR_v (f := f) (b := b) (A := A)
  refine ⟨v.2.2.2.2, by rw [v.2.1]; exact B.2.2.2.2.1, by rw [v.2.2.1]; exact B.2.2.2.2.2.1, by rw [v.2.2.2.1]; exact B.2.2.2.2.2.2.1, fun m x y => by rw [r10_in ⟨x, y⟩]; exact yRow_r B x y ht⟩
theorem scb_T {f b g : Int → Int} {A t : Int} : scb (r10 (b 1) (yRow b t) g) (ldR f b A) b = bT b t := by
  have v := ldR_v (f := f) (b := b) (A := A)
  funext j; unfold scb bT
  by_cases c : 24 ≤ j ∧ j < 24 + b 1
  · rw [if_pos c, if_pos c, r10_in (by omega)]
  · rw [if_neg c, if_neg c, v.2.1, v.2.2.1, v.2.2.2.1]
    by_cases c4 : j = 4
    · rw [if_pos c4, c4]
    · by_cases c5 : j = 5
      · rw [if_neg c4, if_pos c5, c5]
      · by_cases c6 : j = 6
        · rw [if_neg c4, if_neg c5, if_pos c6, c6]
        · rw [if_neg c4, if_neg c5, if_neg c6]
def frSc (σ σ' : Sg) : Prop := ∀ a, a ≠ 161 → a ≠ 162 → a ≠ 163 → a ≠ 164 → σ' a = σ a
theorem v_weigh20 {d L : Nat} {σ : Sg} {b : Int → Int} (hA : Asm σ 20 b) (B : WB b) (h0 : σ 161 0 = 20) (hL : Ld (σ 161) (σ 162) b) (hd : 1 ≤ d) : cV d m_X4_weigh [vr 161] (SH L) σ (fun σ' => Wgh σ' 20 (scb (σ 162) (σ 161) b) ∧ (∀ a, a ≠ 161 → a ≠ 163 → a ≠ 164 → σ' a = σ a) ∧ (∀ j, j ≠ 6 → σ' 161 j = σ 161 j)) := by
  refine cV.he (sc_id h0) ((u_weigh20 (L := L) (d := d) (σ := σ) (f := σ 161) hA B hL hd).mono (fun σ' q => ?_))
  have hb := B.2.1
  have s1 : scb (σ 162) (σ 161) b 1 = b 1 := scb_o hb.2 (by omega)
  rw [q]
  refine ⟨⟨by simp (disch := omega) only [sr_n, sr_e, bu_e], fun p x y => ?_, fun m x y => ?_, ?_, ?_, ?_, ?_, fun k x y => ?_⟩, fun a x y z => by rw [sr_n z, sr_n y, sr_n x], fun j hj => ?_⟩
  · rw [sr_e rfl, r10_in ⟨x, y⟩, s1]; rfl
  · rw [s1] at y; rw [sr_n (by decide), sr_e rfl, r10_in ⟨x, y⟩]; rfl
  · rw [s1]; simp (disch := omega) only [sr_n, sr_e, bu_n, bu_e]; rfl
  · simp (disch := omega) only [sr_n]; rw [scb_o hb.2 (by omega)]; exact hA.1.1
  · simp (disch := omega) only [sr_n]; rw [s1]; exact hA.1.2.1
  · simp (disch := omega) only [sr_n]; rw [scb_o hb.2 (by omega)]; exact hA.1.2.2.1
  · rw [scb_o hb.2 (by omega)] at y; have h5 := B.2.2.1
    rw [scb_o hb.2 (by omega), scb_o hb.2 (by omega)]
    show sr (sr (sr σ 161 _) 163 _) 164 _ 26 k = _ ∧ sr (sr (sr σ 161 _) 163 _) 164 _ 27 k = _
    simp (disch := omega) only [sr_n]; exact hA.2.2.2.2.1 k x y
  · simp (disch := omega) only [sr_n, sr_e]
    by_cases z : j = 0
    · subst z; rw [bu_e rfl]; exact h0.symm
    · rw [bu_n z, bu_n hj]
theorem v_load20 {d L : Nat} {σ : Sg} {b : Int → Int} {t : Int} (hA : Asm σ 20 b) (B : WB b) (ht : 0 ≤ t ∧ t ≤ 600) (hd : 1 ≤ d) : cV d m_X4_load [vr 161, vr 20, vi t] (SH L) σ (fun σ' => σ' 161 0 = 20 ∧ Ld (σ' 161) (σ' 162) b ∧ scb (σ' 162) (σ' 161) b = bT b t ∧ Asm σ' 20 b ∧ (∀ a, a ≠ 161 → a ≠ 162 → σ' a = σ a) ∧ (∀ m, 0 ≤ m → m < b 1 → σ' 162 m = yRow b t m)) := by
  refine (u_load20 (L := L) (d := d) hA B ht hd).mono (fun σ' q => ?_)
  have e1 : σ' 161 = ldR (σ 161) b 20 := by rw [q]; simp (disch := omega) only [sr_n, sr_e]
  have e2 : σ' 162 = r10 (b 1) (yRow b t) (σ 162) := by rw [q]; simp (disch := omega) only [sr_e]
  have e3 : ∀ a, a ≠ 161 → a ≠ 162 → σ' a = σ a := fun a x y => by rw [q, sr_n y, sr_n x]
  refine ⟨by rw [e1]; exact ldR_v.1, by rw [e1, e2]; exact Ld.of B ht.1, by rw [e1, e2]; exact scb_T, hA.fr (fun a x y => e3 a (by omega) (by omega)) B.2.1, e3, fun m x y => by rw [e2]; exact r10_in ⟨x, y⟩⟩
theorem v_weigh48 {d L : Nat} {σ : Sg} {b : Int → Int} (hA : Asm σ 48 b) (B : WB b) (h0 : σ 161 0 = 48) (hL : Ld (σ 161) (σ 162) b) (hd : 1 ≤ d) : cV d m_X4_weigh [vr 161] (SH L) σ (fun σ' => Wgh σ' 48 (scb (σ 162) (σ 161) b) ∧ (∀ a, a ≠ 161 → a ≠ 163 → a ≠ 164 → σ' a = σ a) ∧ (∀ j, j ≠ 6 → σ' 161 j = σ 161 j)) := by
  refine cV.he (sc_id h0) ((u_weigh48 (L := L) (d := d) (σ := σ) (f := σ 161) hA B hL hd).mono (fun σ' q => ?_))
  have hb := B.2.1
  have s1 : scb (σ 162) (σ 161) b 1 = b 1 := scb_o hb.2 (by omega)
  rw [q]
  refine ⟨⟨by simp (disch := omega) only [sr_n, sr_e, bu_e], fun p x y => ?_, fun m x y => ?_, ?_, ?_, ?_, ?_, fun k x y => ?_⟩, fun a x y z => by rw [sr_n z, sr_n y, sr_n x], fun j hj => ?_⟩
  · rw [sr_e rfl, r10_in ⟨x, y⟩, s1]; rfl
  · rw [s1] at y; rw [sr_n (by decide), sr_e rfl, r10_in ⟨x, y⟩]; rfl
  · rw [s1]; simp (disch := omega) only [sr_n, sr_e, bu_n, bu_e]; rfl
  · simp (disch := omega) only [sr_n]; rw [scb_o hb.2 (by omega)]; exact hA.1.1
  · simp (disch := omega) only [sr_n]; rw [s1]; exact hA.1.2.1
  · simp (disch := omega) only [sr_n]; rw [scb_o hb.2 (by omega)]; exact hA.1.2.2.1
  · rw [scb_o hb.2 (by omega)] at y; have h5 := B.2.2.1
    rw [scb_o hb.2 (by omega), scb_o hb.2 (by omega)]
    show sr (sr (sr σ 161 _) 163 _) 164 _ 54 k = _ ∧ sr (sr (sr σ 161 _) 163 _) 164 _ 55 k = _
    simp (disch := omega) only [sr_n]; exact hA.2.2.2.2.1 k x y
  · simp (disch := omega) only [sr_n, sr_e]
    by_cases z : j = 0
    · subst z; rw [bu_e rfl]; exact h0.symm
    · rw [bu_n z, bu_n hj]
theorem v_load48 {d L : Nat} {σ : Sg} {b : Int → Int} {t : Int} (hA : Asm σ 48 b) (B : WB b) (ht : 0 ≤ t ∧ t ≤ 600) (hd : 1 ≤ d) : cV d m_X4_load [vr 161, vr 48, vi t] (SH L) σ (fun σ' => σ' 161 0 = 48 ∧ Ld (σ' 161) (σ' 162) b ∧ scb (σ' 162) (σ' 161) b = bT b t ∧ Asm σ' 48 b ∧ (∀ a, a ≠ 161 → a ≠ 162 → σ' a = σ a) ∧ (∀ m, 0 ≤ m → m < b 1 → σ' 162 m = yRow b t m)) := by
  refine (u_load48 (L := L) (d := d) hA B ht hd).mono (fun σ' q => ?_)
  have e1 : σ' 161 = ldR (σ 161) b 48 := by rw [q]; simp (disch := omega) only [sr_n, sr_e]
  have e2 : σ' 162 = r10 (b 1) (yRow b t) (σ 162) := by rw [q]; simp (disch := omega) only [sr_e]
  have e3 : ∀ a, a ≠ 161 → a ≠ 162 → σ' a = σ a := fun a x y => by rw [q, sr_n y, sr_n x]
  refine ⟨by rw [e1]; exact ldR_v.1, by rw [e1, e2]; exact Ld.of B ht.1, by rw [e1, e2]; exact scb_T, hA.fr (fun a x y => e3 a (by omega) (by omega)) B.2.1, e3, fun m x y => by rw [e2]; exact r10_in ⟨x, y⟩⟩
theorem bT_w {b : Int → Int} (B : WB b) {t : Int} (ht : 0 ≤ t) : WB (bT b t) := by
  have hb := B.2.1
  have e : ∀ j, ¬ (24 ≤ j ∧ j < 34) → bT b t j = b j := fun j x => if_neg (by omega)
  refine B.yd (fun j x _ => e j x) ?_ (fun m x y => ?_)
  · rw [e 4 (by omega), e 5 (by omega), e 6 (by omega)]; exact ⟨B.2.2.2.2.1, B.2.2.2.2.2.1, B.2.2.2.2.2.2.1⟩
  · unfold bT; rw [if_pos (by omega), show 24 + m - 24 = m by omega]; exact yRow_r B x y ht
theorem u_weighIn {d L : Nat} {σ : Sg} {t : Int} (ht : 0 ≤ t ∧ t ≤ 600) {b : Int → Int} (hA : Asm σ 20 b) (B : WB b) (hd : 2 ≤ d) : cV d m_X11_weighIn [vr 7, vi t] (SH L) σ (fun σ' => Wgh σ' 20 (bT b t) ∧ frSc σ σ') :=
  cV.go rfl rfl (Go.sym (cut := []) 11 ⟨rfl, ⟨rfl, ⟨⟨nb rfl, nb rfl, rfl⟩, ⟨d0 hd, nb rfl⟩, cV.bind (v_load20 hA B (by omega) (ds (by omega : 1 + 1 ≤ d))) (fun σ1 ⟨h0, hL, hS, hA1, hF, _⟩ => ⟨rfl, ⟨⟨nb rfl, nb rfl, rfl⟩, ⟨d0 hd, nb rfl⟩, cV.bind (v_weigh20 hA1 B h0 hL (ds (by omega : 1 + 1 ≤ d))) (fun σ2 ⟨q1, q2, q3⟩ => ⟨rfl, rfl, (by rw [hS] at q1; exact ⟨q1, fun a x y z u => (q2 a x z u).trans (hF a x y)⟩)⟩)⟩⟩)⟩⟩⟩)
theorem u_weighNow {d L : Nat} {σ : Sg} {b : Int → Int} (hA : Asm σ 20 b) (B : WB b) (hd : 3 ≤ d) : cV d m_X11_weighNow [vr 7] (SH L) σ (fun σ' => Wgh σ' 20 b ∧ frSc σ σ') :=
  cV.go rfl rfl (Go.sym (cut := []) 5 ⟨⟨nb rfl, nb rfl, rfl⟩, ⟨d0 hd, nb rfl⟩, cV.bind (u_weighIn (by omega) hA B (ds (by omega : 2 + 1 ≤ d))) (fun σ1 ⟨q1, q2⟩ => ⟨rfl, rfl, (by rw [bT_0 B] at q1; exact ⟨q1, q2⟩)⟩)⟩)
