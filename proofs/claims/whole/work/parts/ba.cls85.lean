/-! ===== the class: SESSIONS taken: the loop (text laid by gencls85.py) ===== -/
theorem FrS.rfl {σ : Sg} : FrS σ σ := fun _ _ _ => Eq.refl _
theorem FrS.tr {σ τ ρ : Sg} (h : FrS σ τ) (h2 : FrS τ ρ) : FrS σ ρ := fun q a b => by rw [h2 q a b, h q a b]
theorem EnO.fr {y g : Int → Int} {σ σ' : Sg} {r n v : Int} (o : EnO y σ σ' r n v g) : FrS σ σ' := fun q a b => o.2.2.2 q b (by omega) (by omega)
def HdG (d L : Nat) (N : Int) (R : Int → Sg → Prop) (σ : Sg) (m : Int) : Prop := ∀ v3 : MV, Go d k_X6_parse 12 [vr 169, vi N, vi m, v3] [] (SH L, σ) (fun v h' => ∃ r, v = some (vi r) ∧ h'.1 = SH L ∧ R r h'.2)
def MIp (m : Int) (x : Ps) : Prop := 0 ≤ m ∧ m ≤ 300 ∧ (¬ x.1 14 = 0 → m < x.1 16) ∧ x.1 9 ≤ 300
theorem MIp.lt {m : Int} {x : Ps} (h : MIp m x) (hI : SI0 x) (h14 : ¬ x.1 14 = 0) : m < 300 := by
  have a := h.2.2.1 h14
  have b := hI.1
  unfold GI at b
  have := h.2.2.2
  omega
theorem MIp.nx {m : Int} {x x' : Ps} (h : MIp m x) (hI : SI0 x) (h14 : ¬ x.1 14 = 0) (s : ¬ x'.1 14 = 0 → x.1 16 < x'.1 16) (e9 : x'.1 9 = x.1 9) : q32 (m + 1) = m + 1 ∧ MIp (m + 1) x' := by
  have a := h.lt hI h14
  have b := h.1
  exact ⟨q32_in (by omega) (by omega), by omega, by omega, fun z => by have := s z; have := h.2.2.1 h14; omega, by rw [e9]; exact h.2.2.2⟩
theorem k32_e {t g : Int → Int} (h : TkC t g) : t 3 = 32 ↔ (g 14 = 1 ∧ g 19 = 5572) := by
  constructor
  · intro q
    by_cases e : g 14 = 1
    · have z := (h.2.1 e).1
      rw [z] at q
      exact ⟨e, ((kix_iff (k := 32) (by decide)).mp q).trans (by decide)⟩
    · have z := h.2.2.1 e
      omega
  · intro q
    rw [(h.2.1 q.1).1, q.2]; decide
theorem blk_01 (k : Int) : blk k = 0 ∨ blk k = 1 := by
  unfold blk; split
  · exact Or.inr rfl
  · exact Or.inl rfl
theorem stp_f {y : Int → Int} {D : Nat} {n : Int} {x : Ps} (h : 0 < pS3 (pS2 (pS1 x.1)) (blk (swI x.1)) n 12) : pStp y (D + 1) n x = (pS3 (pS2 (pS1 x.1)) (blk (swI x.1)) n, x.2) := if_pos h
theorem stp_g {y : Int → Int} {D : Nat} {n : Int} {x : Ps} (e : pS3 (pS2 (pS1 x.1)) (blk (swI x.1)) n = x.1) (h12 : x.1 12 = 0) : pStp y (D + 1) n x = pS5 y (pStp y D (n + 1)) (pS4 y x (swI x.1)) (blk (swI x.1)) (1720 + 9 * x.1 26) := by
  have hh : ¬ 0 < pS3 (pS2 (pS1 x.1)) (blk (swI x.1)) n 12 := by rw [e]; omega
  have q : pStp y (D + 1) n x = pS5 y (pStp y D (n + 1)) (pS4 y (pS3 (pS2 (pS1 x.1)) (blk (swI x.1)) n, x.2) (swI x.1)) (blk (swI x.1)) (1720 + 9 * x.1 26) := if_neg hh
  rw [e] at q
  exact q
theorem stp_0 {y : Int → Int} {D : Nat} {n : Int} {x : Ps} (e : pS3 (pS2 (pS1 x.1)) (blk (swI x.1)) n = x.1) (h12 : x.1 12 = 0) (b : blk (swI x.1) = 0) : pStp y (D + 1) n x = ((pS4 y x (swI x.1)).1, bu (pS4 y x (swI x.1)).2.1 (1720 + 9 * x.1 26 + 8) ((pS4 y x (swI x.1)).1 26), (pS4 y x (swI x.1)).2.2) := by
  rw [stp_g e h12, b]; exact if_pos (Eq.refl _)
theorem stp_1 {y : Int → Int} {D : Nat} {n : Int} {x : Ps} (e : pS3 (pS2 (pS1 x.1)) (blk (swI x.1)) n = x.1) (h12 : x.1 12 = 0) (b : blk (swI x.1) = 1) : pStp y (D + 1) n x = ((pEn y (pLp (pStp y D (n + 1)) 40 (pS4 y x (swI x.1)))).1, bu (pEn y (pLp (pStp y D (n + 1)) 40 (pS4 y x (swI x.1)))).2.1 (1720 + 9 * x.1 26 + 8) ((pEn y (pLp (pStp y D (n + 1)) 40 (pS4 y x (swI x.1)))).1 26), (pEn y (pLp (pStp y D (n + 1)) 40 (pS4 y x (swI x.1)))).2.2) := by
  rw [stp_g e h12, b]; exact if_neg (by decide)
theorem Gs.pen {y : Int → Int} {x : Ps} : Gs x.1 (pEn y x).1 := (show Gs x.1 (mMust y x.1 (kwI x.1 5572)) from Gs.must).tr Gs.must
theorem h_lp {d L : Nat} {N : Int} {R : Int → Sg → Prop} {y : Int → Int} (hd : 6 ≤ d) {D : Nat} {n X26 : Int} {σ : Sg} {P W : Ps} (n0 : 0 ≤ n ∧ n < 3) (D0 : 0 < D) (hn : n + 1 + (D : Int) = 4) (ih : (∀ (n : Int) (σ : Sg) (x : Ps) (m : Int), n + (D : Int) = 4 → 0 < D → SC y σ x n → MIp m x → ¬ x.1 14 = 0 → ¬ (σ 17 3 = 32 ∧ 0 < n) → (∀ (σ' : Sg) (m' : Int), SC y σ' (pStp y D n x) n → MIp m' (pStp y D n x) → (∀ i, 0 ≤ i → i < n → σ' 177 i = σ 177 i) → FrS σ σ' → HdG d L N R σ' m') → (∀ σ' : Sg, TF σ' (pStp y D n x).1 → FrS σ σ' → R 0 σ') → HdG d L N R σ m)) (hP : P = ((pEn y W).1, bu (pEn y W).2.1 (1720 + 9 * X26 + 8) ((pEn y W).1 26), (pEn y W).2.2)) (ho : ∀ i, 0 ≤ i → i < n → σ 177 i < X26) (K : ∀ (σ' : Sg) (m' : Int), SC y σ' P n → MIp m' P → (∀ i, 0 ≤ i → i < n → σ' 177 i = σ 177 i) → FrS σ σ' → HdG d L N R σ' m') (F : ∀ σ' : Sg, TF σ' P.1 → FrS σ σ' → R 0 σ') : ∀ (k : Nat) (τ : Sg) (x : Ps) (m : Int), SC y τ x (n + 1) → MIp m x → 31 ≤ x.1 26 + (k : Int) → τ 177 n = X26 → (∀ i, 0 ≤ i → i < n → τ 177 i = σ 177 i) → FrS σ τ → pLp (pStp y D (n + 1)) k x = W → HdG d L N R τ m := by
  intro k
  induction k with
  | zero =>
    intro τ x m h _ hk _ _ _ _
    exfalso
    have := h.2.1.2.2.1
    omega
  | succ k ihk =>
    intro τ x m h hm hk e1 e2 fr hW
    have hI := h.2.1
    have h12 : x.1 12 = 0 := h.1.2.2.1
    have kE := k32_e h.1.1
    by_cases h14 : x.1 14 = 0
    · intro v3
      have z : swI x.1 < 0 := sw_n h.1.1 (by have := h.1.1.2.2.1 (by omega); omega)
      have ek : kwI x.1 5572 = 0 := bi_f (fun q => by omega)
      have eW : W = (mAmi x.1, x.2) := by
        cases D with
        | zero => omega
        | succ D2 =>
          have g1 := st_1 (b := blk (swI x.1)) (n := n + 1) h12 z
          have p1 : 0 < mAmi x.1 12 := ami_p h12
          have eF : pStp y (D2 + 1) (n + 1) x = (mAmi x.1, x.2) := by rw [stp_f (by rw [g1]; exact p1), g1]
          rw [← hW, pLp_s ⟨h12, ek⟩, eF]
          exact pLp_o (fun q => by have q1 : mAmi x.1 12 = 0 := q.1; omega) _
      refine u_pass h hd (fun q => absurd h14 q) (fun q => absurd h14 q) (fun q => absurd h14 q) (fun q => absurd h14 q) (fun _ _ => ?_) (fun _ q => by exfalso; omega)
      refine F _ ?_ (fr.tr FrS.rf)
      refine TF.gs h.1.ami ?_
      rw [hP, eW]; exact Gs.pen (x := (mAmi x.1, x.2))
    · by_cases ck : τ 17 3 = 32
      · intro v3
        have kq := kE.mp ck
        have ek : ¬ kwI x.1 5572 = 0 := by rw [show kwI x.1 5572 = 1 from bi_t kq]; decide
        have eW : W = x := by rw [← hW]; exact pLp_o (fun q => ek q.2) _
        have en := en_2 (y := y) h12 kq
        have mlt := hm.lt hI h14
        have en1 : n + 1 - 1 = n := by omega
        rw [eW] at hP
        refine u_pass h hd (fun _ q => absurd ⟨ck, by omega⟩ q) (fun _ q => absurd ⟨ck, by omega⟩ q) (fun _ _ σ' v o => ?_) (fun _ _ σ' o => ?_) (fun q _ => by exfalso; omega) (fun q _ => by exfalso; omega)
        · rw [en1] at o
          have hv : ∀ i, 0 ≤ i → i < n → τ 177 i ≠ τ 177 n := fun i a b => by rw [e2 i a b, e1]; have := ho i a b; omega
          have sc := h.en n0 hv o (by decide) kq
          have t12 := (o.1.ok (by decide)).2.2.1
          obtain ⟨q1, mm⟩ := hm.nx (x' := pEn y x) hI h14 (fun z => by rw [en] at z ⊢; exact en_16 hI.1 hI.2.1 t12 z) ((SG0.en (y := y) hI).2.1.1 9 (Or.inl (by decide)))
          rw [e1, ← hP] at sc
          rw [q1]
          exact K σ' (m + 1) sc (by rw [hP]; exact mm) (fun i a b => by rw [o.2.2.2 177 (by decide) (by decide) (by decide)]; exact e2 i a b) (fr.tr o.fr) v
        · rw [en1] at o
          refine F σ' ?_ (fr.tr o.fr)
          have t := o.1.no (Eq.refl _)
          rw [hP]
          show TF σ' (pEn y x).1
          rw [en]; exact t
      · have ek : kwI x.1 5572 = 0 := bi_f (fun q => ck (kE.mpr q))
        rw [pLp_s ⟨h12, ek⟩] at hW
        have gs := SG0.stp (y := y) D (n + 1) x hI
        refine ih (n + 1) τ x m (by omega) D0 h hm h14 (fun q => ck q.1) (fun σ' m' sc' hm' op' fr' => ?_) (fun σ' t fr' => ?_)
        · have z := gs.2 D0 sc'.1.2.2.1
          exact ihk σ' (pStp y D (n + 1) x) m' sc' hm' (by omega) (by rw [op' n n0.1 (by omega)]; exact e1) (fun i a b => by rw [op' i a (by omega)]; exact e2 i a b) (fr.tr fr') hW
        · refine F σ' ?_ (fr.tr fr')
          have eW : W = pStp y D (n + 1) x := by rw [← hW]; exact pLp_o (fun q => by have := t.1; have := q.1; omega) _
          refine t.gs ?_
          rw [hP, eW]; exact Gs.pen
theorem h_stp {d L : Nat} {N : Int} {R : Int → Sg → Prop} {y : Int → Int} (hd : 6 ≤ d) : ∀ D : Nat, (∀ (n : Int) (σ : Sg) (x : Ps) (m : Int), n + (D : Int) = 4 → 0 < D → SC y σ x n → MIp m x → ¬ x.1 14 = 0 → ¬ (σ 17 3 = 32 ∧ 0 < n) → (∀ (σ' : Sg) (m' : Int), SC y σ' (pStp y D n x) n → MIp m' (pStp y D n x) → (∀ i, 0 ≤ i → i < n → σ' 177 i = σ 177 i) → FrS σ σ' → HdG d L N R σ' m') → (∀ σ' : Sg, TF σ' (pStp y D n x).1 → FrS σ σ' → R 0 σ') → HdG d L N R σ m) := by
  intro D
  induction D with
  | zero => intro n σ x m _ h0; exact absurd h0 (by decide)
  | succ D ih =>
    intro n σ x m hn _ h hm h14 hE K F v3
    have hI := h.2.1
    have h12 : x.1 12 = 0 := h.1.2.2.1
    have mlt := hm.lt hI h14
    refine u_pass h hd (fun _ _ σ' v o => ?_) (fun _ _ σ' o => ?_) (fun _ e => absurd e hE) (fun _ e => absurd e hE) (fun e _ => by exfalso; omega) (fun e _ => by exfalso; omega)
    · rcases o with o | o | ⟨e, _, hk, h26, hb, t, ⟨b1, b2⟩, u0, u1, a1, a2, a3, a4, a5⟩
      · exact absurd o.1 (by decide)
      · exact absurd o.2.1 (by decide)
      · have g4 := SG0.s4 (y := y) hI (k := swI x.1) h26
        obtain ⟨q1, mm⟩ := hm.nx (x' := pS4 y x (swI x.1)) hI h14 (fun z => s4_16 hI h26 t.2.2.1 z) (g4.1.2.1.1 9 (Or.inl (by decide)))
        rw [q1]
        rcases blk_01 (swI x.1) with b | b
        · have sc := h.s0 h26 (u0 b).1 (u0 b).2 t b1 b2 a1 a2 a3 a4 a5
          have es := stp_0 (y := y) (D := D) e h12 b
          rw [← es] at sc
          exact K σ' (m + 1) sc (by rw [es]; exact mm) (fun i _ _ => by rw [(u0 b).1]) a5 v
        · have n3 := hb b
          have sc := h.s1 h26 n3 (u1 b).1 (u1 b).2 t b1 b2 a1 a2 a3 a4 a5
          have es := stp_1 (y := y) (D := D) e h12 b
          have ho := h.2.2.2.2.2.2
          have s26 := sc.2.1.2.2.1
          exact h_lp hd (D := D) (n := n) (X26 := x.1 26) (σ := σ) (P := pStp y (D + 1) n x) (W := pLp (pStp y D (n + 1)) 40 (pS4 y x (swI x.1))) ⟨h.2.2.2.1.2.2.1, n3⟩ (by omega) (by omega) ih es (fun i a c => (ho i a c).2) K F 40 σ' (pS4 y x (swI x.1)) (m + 1) sc mm (by omega) (by rw [(u1 b).1, bu_e (Eq.refl _)]) (fun i a c => by rw [(u1 b).1, bu_n (by omega)]) a5 (Eq.refl _) v
    · rcases o with ⟨_, p, t, f⟩ | ⟨e, _, t, f⟩ | o
      · exact F σ' (by rw [stp_f p]; exact t) f
      · refine F σ' ?_ f
        rw [stp_g e h12]
        have h26 : x.1 26 < 30 := by
          have ok := pS_ok (n := n) hI.2.1 (by rw [e]; omega)
          have := hI.2.2.1
          have := ok.2.2.1
          omega
        have g4 := SG0.s4 (y := y) hI (k := swI x.1) h26
        exact t.gs (SG0.s5 (fun z hz => (SG0.stp D (n + 1) z hz).1) g4.1.1 (by have := hI.2.2.1; omega)).2.2.1
      · exact absurd o.2.1 (by decide)
theorem h_se {d L : Nat} {N : Int} {R : Int → Sg → Prop} {y : Int → Int} (hd : 6 ≤ d) {σ : Sg} {W : Ps} (K : ∀ σ' : Sg, SC y σ' W 0 → FrS σ σ' → R 1 (up σ' 170 0 1)) (F : ∀ σ' : Sg, TF σ' W.1 → FrS σ σ' → R 0 σ') : ∀ (k : Nat) (τ : Sg) (x : Ps) (m : Int), SC y τ x 0 → MIp m x → 31 ≤ x.1 26 + (k : Int) → FrS σ τ → pSe y k x = W → HdG d L N R τ m := by
  intro k
  induction k with
  | zero =>
    intro τ x m h _ hk _ _
    exfalso
    have := h.2.1.2.2.1
    omega
  | succ k ihk =>
    intro τ x m h hm hk fr hW
    have hI := h.2.1
    have h12 : x.1 12 = 0 := h.1.2.2.1
    by_cases h14 : x.1 14 = 0
    · intro v3
      have eW : W = x := by rw [← hW]; exact pSe_o (fun q => q.2 h14) _
      rw [eW] at K
      exact u_pass h hd (fun q => absurd h14 q) (fun q => absurd h14 q) (fun q => absurd h14 q) (fun q => absurd h14 q) (fun _ q => by exfalso; omega) (fun _ _ => K τ h fr)
    · rw [pSe_s ⟨h12, h14⟩] at hW
      have gs := SG0.stp (y := y) 4 0 x hI
      refine h_stp hd 4 0 τ x m (by decide) (by decide) h hm h14 (fun q => by omega) (fun σ' m' sc' hm' op' fr' => ?_) (fun σ' t fr' => ?_)
      · have z := gs.2 (by decide) sc'.1.2.2.1
        exact ihk σ' (pStp y 4 0 x) m' sc' hm' (by omega) (fr.tr fr') hW
      · refine F σ' ?_ (fr.tr fr')
        have eW : W = pStp y 4 0 x := by rw [← hW]; exact pSe_o (fun q => by have := t.1; have := q.1; omega) _
        rw [eW]; exact t
