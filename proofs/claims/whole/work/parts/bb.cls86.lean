/-! ===== the class: SESSIONS taken: what is laid is well nested (text laid by gencls86.py) ===== -/
def NWf (c : Int → Int) : Nat → Int → Int → Prop
  | 0, _, _ => False
  | D + 1, f, t => ∀ s, f ≤ s → s < t → (s < c (1720 + 9 * s + 8) ∧ c (1720 + 9 * s + 8) ≤ t) ∧ (c (1720 + 9 * s) = 7 ∨ c (1720 + 9 * s) = 8 → NWf c D (s + 1) (c (1720 + 9 * s + 8)))
theorem NWf_s {c : Int → Int} {D : Nat} {f t : Int} : NWf c (D + 1) f t ↔ ∀ s, f ≤ s → s < t → (s < c (1720 + 9 * s + 8) ∧ c (1720 + 9 * s + 8) ≤ t) ∧ (c (1720 + 9 * s) = 7 ∨ c (1720 + 9 * s) = 8 → NWf c D (s + 1) (c (1720 + 9 * s + 8))) := Iff.rfl
theorem NWf_0 {c : Int → Int} {f t : Int} (h : NWf c 0 f t) : False := h
theorem NWf.up1 {c : Int → Int} : ∀ (D : Nat) (f t : Int), NWf c D f t → NWf c (D + 1) f t := by
  intro D
  induction D with
  | zero => intro f t h; exact (NWf_0 h).elim
  | succ D ih =>
    intro f t h
    exact NWf_s.mpr (fun s a b => ⟨(NWf_s.mp h s a b).1, fun k => ih _ _ ((NWf_s.mp h s a b).2 k)⟩)
theorem NWf.cg {c c' : Int → Int} : ∀ (D : Nat) (f t : Int), NWf c D f t → (∀ j, 1720 + 9 * f ≤ j → j < 1720 + 9 * t → c' j = c j) → NWf c' D f t := by
  intro D
  induction D with
  | zero => intro f t h _; exact (NWf_0 h).elim
  | succ D ih =>
    intro f t h e
    refine NWf_s.mpr (fun s a b => ?_)
    have z := NWf_s.mp h s a b
    rw [e (1720 + 9 * s + 8) (by omega) (by omega), e (1720 + 9 * s) (by omega) (by omega)]
    exact ⟨z.1, fun k => ih _ _ (z.2 k) (fun j p q => e j (by omega) (by have := z.1; omega))⟩
theorem NWf.jn {c : Int → Int} {D : Nat} {f m t : Int} (h : NWf c D f m) (h2 : NWf c D m t) (hm : m ≤ t) : NWf c D f t := by
  cases D with
  | zero => exact (NWf_0 h).elim
  | succ D =>
    refine NWf_s.mpr (fun s a b => ?_)
    by_cases e : s < m
    · have z := NWf_s.mp h s a e
      exact ⟨⟨z.1.1, by have := z.1; omega⟩, z.2⟩
    · exact NWf_s.mp h2 s (by omega) b
theorem NWf.em {c : Int → Int} {D : Nat} {f : Int} (h : 0 < D) : NWf c D f f := by
  cases D with
  | zero => exact absurd h (by decide)
  | succ D => exact NWf_s.mpr (fun s a b => by exfalso; omega)
theorem s4_k {y : Int → Int} {x : Ps} : (pS4 y x (swI x.1)).2.1 (1720 + 9 * x.1 26) = swI x.1 := by
  rw [pS4_e]; dsimp only; rw [res_j (by omega)]; exact bu_e rfl
theorem en_26 {y : Int → Int} {x : Ps} : (pEn y x).1 26 = x.1 26 := by
  show mMust y (mMust y x.1 (kwI x.1 5572)) _ 26 = _
  rw [must_25 (by omega), must_25 (by omega)]
theorem nw_lp {F : Ps → Ps} {D : Nat} (D0 : 0 < D) (hS : ∀ x, SI0 x → SG0 x (F x)) (hF : ∀ x, SI0 x → (F x).1 12 = 0 → NWf (F x).2.1 D (x.1 26) ((F x).1 26) ∧ ∀ j, j < 1720 + 9 * x.1 26 → (F x).2.1 j = x.2.1 j) : ∀ (k : Nat) (x : Ps), SI0 x → (pLp F k x).1 12 = 0 → NWf (pLp F k x).2.1 D (x.1 26) ((pLp F k x).1 26) ∧ ∀ j, j < 1720 + 9 * x.1 26 → (pLp F k x).2.1 j = x.2.1 j := by
  intro k
  induction k with
  | zero => intro x h hz; exact ⟨NWf.em D0, fun _ _ => rfl⟩
  | succ k ih =>
    intro x h hz
    by_cases c : x.1 12 = 0 ∧ kwI x.1 5572 = 0
    · rw [pLp_s c] at hz ⊢
      have gF := hS x h
      have gL := SG0.lp hS k (F x) gF.1
      have f12 := Gs.zero gL.2.2.1 gF.1.2.1 hz
      have a := hF x h f12
      have b := ih (F x) gF.1 hz
      exact ⟨NWf.jn (NWf.cg D _ _ a.1 (fun j p q => b.2 j q)) b.1 gL.2.2.2.2.2, fun j p => by rw [b.2 j (by have := gF.2.2.2.2.2; omega), a.2 j p]⟩
    · rw [pLp_o c]; exact ⟨NWf.em D0, fun _ _ => rfl⟩
theorem nw_stp {y : Int → Int} : ∀ (D : Nat) (n : Int) (x : Ps), SI0 x → n + (D : Int) = 4 → 0 < D → (pStp y D n x).1 12 = 0 → NWf (pStp y D n x).2.1 D (x.1 26) ((pStp y D n x).1 26) ∧ ∀ j, j < 1720 + 9 * x.1 26 → (pStp y D n x).2.1 j = x.2.1 j := by
  intro D
  induction D with
  | zero => intro n x _ _ h0; exact absurd h0 (by decide)
  | succ D ih =>
    intro n x hI hn _ hz
    have hh : ¬ 0 < pS3 (pS2 (pS1 x.1)) (blk (swI x.1)) n 12 := fun p => by
      rw [stp_f p] at hz
      have hz2 : pS3 (pS2 (pS1 x.1)) (blk (swI x.1)) n 12 = 0 := hz
      omega
    obtain ⟨e, h12, h30, hs, hb⟩ := pS_ok hI.2.1 hh
    have r26 := hI.2.2.1
    have h26 : x.1 26 < 30 := by omega
    have k4 := s4_k (y := y) (x := x)
    have e26 := s4_26 (y := y) (x := x)
    have g4 := (SG0.s4 (y := y) hI (k := swI x.1) h26).1
    rcases blk_01 (swI x.1) with b | b
    · rw [stp_0 e h12 b]
      dsimp only
      refine ⟨NWf_s.mpr (fun s p q => ?_), fun j p => ?_⟩
      · rw [e26] at q
        have es : s = x.1 26 := by omega
        rw [es, bu_e rfl, bu_n (by omega), k4, e26]
        exact ⟨by omega, fun q => by unfold blk at b; rw [if_pos q] at b; exact absurd b (by decide)⟩
      · rw [bu_n (by omega)]; exact s4_j (by omega)
    · have hb2 : ¬ n = 3 := fun q => hb ⟨by omega, q⟩
      have D0 : 0 < D := by omega
      rw [stp_1 e h12 b] at hz ⊢
      dsimp only at hz ⊢
      have gW := SG0.lp (fun z hzz => (SG0.stp (y := y) D (n + 1) z hzz).1) 40 _ g4.1
      have n1 := nw_lp (F := pStp y D (n + 1)) D0 (fun z hzz => (SG0.stp (y := y) D (n + 1) z hzz).1) (fun z hzz q => ih (n + 1) z hzz (by omega) D0 q) 40 _ g4.1
      generalize pLp (pStp y D (n + 1)) 40 (pS4 y x (swI x.1)) = W at hz gW n1 ⊢
      have w12 : W.1 12 = 0 := Gs.zero Gs.pen gW.1.2.1 hz
      obtain ⟨n2, n3⟩ := n1 w12
      have w26 := gW.2.2.2.2.2
      rw [e26] at n2 n3 w26
      rw [en_26]
      show NWf (bu W.2.1 (1720 + 9 * x.1 26 + 8) (W.1 26)) (D + 1) (x.1 26) (W.1 26) ∧ ∀ j, j < 1720 + 9 * x.1 26 → bu W.2.1 (1720 + 9 * x.1 26 + 8) (W.1 26) j = x.2.1 j
      have nw : NWf (bu W.2.1 (1720 + 9 * x.1 26 + 8) (W.1 26)) D (x.1 26 + 1) (W.1 26) := NWf.cg D _ _ n2 (fun j p q => bu_n (by omega))
      refine ⟨NWf_s.mpr (fun s p q => ?_), fun j p => ?_⟩
      · by_cases es : s = x.1 26
        · rw [es, bu_e rfl]; exact ⟨by omega, fun _ => nw⟩
        · exact NWf_s.mp (NWf.up1 D _ _ nw) s (by omega) q
      · rw [bu_n (by omega), n3 j (by omega)]; exact s4_j (by omega)
theorem nw_se {y : Int → Int} : ∀ (k : Nat) (x : Ps), SI0 x → (pSe y k x).1 12 = 0 → NWf (pSe y k x).2.1 4 (x.1 26) ((pSe y k x).1 26) ∧ ∀ j, j < 1720 + 9 * x.1 26 → (pSe y k x).2.1 j = x.2.1 j := by
  intro k
  induction k with
  | zero => intro x h hz; exact ⟨NWf.em (by decide), fun _ _ => rfl⟩
  | succ k ih =>
    intro x h hz
    by_cases c : x.1 12 = 0 ∧ ¬ x.1 14 = 0
    · rw [pSe_s c] at hz ⊢
      have gF := (SG0.stp (y := y) 4 0 x h).1
      have gL := SG0.se (y := y) k (pStp y 4 0 x) gF.1
      have f12 := Gs.zero gL.2.2.1 gF.1.2.1 hz
      have a := nw_stp (y := y) 4 0 x h (by decide) (by decide) f12
      have b := ih (pStp y 4 0 x) gF.1 hz
      exact ⟨NWf.jn (NWf.cg 4 _ _ a.1 (fun j p q => b.2 j q)) b.1 gL.2.2.2.2.2, fun j p => by rw [b.2 j (by have := gF.2.2.2.2.2; omega), a.2 j p]⟩
    · rw [pSe_o c]; exact ⟨NWf.em (by decide), fun _ _ => rfl⟩
theorem nw_swf {c b : Int → Int} {N : Int} (hN : N ≤ 30) (hb : ∀ s i, 0 ≤ s → s < N → 0 ≤ i → i ≤ 8 → b (128 + 9 * s + i) = c (1720 + 9 * s + i)) (hk : ∀ s, 0 ≤ s → s < N → SOK b s) : ∀ (D : Nat) (f t : Int), 0 ≤ f → t ≤ N → NWf c D f t → SWf b D f t := by
  intro D
  induction D with
  | zero => intro f t _ _ h; exact (NWf_0 h).elim
  | succ D ih =>
    intro f t h0 h1 h
    refine ⟨⟨h0, by omega⟩, fun s p q => ?_⟩
    have z := NWf_s.mp h s p q
    have e8 : nxS b s = c (1720 + 9 * s + 8) := hb s 8 (by omega) (by omega) (by decide) (by decide)
    have e0 : b (128 + 9 * s) = c (1720 + 9 * s) := by
      have w := hb s 0 (by omega) (by omega) (by decide) (by decide)
      rw [Int.add_zero, Int.add_zero] at w; exact w
    rw [e8, e0]
    exact ⟨hk s (by omega) (by omega), z.1, fun k => ih _ _ (by omega) (by have := z.1; omega) (z.2 k)⟩
