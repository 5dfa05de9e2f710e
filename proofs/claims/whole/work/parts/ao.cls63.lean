/-! ===== the class: PARTS taken: the LAW, PARTIES (text laid by gencls63.py) ===== -/
def DFm (b : Int → Int) : Prop := ∀ m, b 1 ≤ m → m < 10 → b (34 + m) = 5 ∧ b (44 + m) = 10 ∧ b (54 + m) = 0 ∧ b (64 + m) = -1 ∧ b (74 + m) = 0 ∧ b (84 + m) = 0 ∧ b (94 + m) = -1
def PD (σ : Sg) (x : Ps) : Prop := DC σ x.2.1 x.2.2 ∧ σ 168 2 = x.1 25 ∧ DFm (bk x.2.1) ∧ (σ 59 0 = 0 ∧ σ 59 1 = 0 ∧ bk x.2.1 126 = 0 ∧ bk x.2.1 127 = 0)
def PC (y : Int → Int) (σ : Sg) (x : Ps) : Prop := TC y σ x.1 ∧ PD σ x
def PO (y : Int → Int) (σ : Sg) (r : Int) (x : Ps) : Prop := (r = 1 ∧ PC y σ x) ∨ (r = 0 ∧ TF σ x.1)
def frPr (σ σ' : Sg) : Prop := ∀ q, q ≠ 17 → ¬ (48 ≤ q ∧ q ≤ 75) → q ≠ 168 → σ' q = σ q
theorem frPr.rfl {σ : Sg} : frPr σ σ := fun _ _ _ _ => Eq.refl _
theorem frPr.tr {σ σ1 σ2 : Sg} (h : frPr σ σ1) (h2 : frPr σ1 σ2) : frPr σ σ2 := fun q a b c => (h2 q a b c).trans (h q a b c)
theorem frPr.tp {σ σ' : Sg} (h : frTp σ σ') : frPr σ σ' := fun q a _ _ => h q a
theorem frPr.u {σ : Sg} {a j v : Int} (h : a = 17 ∨ (48 ≤ a ∧ a ≤ 75) ∨ a = 168) : frPr σ (up σ a j v) := fun q x1 x2 x3 => up_row (by omega)
theorem TO.ok {y g : Int → Int} {σ : Sg} {r : Int} (h : TO y σ r g) (z : ¬ r = 0) : TC y σ g := h.elim (fun q => q.2) (fun q => absurd q.1 z)
theorem TO.no {y g : Int → Int} {σ : Sg} {r : Int} (h : TO y σ r g) (z : r = 0) : TF σ g := h.elim (fun q => absurd (q.1.symm.trans z) (by decide)) (fun q => q.2)
theorem TO.b {y g : Int → Int} {σ : Sg} {r : Int} (h : TO y σ r g) : r = 0 ∨ r = 1 := h.elim (fun q => Or.inr q.1) (fun q => Or.inl q.1)
theorem TO.e {y g : Int → Int} {σ : Sg} {r : Int} (h : TO y σ r g) (z : ¬ r = 0) : r = 1 := h.elim (fun q => q.1) (fun q => absurd q.1 z)
theorem TC.b25 {y g : Int → Int} {σ : Sg} {v j : Int} (h : TC y σ g) (hj : j = 25 ∨ j = 26) : TC y σ (bu g j v) := by
  obtain ⟨h1, h2, h3, h4⟩ := h
  refine ⟨?_, bu25_gi h2 hj, by rw [bu_n (by omega)]; exact h3, h4⟩
  unfold TkC at *
  rw [bu_n (show (9 : Int) ≠ j by omega), bu_n (show (15 : Int) ≠ j by omega), bu_n (show (16 : Int) ≠ j by omega), bu_n (show (14 : Int) ≠ j by omega), bu_n (show (19 : Int) ≠ j by omega), bu_n (show (18 : Int) ≠ j by omega), bu_n (show (17 : Int) ≠ j by omega)]; exact h1
theorem must_25 {y g : Int → Int} {b j : Int} (hj : j < 12 ∨ 19 < j) : mMust y g b j = g j := by
  unfold mMust; split
  · rfl
  · split
    · unfold mAmi; exact mFail_f (by omega)
    · exact mAdv_f (by omega)
theorem cou_25 {y g : Int → Int} {lo hi j : Int} (hj : j < 12 ∨ 19 < j) : (mCou y g lo hi).2 j = g j := by
  have e1 : mCo1 g j = g j := by unfold mCo1; split; (unfold mAmi; exact mFail_f (by omega)); rfl
  have e2 : mCo2 (mCo1 g) lo hi j = mCo1 g j := by unfold mCo2; split; (exact mFail_f (by omega)); rfl
  unfold mCou mCo3; split
  · exact e2.trans e1
  · show mAdv y _ j = _; rw [mAdv_f (by omega)]; exact e2.trans e1
theorem PD.fr {σ σ' : Sg} {x x' : Ps} (h : PD σ x) (e : ∀ q, 48 ≤ q → q ≤ 75 → σ' q = σ q) (e2 : σ' 168 2 = σ 168 2) (ec : x'.2 = x.2) (eg : x'.1 25 = x.1 25) : PD σ' x' := by
  obtain ⟨h1, h2, h3, h4⟩ := h
  refine ⟨?_, ?_, ?_, ?_⟩
  · rw [ec]; exact h1.fr e
  · rw [e2, eg]; exact h2
  · rw [ec]; exact h3
  · rw [ec, e 59 (by decide) (by decide)]; exact h4
theorem sgI_e {g : Int → Int} : bi (g 14 = 3 ∧ g 17 = 59) = sgI g := rfl
theorem PD.cl {y : Int → Int} {σ σ' : Sg} {x x2 : Ps} {r : Int} (e : pPart y x = x2) (h : PD σ x2) (o : TO y σ' r (mMust y x2.1 (sgI x2.1))) (f : frTp σ σ') : PO y σ' r (pAsB y x) := by
  have e3 : pAsB y x = (mMust y x2.1 (sgI x2.1), x2.2) := by unfold pAsB; rw [e]; rfl
  rw [e3]
  rcases o with ⟨a, b⟩ | ⟨a, b⟩
  · exact Or.inl ⟨a, b, h.fr (fun q x1 x2 => f q (by omega)) (by rw [f 168 (by decide)]) rfl (must_25 (by omega))⟩
  · exact Or.inr ⟨a, b⟩
theorem pf {y : Int → Int} {σ : Sg} {x : Ps} {r : Int} (hr : r = 0) (h : TF σ (pPart y x).1) : PO y σ r (pAsB y x) := Or.inr ⟨hr, h.gs Gs.must⟩
theorem kw_no {g : Int → Int} {v : Int} (h : ¬ g 19 = v) : ¬ kwI g v = 1 := by unfold kwI; rw [bi_f (fun q => h q.2)]; decide
theorem kw_ye {g : Int → Int} {v : Int} (h1 : g 14 = 1) (h2 : g 19 = v) : kwI g v = 1 := bi_t ⟨h1, h2⟩
theorem bk_b {c : Int → Int} {i j v : Int} (h : i = 1592 + j) : bk (bu c i v) = bu (bk c) j v := by
  subst h; funext k; unfold bk bu
  by_cases e : k = j
  · rw [if_pos (by omega), if_pos e]
  · rw [if_neg (by omega), if_neg e]
theorem wk_b {c : Int → Int} {i j v : Int} (h : i = 160 + j) : wk (bu c i v) = bu (wk c) j v := by
  subst h; funext k; unfold wk bu
  by_cases e : k = j
  · rw [if_pos (by omega), if_pos e]
  · rw [if_neg (by omega), if_neg e]
theorem part_0 {y : Int → Int} {x : Ps} (h1 : x.1 14 = 1) (h2 : x.1 19 = 6194) : pPart y x = pOnce y x 0 1 999 := by
  unfold pPart
  rw [if_pos (kw_ye h1 h2)]
theorem part_1 {y : Int → Int} {x : Ps} (h1 : x.1 14 = 1) (h2 : x.1 19 = 89728164) : pPart y x = pOnce y x 1 0 99 := by
  unfold pPart
  rw [if_neg (kw_no (by rw [h2]; decide)), if_pos (kw_ye h1 h2)]
theorem part_2 {y : Int → Int} {x : Ps} (h1 : x.1 14 = 1) (h2 : x.1 19 = 9612) : pPart y x = pOnce y x 2 0 2 := by
  unfold pPart
  rw [if_neg (kw_no (by rw [h2]; decide)), if_neg (kw_no (by rw [h2]; decide)), if_pos (kw_ye h1 h2)]
theorem part_3 {y : Int → Int} {x : Ps} (h1 : x.1 14 = 1) (h2 : x.1 19 = 71052) : pPart y x = pOnce y x 3 1 60 := by
  unfold pPart
  rw [if_neg (kw_no (by rw [h2]; decide)), if_neg (kw_no (by rw [h2]; decide)), if_neg (kw_no (by rw [h2]; decide)), if_pos (kw_ye h1 h2)]
theorem part_4 {y : Int → Int} {x : Ps} (h1 : x.1 14 = 1) (h2 : x.1 19 = 16829081) : pPart y x = pPty y x := by
  unfold pPart
  rw [if_neg (kw_no (by rw [h2]; decide)), if_neg (kw_no (by rw [h2]; decide)), if_neg (kw_no (by rw [h2]; decide)), if_neg (kw_no (by rw [h2]; decide)), if_pos (kw_ye h1 h2)]
theorem part_5 {y : Int → Int} {x : Ps} (h1 : x.1 14 = 1) (h2 : x.1 19 = 441878706) : pPart y x = pMem y x := by
  unfold pPart
  rw [if_neg (kw_no (by rw [h2]; decide)), if_neg (kw_no (by rw [h2]; decide)), if_neg (kw_no (by rw [h2]; decide)), if_neg (kw_no (by rw [h2]; decide)), if_neg (kw_no (by rw [h2]; decide)), if_pos (kw_ye h1 h2)]
theorem part_13 {y : Int → Int} {x : Ps} (h1 : x.1 14 = 1) (h2 : x.1 19 = 21734867) : pPart y x = pTwi y x := by
  unfold pPart
  rw [if_neg (kw_no (by rw [h2]; decide)), if_neg (kw_no (by rw [h2]; decide)), if_neg (kw_no (by rw [h2]; decide)), if_neg (kw_no (by rw [h2]; decide)), if_neg (kw_no (by rw [h2]; decide)), if_neg (kw_no (by rw [h2]; decide)), if_pos (kw_ye h1 h2)]
theorem part_14 {y : Int → Int} {x : Ps} (h1 : x.1 14 = 1) (h2 : x.1 19 = 452601326) : pPart y x = pMot y x := by
  unfold pPart
  rw [if_neg (kw_no (by rw [h2]; decide)), if_neg (kw_no (by rw [h2]; decide)), if_neg (kw_no (by rw [h2]; decide)), if_neg (kw_no (by rw [h2]; decide)), if_neg (kw_no (by rw [h2]; decide)), if_neg (kw_no (by rw [h2]; decide)), if_neg (kw_no (by rw [h2]; decide)), if_pos (kw_ye h1 h2)]
theorem part_17 {y : Int → Int} {x : Ps} (h1 : x.1 14 = 1) (h2 : x.1 19 = 605677) : pPart y x = pRoo y x := by
  unfold pPart
  rw [if_neg (kw_no (by rw [h2]; decide)), if_neg (kw_no (by rw [h2]; decide)), if_neg (kw_no (by rw [h2]; decide)), if_neg (kw_no (by rw [h2]; decide)), if_neg (kw_no (by rw [h2]; decide)), if_neg (kw_no (by rw [h2]; decide)), if_neg (kw_no (by rw [h2]; decide)), if_neg (kw_no (by rw [h2]; decide)), if_pos (kw_ye h1 h2)]
theorem Asm.l8 {σ : Sg} {b : Int → Int} {x v : Int} (h : Asm σ 48 b) (hx : 0 ≤ x ∧ x ≤ 3) : Asm (up σ 49 x v) 48 (bu b (4 + x) v) := by
  obtain ⟨a1, a2, a3, a4, a5, a6⟩ := h
  have key : ∀ a j, ¬ (a = 49 ∧ j = x) → up σ 49 x v a j = σ a j := fun a j q => by unfold up; rw [if_neg q]
  have ky2 : ∀ a, a ≠ 49 → up σ 49 x v a = σ a := fun a q => by funext j; exact key a j (fun z => q z.1)
  have kb : ∀ j, j ≠ 4 + x → bu b (4 + x) v j = b j := fun j q => bu_n q
  refine ⟨?_, ?_, ⟨fun j x y => ?_, ?_⟩, fun m' x y => ?_, fun k x y => ?_, fun r x y => ?_⟩
  · rw [ky2 48 (by decide), kb _ (by omega), kb _ (by omega), kb _ (by omega), kb _ (by omega), kb _ (by omega)]; exact a1
  · have a2 : σ 49 0 = b 4 ∧ σ 49 1 = b 5 ∧ σ 49 2 = b 6 ∧ σ 49 3 = b 7 := a2
    show up σ 49 x v 49 0 = bu b (4 + x) v 4 ∧ up σ 49 x v 49 1 = bu b (4 + x) v 5 ∧ up σ 49 x v 49 2 = bu b (4 + x) v 6 ∧ up σ 49 x v 49 3 = bu b (4 + x) v 7
    obtain ⟨p1, p2, p3, p4⟩ := a2
    have g : ∀ j, σ 49 j = b (4 + j) → up σ 49 x v 49 j = bu b (4 + x) v (4 + j) := fun j q => by
      by_cases e : j = x
      · subst e; rw [bu_e rfl]; unfold up; rw [if_pos ⟨rfl, rfl⟩]
      · rw [key _ _ (fun z => e z.2), kb _ (by omega)]; exact q
    exact ⟨g 0 p1, g 1 p2, g 2 p3, g 3 p4⟩
  · rw [ky2 _ (by omega), kb _ (by omega)]; exact a3.1 j x y
  · rw [ky2 _ (by omega), kb _ (by omega)]; exact a3.2
  · rw [kb 1 (by omega)] at y
    rw [ky2 _ (by omega)]
    have q := a4 m' x y
    unfold AsmM at *
    rw [kb _ (by omega), kb _ (by omega), kb _ (by omega), kb _ (by omega), kb _ (by omega), kb _ (by omega), kb _ (by omega), kb _ (by omega), kb _ (by omega)]; exact q
  · rw [kb 2 (by omega)] at y
    rw [ky2 _ (by omega), ky2 _ (by omega), kb _ (by omega), kb _ (by omega)]; exact a5 k x y
  · rw [kb 3 (by omega)] at y
    rw [ky2 _ (by omega), ky2 _ (by omega), kb _ (by omega), kb _ (by omega)]; exact a6 r x y
theorem WB.l8 {b : Int → Int} {x v : Int} (h : WB b) (hx : (x = 0 ∧ 1 ≤ v ∧ v ≤ 999) ∨ (x = 1 ∧ 0 ≤ v ∧ v ≤ 99) ∨ (x = 2 ∧ 0 ≤ v ∧ v ≤ 2) ∨ (x = 3 ∧ 1 ≤ v ∧ v ≤ 60)) : WB (bu b (4 + x) v) := by
  have kb : ∀ j, j ≠ 4 + x → bu b (4 + x) v j = b j := fun j q => bu_n q
  have ke : ∀ j, j = 4 + x → bu b (4 + x) v j = v := fun j q => bu_e q
  obtain ⟨w0, w1, w2, w3, w4, w5, w6, w7, w8, w9, wm, wk, wr⟩ := h
  refine ⟨?_, ?_, ?_, ?_, ?_, ?_, ?_, ?_, ?_, fun j x1 x2 => ?_, fun m x1 x2 => ?_, fun k x1 x2 => ?_, fun r x1 x2 => ?_⟩
  · rw [kb _ (by omega)]; exact w0
  · rw [kb _ (by omega)]; exact w1
  · rw [kb _ (by omega)]; exact w2
  · rw [kb _ (by omega)]; exact w3
  · by_cases e : x = 0
    · rw [ke _ (by omega)]; omega
    · rw [kb _ (by omega)]; exact w4
  · by_cases e : x = 1
    · rw [ke _ (by omega)]; omega
    · rw [kb _ (by omega)]; exact w5
  · by_cases e : x = 2
    · rw [ke _ (by omega)]; omega
    · rw [kb _ (by omega)]; exact w6
  · by_cases e : x = 3
    · rw [ke _ (by omega)]; omega
    · rw [kb _ (by omega)]; exact w7
  · rw [kb _ (by omega)]; exact w8
  · rw [kb _ (by omega), kb _ (by omega)]; exact w9 j x1 x2
  · rw [kb 1 (by omega)] at x2
    have q := wm m x1 x2
    unfold WM at *
    rw [kb _ (by omega), kb _ (by omega), kb _ (by omega), kb _ (by omega), kb _ (by omega), kb _ (by omega), kb _ (by omega), kb _ (by omega), kb _ (by omega), kb _ (by omega), kb _ (by omega)]; exact q
  · rw [kb 2 (by omega)] at x2
    rw [kb _ (by omega), kb _ (by omega)]; exact wk k x1 x2
  · rw [kb 3 (by omega)] at x2
    rw [kb _ (by omega), kb _ (by omega)]; exact wr r x1 x2
theorem PD.law {σ : Sg} {x : Ps} {i v v2 : Int} {g : Int → Int} (h : PD σ x) (hi : (i = 0 ∧ 1 ≤ v ∧ v ≤ 999) ∨ (i = 1 ∧ 0 ≤ v ∧ v ≤ 99) ∨ (i = 2 ∧ 0 ≤ v ∧ v ≤ 2) ∨ (i = 3 ∧ 1 ≤ v ∧ v ≤ 60)) (h2 : σ 168 2 = v2) (hg : g 25 = v2) : PD (up σ 49 i v) (g, bu x.2.1 (1596 + i) v, x.2.2) := by
  obtain ⟨⟨d1, d2, d3⟩, _, h3, h4⟩ := h
  have e : bk (bu x.2.1 (1596 + i) v) = bu (bk x.2.1) (4 + i) v := bk_b (by omega)
  have nb : ∀ j, j < 4 ∨ 8 ≤ j → bu (bk x.2.1) (4 + i) v j = bk x.2.1 j := fun j q => bu_n (by omega)
  refine ⟨⟨?_, ?_, ?_⟩, ?_, ?_, ?_⟩ <;> dsimp only
  · rw [e]; exact d1.l8 (by omega)
  · rw [e]; exact (d2.cb (fun j x1 x2 => nb j (by omega))).fr (by rw [nb 1 (by omega)]; exact d3.2.1.2) (fun a j x1 x2 x3 => by rw [up_row (by omega)])
  · rw [e]; exact d3.l8 hi
  · rw [up_row (by decide), h2, hg]
  · rw [e]; intro m x1 x2; rw [nb 1 (by omega)] at x1
    have w1 := d3.2.1
    rw [nb _ (by omega), nb _ (by omega), nb _ (by omega), nb _ (by omega), nb _ (by omega), nb _ (by omega), nb _ (by omega)]; exact h3 m x1 x2
  · rw [up_row (by decide), e, nb _ (by omega), nb _ (by omega)]; exact h4
theorem PD.w2 {σ σ' : Sg} {x : Ps} (h : PD σ x) (e : ∀ q, 48 ≤ q → q ≤ 75 → σ' q = σ q) : PD σ' ((bu x.1 25 (σ' 168 2)), x.2) := by
  obtain ⟨h1, h2, h3, h4⟩ := h
  exact ⟨h1.fr e, (show σ' 168 2 = bu x.1 25 (σ' 168 2) 25 from (bu_e rfl).symm), h3, by rw [e 59 (by decide) (by decide)]; exact h4⟩
theorem cI.ar {d mi : Nat} {args args' : List MV} {S : MSh} {σ : Sg} {P : Int → Sg → Prop} (e : args = args') (H : cI d mi args S σ P) : cI d mi args' S σ P := by subst e; exact H
theorem u_takeLaw0 {d L : Nat} {σ : Sg} {y : Int → Int} {x : Ps} (hP : PC y σ x) (hL : LWs σ) (h14 : x.1 14 = 1) (h19 : x.1 19 = 6194) (hd : 3 ≤ d) : cI d m_X1_takeLaw [vr 168, vi 0] (SH L) σ (fun r σ' => PO y σ' r (pAsB y x) ∧ frPr σ σ') :=
  cI.go rfl rfl (Go.sym (cut := []) 42 ⟨rfl, ⟨fun cqz1 => ⟨rfl, ⟨⟨rfl, (ib rfl)⟩, ⟨rfl, ⟨⟨nb rfl, nb rfl, rfl⟩, ⟨d0 hd, nb rfl⟩, cV.bind (v_advance (σ := (up σ 168 2 (z_or (σ 168 2) (z_shl 1 0)))) (g := (bu x.1 25 (z_or (x.1 25) (z_shl 1 0)))) ((hP.1.fr (fun q x1 x2 => up_row (by omega))).b25 (by omega)) (ds (by omega : 1 + 1 ≤ d))) (fun σ1 ⟨a1, a2, a3⟩ => ⟨rfl, ⟨⟨rfl, (il rfl), (ib rfl)⟩, ⟨⟨rfl, (il rfl), (ib rfl)⟩, ⟨⟨nb rfl, nb rfl, rfl⟩, ⟨d0 hd, nb rfl⟩, cI.bind (cI.ar (show [vr 17, vi 1, vi 999] = [vr 17, vi (σ1 2 0), vi (σ1 3 0)] by rw [a3 2 (by decide), a3 3 (by decide), up_row (by decide), up_row (by decide), hL.2.1.1, hL.2.2.1]) (u_takeNumber (σ := σ1) (lo := 1) (hi := 999) a1 (ds (by omega : 2 + 1 ≤ d)))) (fun r2 σ2 ⟨o2, t2, f2⟩ => ⟨fun cqz2 => ⟨rfl, ⟨rfl, ⟨rfl, ⟨rfl, ⟨⟨rfl, (ib rfl), (il rfl), (ib rfl)⟩, ⟨rfl, ⟨⟨nb rfl, nb rfl, rfl⟩, ⟨d0 hd, nb rfl⟩, cI.bind (u_takeClose (σ := up σ2 49 0 (σ2 17 5)) ((o2.ok cqz2).fr (fun q x1 x2 => up_row (by omega))) (ds (by omega : 2 + 1 ≤ d))) (fun r9 σ9 ⟨o9, f9⟩ => ⟨(by first | exact bi_r | assumption | exact o9.b | omega), ⟨_, rfl, rfl, ⟨(by have ep : pPart y x = pOnce y x 0 1 999 := part_0 h14 h19; have h12 := hP.1.2.2.1; have s2 := hP.2.2.1; have z : ¬ hasb (σ 168 2) 0 = 1 := cqz1; rw [s2] at z; have e : pOnce y x 0 1 999 = ((mCou y (mAdv y (bu x.1 25 (z_or (x.1 25) (z_shl 1 0)))) 1 999).2, bu x.2.1 (1596 + 0) (mCou y (mAdv y (bu x.1 25 (z_or (x.1 25) (z_shl 1 0)))) 1 999).1, x.2.2) := (by unfold pOnce; rw [if_neg z]; unfold pOn2; dsimp only; rw [if_neg (by omega)]); have tt := t2 (o2.e cqz2); refine PD.cl (σ := up σ2 49 0 (σ2 17 5)) (x2 := ((mCou y (mAdv y (bu x.1 25 (z_or (x.1 25) (z_shl 1 0)))) 1 999).2, bu x.2.1 (1596 + 0) (mCou y (mAdv y (bu x.1 25 (z_or (x.1 25) (z_shl 1 0)))) 1 999).1, x.2.2)) (by rw [ep, e]) ?_ o9 f9; rw [tt.1]; refine PD.law (x := (bu x.1 25 (σ2 168 2), x.2)) (v2 := z_or (σ 168 2) (z_shl 1 0)) (PD.w2 (x := x) hP.2 (fun q x1 x2 => by rw [f2 q (by omega), a3 q (by omega), up_row (by omega)])) (by omega) ?_ ?_; (rw [f2 168 (by decide), a3 168 (by decide), up_eq]); (rw [cou_25 (by omega), mAdv_f (by omega), bu_e rfl, s2])), (fun q x1 x2 x3 => (f9 q x1).trans ((up_row (by omega)).trans ((f2 q x1).trans ((a3 q x1).trans (up_row x3)))))⟩⟩⟩)⟩⟩⟩⟩⟩⟩⟩, fun cqz2 => ⟨(by decide), ⟨_, rfl, rfl, ⟨pf rfl (by have ep : pPart y x = pOnce y x 0 1 999 := part_0 h14 h19; have h12 := hP.1.2.2.1; have s2 := hP.2.2.1; have z : ¬ hasb (σ 168 2) 0 = 1 := cqz1; rw [s2] at z; have e : pOnce y x 0 1 999 = ((mCou y (mAdv y (bu x.1 25 (z_or (x.1 25) (z_shl 1 0)))) 1 999).2, bu x.2.1 (1596 + 0) (mCou y (mAdv y (bu x.1 25 (z_or (x.1 25) (z_shl 1 0)))) 1 999).1, x.2.2) := (by unfold pOnce; rw [if_neg z]; unfold pOn2; dsimp only; rw [if_neg (by omega)]); rw [ep, e]; exact o2.no (Decidable.of_not_not cqz2)), (fun q x1 x2 x3 => (f2 q x1).trans ((a3 q x1).trans (up_row x3)))⟩⟩⟩⟩)⟩⟩⟩⟩)⟩⟩⟩⟩, fun cqz1 => ⟨rfl, ⟨⟨nb rfl, nb rfl, rfl⟩, ⟨d0 hd, nb rfl⟩, cI.det (u_trefuse) ⟨(by decide), ⟨_, rfl, rfl, ⟨pf rfl (by have ep : pPart y x = pOnce y x 0 1 999 := part_0 h14 h19; have h12 := hP.1.2.2.1; have s2 := hP.2.2.1; have z : hasb (σ 168 2) 0 = 1 := Decidable.of_not_not cqz1; rw [s2] at z; have e : pOnce y x 0 1 999 = (mFail x.1 5 (x.1 15), x.2) := (by unfold pOnce; rw [if_pos z]; unfold pOn2; dsimp only; rw [if_pos (by rw [(fail_12 h12).1]; decide)]); rw [ep, e]; exact hP.1.fl (by decide) (by omega)), (frPr.tp frTp.rf)⟩⟩⟩⟩⟩⟩⟩)
theorem u_takeLaw1 {d L : Nat} {σ : Sg} {y : Int → Int} {x : Ps} (hP : PC y σ x) (hL : LWs σ) (h14 : x.1 14 = 1) (h19 : x.1 19 = 89728164) (hd : 3 ≤ d) : cI d m_X1_takeLaw [vr 168, vi 1] (SH L) σ (fun r σ' => PO y σ' r (pAsB y x) ∧ frPr σ σ') :=
  cI.go rfl rfl (Go.sym (cut := []) 42 ⟨rfl, ⟨fun cqz1 => ⟨rfl, ⟨⟨rfl, (ib rfl)⟩, ⟨rfl, ⟨⟨nb rfl, nb rfl, rfl⟩, ⟨d0 hd, nb rfl⟩, cV.bind (v_advance (σ := (up σ 168 2 (z_or (σ 168 2) (z_shl 1 1)))) (g := (bu x.1 25 (z_or (x.1 25) (z_shl 1 1)))) ((hP.1.fr (fun q x1 x2 => up_row (by omega))).b25 (by omega)) (ds (by omega : 1 + 1 ≤ d))) (fun σ1 ⟨a1, a2, a3⟩ => ⟨rfl, ⟨⟨rfl, (il rfl), (ib rfl)⟩, ⟨⟨rfl, (il rfl), (ib rfl)⟩, ⟨⟨nb rfl, nb rfl, rfl⟩, ⟨d0 hd, nb rfl⟩, cI.bind (cI.ar (show [vr 17, vi 0, vi 99] = [vr 17, vi (σ1 2 1), vi (σ1 3 1)] by rw [a3 2 (by decide), a3 3 (by decide), up_row (by decide), up_row (by decide), hL.2.1.2.1, hL.2.2.2.1]) (u_takeNumber (σ := σ1) (lo := 0) (hi := 99) a1 (ds (by omega : 2 + 1 ≤ d)))) (fun r2 σ2 ⟨o2, t2, f2⟩ => ⟨fun cqz2 => ⟨rfl, ⟨rfl, ⟨rfl, ⟨rfl, ⟨⟨rfl, (ib rfl), (il rfl), (ib rfl)⟩, ⟨rfl, ⟨⟨nb rfl, nb rfl, rfl⟩, ⟨d0 hd, nb rfl⟩, cI.bind (u_takeClose (σ := up σ2 49 1 (σ2 17 5)) ((o2.ok cqz2).fr (fun q x1 x2 => up_row (by omega))) (ds (by omega : 2 + 1 ≤ d))) (fun r9 σ9 ⟨o9, f9⟩ => ⟨(by first | exact bi_r | assumption | exact o9.b | omega), ⟨_, rfl, rfl, ⟨(by have ep : pPart y x = pOnce y x 1 0 99 := part_1 h14 h19; have h12 := hP.1.2.2.1; have s2 := hP.2.2.1; have z : ¬ hasb (σ 168 2) 1 = 1 := cqz1; rw [s2] at z; have e : pOnce y x 1 0 99 = ((mCou y (mAdv y (bu x.1 25 (z_or (x.1 25) (z_shl 1 1)))) 0 99).2, bu x.2.1 (1596 + 1) (mCou y (mAdv y (bu x.1 25 (z_or (x.1 25) (z_shl 1 1)))) 0 99).1, x.2.2) := (by unfold pOnce; rw [if_neg z]; unfold pOn2; dsimp only; rw [if_neg (by omega)]); have tt := t2 (o2.e cqz2); refine PD.cl (σ := up σ2 49 1 (σ2 17 5)) (x2 := ((mCou y (mAdv y (bu x.1 25 (z_or (x.1 25) (z_shl 1 1)))) 0 99).2, bu x.2.1 (1596 + 1) (mCou y (mAdv y (bu x.1 25 (z_or (x.1 25) (z_shl 1 1)))) 0 99).1, x.2.2)) (by rw [ep, e]) ?_ o9 f9; rw [tt.1]; refine PD.law (x := (bu x.1 25 (σ2 168 2), x.2)) (v2 := z_or (σ 168 2) (z_shl 1 1)) (PD.w2 (x := x) hP.2 (fun q x1 x2 => by rw [f2 q (by omega), a3 q (by omega), up_row (by omega)])) (by omega) ?_ ?_; (rw [f2 168 (by decide), a3 168 (by decide), up_eq]); (rw [cou_25 (by omega), mAdv_f (by omega), bu_e rfl, s2])), (fun q x1 x2 x3 => (f9 q x1).trans ((up_row (by omega)).trans ((f2 q x1).trans ((a3 q x1).trans (up_row x3)))))⟩⟩⟩)⟩⟩⟩⟩⟩⟩⟩, fun cqz2 => ⟨(by decide), ⟨_, rfl, rfl, ⟨pf rfl (by have ep : pPart y x = pOnce y x 1 0 99 := part_1 h14 h19; have h12 := hP.1.2.2.1; have s2 := hP.2.2.1; have z : ¬ hasb (σ 168 2) 1 = 1 := cqz1; rw [s2] at z; have e : pOnce y x 1 0 99 = ((mCou y (mAdv y (bu x.1 25 (z_or (x.1 25) (z_shl 1 1)))) 0 99).2, bu x.2.1 (1596 + 1) (mCou y (mAdv y (bu x.1 25 (z_or (x.1 25) (z_shl 1 1)))) 0 99).1, x.2.2) := (by unfold pOnce; rw [if_neg z]; unfold pOn2; dsimp only; rw [if_neg (by omega)]); rw [ep, e]; exact o2.no (Decidable.of_not_not cqz2)), (fun q x1 x2 x3 => (f2 q x1).trans ((a3 q x1).trans (up_row x3)))⟩⟩⟩⟩)⟩⟩⟩⟩)⟩⟩⟩⟩, fun cqz1 => ⟨rfl, ⟨⟨nb rfl, nb rfl, rfl⟩, ⟨d0 hd, nb rfl⟩, cI.det (u_trefuse) ⟨(by decide), ⟨_, rfl, rfl, ⟨pf rfl (by have ep : pPart y x = pOnce y x 1 0 99 := part_1 h14 h19; have h12 := hP.1.2.2.1; have s2 := hP.2.2.1; have z : hasb (σ 168 2) 1 = 1 := Decidable.of_not_not cqz1; rw [s2] at z; have e : pOnce y x 1 0 99 = (mFail x.1 5 (x.1 15), x.2) := (by unfold pOnce; rw [if_pos z]; unfold pOn2; dsimp only; rw [if_pos (by rw [(fail_12 h12).1]; decide)]); rw [ep, e]; exact hP.1.fl (by decide) (by omega)), (frPr.tp frTp.rf)⟩⟩⟩⟩⟩⟩⟩)
theorem u_takeLaw2 {d L : Nat} {σ : Sg} {y : Int → Int} {x : Ps} (hP : PC y σ x) (hL : LWs σ) (h14 : x.1 14 = 1) (h19 : x.1 19 = 9612) (hd : 3 ≤ d) : cI d m_X1_takeLaw [vr 168, vi 2] (SH L) σ (fun r σ' => PO y σ' r (pAsB y x) ∧ frPr σ σ') :=
  cI.go rfl rfl (Go.sym (cut := []) 42 ⟨rfl, ⟨fun cqz1 => ⟨rfl, ⟨⟨rfl, (ib rfl)⟩, ⟨rfl, ⟨⟨nb rfl, nb rfl, rfl⟩, ⟨d0 hd, nb rfl⟩, cV.bind (v_advance (σ := (up σ 168 2 (z_or (σ 168 2) (z_shl 1 2)))) (g := (bu x.1 25 (z_or (x.1 25) (z_shl 1 2)))) ((hP.1.fr (fun q x1 x2 => up_row (by omega))).b25 (by omega)) (ds (by omega : 1 + 1 ≤ d))) (fun σ1 ⟨a1, a2, a3⟩ => ⟨rfl, ⟨⟨rfl, (il rfl), (ib rfl)⟩, ⟨⟨rfl, (il rfl), (ib rfl)⟩, ⟨⟨nb rfl, nb rfl, rfl⟩, ⟨d0 hd, nb rfl⟩, cI.bind (cI.ar (show [vr 17, vi 0, vi 2] = [vr 17, vi (σ1 2 2), vi (σ1 3 2)] by rw [a3 2 (by decide), a3 3 (by decide), up_row (by decide), up_row (by decide), hL.2.1.2.2.1, hL.2.2.2.2.1]) (u_takeNumber (σ := σ1) (lo := 0) (hi := 2) a1 (ds (by omega : 2 + 1 ≤ d)))) (fun r2 σ2 ⟨o2, t2, f2⟩ => ⟨fun cqz2 => ⟨rfl, ⟨rfl, ⟨rfl, ⟨rfl, ⟨⟨rfl, (ib rfl), (il rfl), (ib rfl)⟩, ⟨rfl, ⟨⟨nb rfl, nb rfl, rfl⟩, ⟨d0 hd, nb rfl⟩, cI.bind (u_takeClose (σ := up σ2 49 2 (σ2 17 5)) ((o2.ok cqz2).fr (fun q x1 x2 => up_row (by omega))) (ds (by omega : 2 + 1 ≤ d))) (fun r9 σ9 ⟨o9, f9⟩ => ⟨(by first | exact bi_r | assumption | exact o9.b | omega), ⟨_, rfl, rfl, ⟨(by have ep : pPart y x = pOnce y x 2 0 2 := part_2 h14 h19; have h12 := hP.1.2.2.1; have s2 := hP.2.2.1; have z : ¬ hasb (σ 168 2) 2 = 1 := cqz1; rw [s2] at z; have e : pOnce y x 2 0 2 = ((mCou y (mAdv y (bu x.1 25 (z_or (x.1 25) (z_shl 1 2)))) 0 2).2, bu x.2.1 (1596 + 2) (mCou y (mAdv y (bu x.1 25 (z_or (x.1 25) (z_shl 1 2)))) 0 2).1, x.2.2) := (by unfold pOnce; rw [if_neg z]; unfold pOn2; dsimp only; rw [if_neg (by omega)]); have tt := t2 (o2.e cqz2); refine PD.cl (σ := up σ2 49 2 (σ2 17 5)) (x2 := ((mCou y (mAdv y (bu x.1 25 (z_or (x.1 25) (z_shl 1 2)))) 0 2).2, bu x.2.1 (1596 + 2) (mCou y (mAdv y (bu x.1 25 (z_or (x.1 25) (z_shl 1 2)))) 0 2).1, x.2.2)) (by rw [ep, e]) ?_ o9 f9; rw [tt.1]; refine PD.law (x := (bu x.1 25 (σ2 168 2), x.2)) (v2 := z_or (σ 168 2) (z_shl 1 2)) (PD.w2 (x := x) hP.2 (fun q x1 x2 => by rw [f2 q (by omega), a3 q (by omega), up_row (by omega)])) (by omega) ?_ ?_; (rw [f2 168 (by decide), a3 168 (by decide), up_eq]); (rw [cou_25 (by omega), mAdv_f (by omega), bu_e rfl, s2])), (fun q x1 x2 x3 => (f9 q x1).trans ((up_row (by omega)).trans ((f2 q x1).trans ((a3 q x1).trans (up_row x3)))))⟩⟩⟩)⟩⟩⟩⟩⟩⟩⟩, fun cqz2 => ⟨(by decide), ⟨_, rfl, rfl, ⟨pf rfl (by have ep : pPart y x = pOnce y x 2 0 2 := part_2 h14 h19; have h12 := hP.1.2.2.1; have s2 := hP.2.2.1; have z : ¬ hasb (σ 168 2) 2 = 1 := cqz1; rw [s2] at z; have e : pOnce y x 2 0 2 = ((mCou y (mAdv y (bu x.1 25 (z_or (x.1 25) (z_shl 1 2)))) 0 2).2, bu x.2.1 (1596 + 2) (mCou y (mAdv y (bu x.1 25 (z_or (x.1 25) (z_shl 1 2)))) 0 2).1, x.2.2) := (by unfold pOnce; rw [if_neg z]; unfold pOn2; dsimp only; rw [if_neg (by omega)]); rw [ep, e]; exact o2.no (Decidable.of_not_not cqz2)), (fun q x1 x2 x3 => (f2 q x1).trans ((a3 q x1).trans (up_row x3)))⟩⟩⟩⟩)⟩⟩⟩⟩)⟩⟩⟩⟩, fun cqz1 => ⟨rfl, ⟨⟨nb rfl, nb rfl, rfl⟩, ⟨d0 hd, nb rfl⟩, cI.det (u_trefuse) ⟨(by decide), ⟨_, rfl, rfl, ⟨pf rfl (by have ep : pPart y x = pOnce y x 2 0 2 := part_2 h14 h19; have h12 := hP.1.2.2.1; have s2 := hP.2.2.1; have z : hasb (σ 168 2) 2 = 1 := Decidable.of_not_not cqz1; rw [s2] at z; have e : pOnce y x 2 0 2 = (mFail x.1 5 (x.1 15), x.2) := (by unfold pOnce; rw [if_pos z]; unfold pOn2; dsimp only; rw [if_pos (by rw [(fail_12 h12).1]; decide)]); rw [ep, e]; exact hP.1.fl (by decide) (by omega)), (frPr.tp frTp.rf)⟩⟩⟩⟩⟩⟩⟩)
theorem u_takeLaw3 {d L : Nat} {σ : Sg} {y : Int → Int} {x : Ps} (hP : PC y σ x) (hL : LWs σ) (h14 : x.1 14 = 1) (h19 : x.1 19 = 71052) (hd : 3 ≤ d) : cI d m_X1_takeLaw [vr 168, vi 3] (SH L) σ (fun r σ' => PO y σ' r (pAsB y x) ∧ frPr σ σ') :=
  cI.go rfl rfl (Go.sym (cut := []) 42 ⟨rfl, ⟨fun cqz1 => ⟨rfl, ⟨⟨rfl, (ib rfl)⟩, ⟨rfl, ⟨⟨nb rfl, nb rfl, rfl⟩, ⟨d0 hd, nb rfl⟩, cV.bind (v_advance (σ := (up σ 168 2 (z_or (σ 168 2) (z_shl 1 3)))) (g := (bu x.1 25 (z_or (x.1 25) (z_shl 1 3)))) ((hP.1.fr (fun q x1 x2 => up_row (by omega))).b25 (by omega)) (ds (by omega : 1 + 1 ≤ d))) (fun σ1 ⟨a1, a2, a3⟩ => ⟨rfl, ⟨⟨rfl, (il rfl), (ib rfl)⟩, ⟨⟨rfl, (il rfl), (ib rfl)⟩, ⟨⟨nb rfl, nb rfl, rfl⟩, ⟨d0 hd, nb rfl⟩, cI.bind (cI.ar (show [vr 17, vi 1, vi 60] = [vr 17, vi (σ1 2 3), vi (σ1 3 3)] by rw [a3 2 (by decide), a3 3 (by decide), up_row (by decide), up_row (by decide), hL.2.1.2.2.2, hL.2.2.2.2.2]) (u_takeNumber (σ := σ1) (lo := 1) (hi := 60) a1 (ds (by omega : 2 + 1 ≤ d)))) (fun r2 σ2 ⟨o2, t2, f2⟩ => ⟨fun cqz2 => ⟨rfl, ⟨rfl, ⟨rfl, ⟨rfl, ⟨⟨rfl, (ib rfl), (il rfl), (ib rfl)⟩, ⟨rfl, ⟨⟨nb rfl, nb rfl, rfl⟩, ⟨d0 hd, nb rfl⟩, cI.bind (u_takeClose (σ := up σ2 49 3 (σ2 17 5)) ((o2.ok cqz2).fr (fun q x1 x2 => up_row (by omega))) (ds (by omega : 2 + 1 ≤ d))) (fun r9 σ9 ⟨o9, f9⟩ => ⟨(by first | exact bi_r | assumption | exact o9.b | omega), ⟨_, rfl, rfl, ⟨(by have ep : pPart y x = pOnce y x 3 1 60 := part_3 h14 h19; have h12 := hP.1.2.2.1; have s2 := hP.2.2.1; have z : ¬ hasb (σ 168 2) 3 = 1 := cqz1; rw [s2] at z; have e : pOnce y x 3 1 60 = ((mCou y (mAdv y (bu x.1 25 (z_or (x.1 25) (z_shl 1 3)))) 1 60).2, bu x.2.1 (1596 + 3) (mCou y (mAdv y (bu x.1 25 (z_or (x.1 25) (z_shl 1 3)))) 1 60).1, x.2.2) := (by unfold pOnce; rw [if_neg z]; unfold pOn2; dsimp only; rw [if_neg (by omega)]); have tt := t2 (o2.e cqz2); refine PD.cl (σ := up σ2 49 3 (σ2 17 5)) (x2 := ((mCou y (mAdv y (bu x.1 25 (z_or (x.1 25) (z_shl 1 3)))) 1 60).2, bu x.2.1 (1596 + 3) (mCou y (mAdv y (bu x.1 25 (z_or (x.1 25) (z_shl 1 3)))) 1 60).1, x.2.2)) (by rw [ep, e]) ?_ o9 f9; rw [tt.1]; refine PD.law (x := (bu x.1 25 (σ2 168 2), x.2)) (v2 := z_or (σ 168 2) (z_shl 1 3)) (PD.w2 (x := x) hP.2 (fun q x1 x2 => by rw [f2 q (by omega), a3 q (by omega), up_row (by omega)])) (by omega) ?_ ?_; (rw [f2 168 (by decide), a3 168 (by decide), up_eq]); (rw [cou_25 (by omega), mAdv_f (by omega), bu_e rfl, s2])), (fun q x1 x2 x3 => (f9 q x1).trans ((up_row (by omega)).trans ((f2 q x1).trans ((a3 q x1).trans (up_row x3)))))⟩⟩⟩)⟩⟩⟩⟩⟩⟩⟩, fun cqz2 => ⟨(by decide), ⟨_, rfl, rfl, ⟨pf rfl (by have ep : pPart y x = pOnce y x 3 1 60 := part_3 h14 h19; have h12 := hP.1.2.2.1; have s2 := hP.2.2.1; have z : ¬ hasb (σ 168 2) 3 = 1 := cqz1; rw [s2] at z; have e : pOnce y x 3 1 60 = ((mCou y (mAdv y (bu x.1 25 (z_or (x.1 25) (z_shl 1 3)))) 1 60).2, bu x.2.1 (1596 + 3) (mCou y (mAdv y (bu x.1 25 (z_or (x.1 25) (z_shl 1 3)))) 1 60).1, x.2.2) := (by unfold pOnce; rw [if_neg z]; unfold pOn2; dsimp only; rw [if_neg (by omega)]); rw [ep, e]; exact o2.no (Decidable.of_not_not cqz2)), (fun q x1 x2 x3 => (f2 q x1).trans ((a3 q x1).trans (up_row x3)))⟩⟩⟩⟩)⟩⟩⟩⟩)⟩⟩⟩⟩, fun cqz1 => ⟨rfl, ⟨⟨nb rfl, nb rfl, rfl⟩, ⟨d0 hd, nb rfl⟩, cI.det (u_trefuse) ⟨(by decide), ⟨_, rfl, rfl, ⟨pf rfl (by have ep : pPart y x = pOnce y x 3 1 60 := part_3 h14 h19; have h12 := hP.1.2.2.1; have s2 := hP.2.2.1; have z : hasb (σ 168 2) 3 = 1 := Decidable.of_not_not cqz1; rw [s2] at z; have e : pOnce y x 3 1 60 = (mFail x.1 5 (x.1 15), x.2) := (by unfold pOnce; rw [if_pos z]; unfold pOn2; dsimp only; rw [if_pos (by rw [(fail_12 h12).1]; decide)]); rw [ep, e]; exact hP.1.fl (by decide) (by omega)), (frPr.tp frTp.rf)⟩⟩⟩⟩⟩⟩⟩)
