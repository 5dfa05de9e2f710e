/-! ===== the model: what holds while an ASSEMBLY is read (text laid by genmod56.py) ===== -/
/-- a FAULT stays -/
def Gs (g g' : Int → Int) : Prop := 0 < g 12 → g' 12 = g 12 ∧ g' 13 = g 13
theorem Gs.rfl {g : Int → Int} : Gs g g := fun _ => ⟨Eq.refl _, Eq.refl _⟩
theorem Gs.tr {g g' g2 : Int → Int} (h : Gs g g') (h2 : Gs g' g2) : Gs g g2 := fun hb => by
  have a := h hb; have b := h2 (by omega); omega
theorem Gs.fail {g : Int → Int} {k q : Int} : Gs g (mFail g k q) := fun h => by unfold mFail; rw [if_pos h]; exact ⟨Eq.refl _, Eq.refl _⟩
theorem Gs.ami {g : Int → Int} : Gs g (mAmi g) := Gs.fail
theorem Gs.adv {y g : Int → Int} : Gs g (mAdv y g) := fun _ => ⟨mAdv_f (by omega), mAdv_f (by omega)⟩
theorem Gs.must {y g : Int → Int} {b : Int} : Gs g (mMust y g b) := by unfold mMust; split; exact Gs.rfl; split; exact Gs.ami; exact Gs.adv
theorem Gs.per {y g : Int → Int} {b : Int} : Gs g (mPer y g b).2 := by unfold mPer; split; exact Gs.rfl; exact Gs.adv
theorem Gs.cou {y g : Int → Int} {lo hi : Int} : Gs g (mCou y g lo hi).2 := by
  have h1 : Gs g (mCo1 g) := by unfold mCo1; split; exact Gs.ami; exact Gs.rfl
  have h2 : Gs (mCo1 g) (mCo2 (mCo1 g) lo hi) := by unfold mCo2; split; exact Gs.fail; exact Gs.rfl
  have h3 : Gs (mCo2 (mCo1 g) lo hi) (mCo3 y (mCo2 (mCo1 g) lo hi)).2 := by unfold mCo3; split; exact Gs.rfl; exact Gs.adv
  exact (h1.tr h2).tr h3
theorem Gs.told {g c x : Int → Int} {b s : Int} : Gs g (mTold g c x b s).2 := by
  have h1 : Gs g (mTo1 g) := by unfold mTo1; split; exact Gs.ami; exact Gs.rfl
  unfold mTold mTo2; split; exact h1; dsimp only; split; exact h1.tr Gs.fail; exact h1
theorem Gs.rt {y g c x : Int → Int} {b s : Int} : Gs g (mRT y g c x b s).2 := Gs.told.tr Gs.must
theorem Gs.new {y g c x : Int → Int} {s n : Int} : Gs g (mNew y g c x s n).2.1 := by
  have h0 : Gs g (mNw0 g (c (1592 + s)) n) := by unfold mNw0; split; exact Gs.fail; exact Gs.rfl
  have h1 : Gs (mNw0 g (c (1592 + s)) n) (mNw1 y (mNw0 g (c (1592 + s)) n)) := by unfold mNw1; split; exact Gs.adv.tr Gs.ami; exact Gs.adv
  have h2 : Gs (mNw1 y (mNw0 g (c (1592 + s)) n)) (mNw2 (mNw1 y (mNw0 g (c (1592 + s)) n)) c x) := by unfold mNw2; split; exact Gs.fail; exact Gs.rfl
  unfold mNew mNw3; (repeat' split) <;> first | exact h0 | exact (h0.tr h1).tr h2 | exact ((h0.tr h1).tr h2).tr Gs.adv
theorem ite_gs {c : Prop} [Decidable c] {g0 g g' : Int → Int} (h : Gs g0 g) (h' : Gs g0 g') : Gs g0 (if c then g else g') := by split <;> assumption
/-- one step of reading: fields, FAULT, place, draft -/
def PG (y : Int → Int) (x x' : Ps) : Prop := PI y x' ∧ Gm x.1 x'.1 ∧ Gs x.1 x'.1 ∧ (∀ j, j < 1592 → x'.2.1 j = x.2.1 j) ∧ (∀ j, j < 160 → x'.2.2 j = x.2.2 j)
theorem PG.tr {y : Int → Int} {x x' x2 : Ps} (h : PG y x x') (h2 : PG y x' x2) : PG y x x2 := ⟨h2.1, h.2.1.tr h2.2.1, h.2.2.1.tr h2.2.2.1, fun j hj => by rw [h2.2.2.2.1 j hj, h.2.2.2.1 j hj], fun j hj => by rw [h2.2.2.2.2 j hj, h.2.2.2.2 j hj]⟩
theorem PG.rfl {y : Int → Int} {x : Ps} (h : PI y x) : PG y x x := ⟨h, Gm.rfl, Gs.rfl, fun _ _ => Eq.refl _, fun _ _ => Eq.refl _⟩
theorem mNew_w {y g c x : Int → Int} {s n j : Int} (h0 : 0 ≤ c (1592 + s)) (hs : 0 ≤ s) (hj : j < 160) : (mNew y g c x s n).2.2 j = x j := by
  unfold mNew mNw3; (repeat' split) <;> first | exact Eq.refl _ | (dsimp only; rw [bu_n (by omega)])
theorem PG.g {y : Int → Int} {x : Ps} {g : Int → Int} (h : PI y x) (h1 : GI g) (h2 : 0 ≤ g 12) (h3 : Gm x.1 g) (h4 : Gs x.1 g) : PG y x (g, x.2) := ⟨⟨h1, h.2.1, h2⟩, h3, h4, fun _ _ => Eq.refl _, fun _ _ => Eq.refl _⟩
theorem PG.c {y : Int → Int} {x : Ps} {g : Int → Int} {i v : Int} (h : PI y x) (h1 : GI g) (h2 : 0 ≤ g 12) (h3 : Gm x.1 g) (h4 : Gs x.1 g) (hi : 1595 < i) : PG y x (g, bu x.2.1 i v, x.2.2) := ⟨⟨h1, h.2.1.b (Or.inr hi), h2⟩, h3, h4, fun j hj => by dsimp only; rw [bu_n (by omega)], fun _ _ => Eq.refl _⟩
theorem Gm.b25 {g : Int → Int} {v j : Int} (h : j = 25 ∨ j = 26) : Gm g (bu g j v) := ⟨fun q hq => bu_n (by omega), by rw [bu_n (by omega)]; exact Int.le_refl _⟩
theorem Gs.b25 {g : Int → Int} {v j : Int} (h : j = 25 ∨ j = 26) : Gs g (bu g j v) := fun _ => ⟨bu_n (by omega), bu_n (by omega)⟩
theorem PG.once {y : Int → Int} {x : Ps} (h : PI y x) {b lo hi : Int} (hb : 0 ≤ b) : PG y x (pOnce y x b lo hi) := by
  have h1 : PG y x (if hasb (x.1 25) b = 1 then mFail x.1 5 (x.1 15) else x.1, x.2) := PG.g h (ite_gi (mFail_gi h.1) h.1) (ite_p (mFail_p h.2.2 (by decide)) h.2.2) (ite_gm Gm.fail Gm.rfl) (ite_gs Gs.fail Gs.rfl)
  refine h1.tr ?_
  unfold pOnce pOn2
  generalize (if hasb (x.1 25) b = 1 then mFail x.1 5 (x.1 15) else x.1) = g at h1 ⊢
  split
  · exact PG.rfl h1.1
  · have k1 := h1.1.1
    have k2 := bu25_gi (v := z_or (g 25) (z_shl 1 b)) k1 (Or.inl (Eq.refl _))
    exact PG.c (x := (g, x.2)) h1.1 (mCou_gi (mAdv_gi k2)) (mCou_p (mAdv_p (by rw [bu_n (by omega)]; exact h1.1.2.2))) (((Gm.b25 (Or.inl (Eq.refl _))).tr (Gm.adv k2)).tr (Gm.cou (mAdv_gi k2))) (((Gs.b25 (Or.inl (Eq.refl _))).tr Gs.adv).tr Gs.cou) (by omega)
theorem PG.new {y : Int → Int} {x : Ps} (h : PI y x) {s n : Int} (hs : 0 ≤ s ∧ s ≤ 3) : PG y x ((mNew y x.1 x.2.1 x.2.2 s n).2.1, x.2.1, (mNew y x.1 x.2.1 x.2.2 s n).2.2) := ⟨⟨mNew_gi h.1, h.2.1, mNew_p h.2.2⟩, Gm.new h.1, Gs.new, fun _ _ => Eq.refl _, fun j hj => mNew_w (h.2.1.q s hs.1 hs.2).1 hs.1 hj⟩
theorem Gs.zero {g g' : Int → Int} (h : Gs g g') (h0 : 0 ≤ g 12) (hz : g' 12 = 0) : g 12 = 0 := by
  by_cases c : 0 < g 12
  · have := h c; omega
  · omega
theorem CI.inc {c : Int → Int} (h : CI c) {i v : Int} (hi : i = 1592 ∧ v < 4 ∨ i = 1593 ∧ v < 10 ∨ i = 1594 ∧ v < 5 ∨ i = 1595 ∧ v < 6) (hv : v = c i) : CI (bu c i (v + 1)) := by
  unfold CI at *
  rcases hi with ⟨rfl, hi⟩ | ⟨rfl, hi⟩ | ⟨rfl, hi⟩ | ⟨rfl, hi⟩ <;> (simp (disch := omega) only [bu_n, bu_e]; omega)
theorem PG.inc {y : Int → Int} {x : Ps} (h : PI y x) {i : Int} (hi : i = 1592 ∨ i = 1593 ∨ i = 1594 ∨ i = 1595) (hr : x.1 12 = 0 → i = 1592 ∧ x.2.1 i < 4 ∨ i = 1593 ∧ x.2.1 i < 10 ∨ i = 1594 ∧ x.2.1 i < 5 ∨ i = 1595 ∧ x.2.1 i < 6) : PG y x (pInc x i) := by
  unfold pInc; split
  · next e => exact ⟨⟨h.1, h.2.1.inc (hr e) (Eq.refl _), h.2.2⟩, Gm.rfl, Gs.rfl, fun j hj => by dsimp only; rw [bu_n (by omega)], fun _ _ => Eq.refl _⟩
  · exact PG.rfl h
theorem pPty_inc {y : Int → Int} {x : Ps} : pPty y x = pInc ((mNew y x.1 x.2.1 x.2.2 0 4).2.1, x.2.1, (mNew y x.1 x.2.1 x.2.2 0 4).2.2) 1592 := by
  unfold pPty pInc; dsimp only; split <;> rfl
theorem PG.pty {y : Int → Int} {x : Ps} (h : PI y x) : PG y x (pPty y x) := by
  rw [pPty_inc]
  have h1 := PG.new h (s := 0) (n := 4) (by decide)
  refine h1.tr (PG.inc h1.1 (by decide) (fun e => ?_))
  have := mNew_ok (y := y) (g := x.1) (c := x.2.1) (x := x.2.2) (s := 0) (n := 4) e h.2.2
  have hc := h.2.1; unfold CI at hc
  simp only [Int.add_zero] at this
  dsimp only; omega
theorem PG.me2 {y : Int → Int} {x : Ps} (h : PI y x) {k : Int} (hk : 1592 ≤ k) : PG y x (pMe2 y x k) := PG.c h (mRT_gi (mMust_gi h.1)) (mRT_p (mMust_p h.2.2)) ((Gm.must h.1).tr (Gm.rt (mMust_gi h.1))) (Gs.must.tr Gs.rt) (by omega)
theorem PG.bhd {y : Int → Int} {x : Ps} (h : PI y x) {v i lo hi : Int} (hk : 1595 < i) : PG y x (pBhd y x v i lo hi) := PG.c h (mCou_gi (mMust_gi h.1)) (mCou_p (mMust_p h.2.2)) ((Gm.must h.1).tr (Gm.cou (mMust_gi h.1))) (Gs.must.tr Gs.cou) hk
theorem PG.trt {y : Int → Int} {x : Ps} (h : PI y x) {v i lo hi : Int} (hk : 1595 < i) : PG y x (pTrt y x v i lo hi) := by
  unfold pTrt; split
  · exact PG.g h (mPer_gi h.1) (mPer_p h.2.2) (Gm.per h.1) Gs.per
  · exact PG.c h (mCou_gi (mPer_gi h.1)) (mCou_p (mPer_p h.2.2)) ((Gm.per h.1).tr (Gm.cou (mPer_gi h.1))) (Gs.per.tr Gs.cou) hk
theorem PG.flg {y : Int → Int} {x : Ps} (h : PI y x) {v i : Int} (hk : 1595 < i) : PG y x (pFlg y x v i) := by
  unfold pFlg; split
  · exact PG.g h (mPer_gi h.1) (mPer_p h.2.2) (Gm.per h.1) Gs.per
  · exact PG.c h (mPer_gi h.1) (mPer_p h.2.2) (Gm.per h.1) Gs.per hk
theorem me2_n {y : Int → Int} {x : Ps} {k j : Int} (hk : 1592 ≤ k) (hj : j ≤ 1595) : (pMe2 y x k).2.1 j = x.2.1 j := bu_n (by omega)
theorem bhd_n {y : Int → Int} {x : Ps} {v i lo hi j : Int} (hk : 1595 < i) (hj : j ≤ 1595) : (pBhd y x v i lo hi).2.1 j = x.2.1 j := bu_n (by omega)
theorem trt_n {y : Int → Int} {x : Ps} {v i lo hi j : Int} (hk : 1595 < i) (hj : j ≤ 1595) : (pTrt y x v i lo hi).2.1 j = x.2.1 j := by unfold pTrt; split; exact Eq.refl _; exact bu_n (by omega)
theorem flg_n {y : Int → Int} {x : Ps} {v i j : Int} (hk : 1595 < i) (hj : j ≤ 1595) : (pFlg y x v i).2.1 j = x.2.1 j := by unfold pFlg; split; exact Eq.refl _; exact bu_n (by omega)
theorem PG.mem {y : Int → Int} {x : Ps} (h : PI y x) : PG y x (pMem y x) := by
  have hcc := h.2.1; unfold CI at hcc
  have hk := mNew_k (y := y) (g := x.1) (c := x.2.1) (x := x.2.2) (s := 1) (n := 10) (by simp only [Int.reduceAdd]; omega) (by simp only [Int.reduceAdd]; omega) (by decide)
  unfold pMem
  generalize hR : (mNew y x.1 x.2.1 x.2.2 1 10).1 = R at hk ⊢
  have p1 : PG y x (pMe1 y x) := PG.new h (by decide)
  have p2 := PG.me2 p1.1 (k := 1592 + R) (by omega)
  have p3 := PG.bhd p2.1 (v := 52) (i := 1592 + R + 24) (lo := 0) (hi := 999) (by omega)
  have p4 := PG.trt p3.1 (v := 20452516) (i := 1592 + R + 34) (lo := 1) (hi := 99) (by omega)
  have p5 := PG.trt p4.1 (v := 17376357) (i := 1592 + R + 44) (lo := 0) (hi := 99) (by omega)
  have p6 := PG.trt p5.1 (v := 136228) (i := 1592 + R + 64) (lo := 0) (hi := 99) (by omega)
  have p7 := PG.flg p6.1 (v := 631915) (i := 1592 + R + 74) (by omega)
  have p8 := PG.flg p7.1 (v := 278007982) (i := 1592 + R + 84) (by omega)
  have q := p2.tr (p3.tr (p4.tr (p5.tr (p6.tr (p7.tr p8)))))
  refine p1.tr (q.tr (PG.inc q.1 (by decide) (fun e => ?_)))
  have hz := q.2.2.1.zero p1.1.2.2 e
  have := mNew_ok (y := y) (g := x.1) (c := x.2.1) (x := x.2.2) (s := 1) (n := 10) hz h.2.2
  simp only [Int.reduceAdd] at this
  refine Or.inr (Or.inl ⟨Eq.refl _, ?_⟩)
  simp (disch := omega) only [flg_n, trt_n, bhd_n, me2_n]
  have e2 : (pMe1 y x).2.1 1593 = x.2.1 1593 := Eq.refl _
  omega
theorem PG.twi {y : Int → Int} {x : Ps} (h : PI y x) : PG y x (pTwi y x) := by
  have k0 := mAdv_gi (y := y) h.1
  have p1 : PG y x (pTw1 y x).2 := PG.g h h.tw1.1 h.tw1.2.2 (((Gm.adv h.1).tr (ite_gm (Gm.told.tr Gm.fail) Gm.told)).tr (Gm.must (ite_gi (mFail_gi (mTold_gi k0)) (mTold_gi k0)))) ((Gs.adv.tr (ite_gs (Gs.told.tr Gs.fail) Gs.told)).tr Gs.must)
  have k1 := p1.1
  have p2 : PG y (pTw1 y x).2 (pTw2 y (pTw1 y x).2 (pTw1 y x).1).2 := PG.g k1 k1.tw2.1 k1.tw2.2.2 ((ite_gm (Gm.told.tr Gm.fail) Gm.told).tr (Gm.must (ite_gi (mFail_gi (mTold_gi k1.1)) (mTold_gi k1.1)))) ((ite_gs (Gs.told.tr Gs.fail) Gs.told).tr Gs.must)
  refine p1.tr (p2.tr ?_)
  have r1 : 0 ≤ (pTw1 y x).1 := (tw_r h _).1
  have r2 : 0 ≤ (pTw2 y (pTw1 y x).2 (pTw1 y x).1).1 := (tw_r k1 _).1
  unfold pTwi pTw3
  split
  · exact PG.rfl p2.1
  · exact ⟨⟨p2.1.1, (p2.1.2.1.b (by omega)).b (by omega), p2.1.2.2⟩, Gm.rfl, Gs.rfl, fun j hj => by dsimp only; rw [bu_n (by omega), bu_n (by omega)], fun _ _ => Eq.refl _⟩
theorem Gs.psb {y : Int → Int} {x : Ps} {n s : Int} : Gs x.1 (pPsB y n s x).1 := (ite_gs (Gs.told.tr Gs.fail) Gs.told).tr Gs.must
theorem PG.ps {y : Int → Int} {n : Int} : ∀ (k : Nat) (s : Int) (x : Ps), PI y x → PG y x (pPs y n k s x).2
  | 0, _, _, h => PG.rfl h
  | k + 1, s, x, h => by
    by_cases c : x.1 12 = 0 ∧ x.1 14 = 1 ∧ ¬ x.1 19 = 1309981300
    · rw [pPs_s c]
      have : PG y x (pPsB y n s x) := PG.g h h.psb.1 h.psb.2.2 (Gm.psb h) Gs.psb
      exact this.tr (PG.ps k _ _ h.psb)
    · rw [pPs_o c]; exact PG.rfl h
theorem PG.mot {y : Int → Int} {x : Ps} (h : PI y x) : PG y x (pMot y x) := by
  have hcc := h.2.1; unfold CI at hcc
  have hk := mNew_k (y := y) (g := x.1) (c := x.2.1) (x := x.2.2) (s := 2) (n := 5) (by simp only [Int.reduceAdd]; omega) (by simp only [Int.reduceAdd]; omega) (by decide)
  have p0 : PG y x ((mNew y x.1 x.2.1 x.2.2 2 5).2.1, x.2.1, (mNew y x.1 x.2.1 x.2.2 2 5).2.2) := PG.new h (by decide)
  have p1 : PG y ((mNew y x.1 x.2.1 x.2.2 2 5).2.1, x.2.1, (mNew y x.1 x.2.1 x.2.2 2 5).2.2) (pMo1 y x) := PG.g p0.1 h.mo1.1 h.mo1.2.2 (Gm.must p0.1.1) Gs.must
  have p2 := PG.ps (n := 0) 1000 0 _ p1.1
  have p3 : PG y _ (pMo2 y (pPs y 0 1000 0 (pMo1 y x)).2) := PG.g p2.1 p2.1.mo2.1 p2.1.mo2.2.2 (Gm.must p2.1.1) Gs.must
  have p4 := PG.ps (n := (pPs y 0 1000 0 (pMo1 y x)).1) 1000 0 _ p3.1
  have q := p1.tr (p2.tr (p3.tr p4))
  refine p0.tr (q.tr ?_)
  unfold pMot pMo3
  split
  · exact PG.rfl q.1
  · next e =>
    have hz := q.2.2.1.zero p0.1.2.2 (by have := q.1.2.2; omega)
    have := mNew_ok (y := y) (g := x.1) (c := x.2.1) (x := x.2.2) (s := 2) (n := 5) hz h.2.2
    simp only [Int.reduceAdd] at this
    have e4 : (pPs y (pPs y 0 1000 0 (pMo1 y x)).1 1000 0 (pMo2 y (pPs y 0 1000 0 (pMo1 y x)).2)).2.2.1 = x.2.1 := by rw [pPs_c]; show (pPs y 0 1000 0 (pMo1 y x)).2.2.1 = _; rw [pPs_c]; rfl
    have kq := q.1
    refine ⟨⟨kq.1, ?_, kq.2.2⟩, Gm.rfl, Gs.rfl, fun j hj => by dsimp only; rw [bu_n (by omega), bu_n (by omega), bu_n (by omega)], fun _ _ => Eq.refl _⟩
    dsimp only
    have c1 := (kq.2.1.b (j := 1696 + (mNew y x.1 x.2.1 x.2.2 2 5).1) (v := (pPs y 0 1000 0 (pMo1 y x)).1) (by omega)).b (j := 1701 + (mNew y x.1 x.2.1 x.2.2 2 5).1) (v := (pPs y (pPs y 0 1000 0 (pMo1 y x)).1 1000 0 (pMo2 y (pPs y 0 1000 0 (pMo1 y x)).2)).1) (by omega)
    refine c1.inc (Or.inr (Or.inr (Or.inl ⟨Eq.refl _, ?_⟩))) ?_
    · rw [e4]; omega
    · rw [bu_n (by omega), bu_n (by omega)]
theorem PG.roo {y : Int → Int} {x : Ps} (h : PI y x) : PG y x (pRoo y x) := by
  have hcc := h.2.1; unfold CI at hcc
  have hk := mNew_k (y := y) (g := x.1) (c := x.2.1) (x := x.2.2) (s := 3) (n := 6) (by simp only [Int.reduceAdd]; omega) (by simp only [Int.reduceAdd]; omega) (by decide)
  unfold pRoo
  generalize hR : (mNew y x.1 x.2.1 x.2.2 3 6).1 = R at hk ⊢
  have p1 : PG y x (pRo1 y x) := PG.new h (by decide)
  have p2 := PG.bhd p1.1 (v := 21015731) (i := 1706 + R) (lo := 1) (hi := 60) (by omega)
  have p3 := PG.bhd p2.1 (v := 495763) (i := 1712 + R) (lo := 0) (hi := 16) (by omega)
  have q := p2.tr p3
  refine p1.tr (q.tr (PG.inc q.1 (by decide) (fun e => ?_)))
  have hz := q.2.2.1.zero p1.1.2.2 e
  have := mNew_ok (y := y) (g := x.1) (c := x.2.1) (x := x.2.2) (s := 3) (n := 6) hz h.2.2
  simp only [Int.reduceAdd] at this
  refine Or.inr (Or.inr (Or.inr ⟨Eq.refl _, ?_⟩))
  simp (disch := omega) only [bhd_n]
  have e2 : (pRo1 y x).2.1 1595 = x.2.1 1595 := Eq.refl _
  omega
theorem PG.part {y : Int → Int} {x : Ps} (h : PI y x) : PG y x (pPart y x) := by
  unfold pPart
  repeat' split
  all_goals first | exact PG.once h (by decide) | exact PG.pty h | exact PG.mem h | exact PG.twi h | exact PG.mot h | exact PG.roo h | exact PG.g h (mAmi_gi h.1) (mAmi_p h.2.2) Gm.ami Gs.ami
