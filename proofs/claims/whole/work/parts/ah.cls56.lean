/-! ===== the class: TOKENS (text laid by gencls56.py) ===== -/
def kyV (i : Int) : Int := if i = 0 then 6194 else if i = 1 then 89728164 else if i = 2 then 9612 else if i = 3 then 71052 else if i = 4 then 16829081 else if i = 5 then 441878706 else if i = 6 then 486 else if i = 7 then 52 else if i = 8 then 20452516 else if i = 9 then 17376357 else if i = 10 then 136228 else if i = 11 then 631915 else if i = 12 then 278007982 else if i = 13 then 21734867 else if i = 14 then 452601326 else if i = 15 then 6642 else if i = 16 then 1309981300 else if i = 17 then 605677 else if i = 18 then 21015731 else if i = 19 then 495763 else if i = 20 then 446125701 else if i = 21 then 114085 else if i = 22 then 239 else if i = 23 then 643129 else if i = 24 then 4389 else if i = 25 then 198028 else if i = 26 then 1497 else if i = 27 then 762030 else if i = 28 then 8042760659 else if i = 29 then 3274253476 else if i = 30 then 26265747 else if i = 31 then 409072 else if i = 32 then 5572 else if i = 33 then 643568 else 0
def kxN (v : Int) : Nat → Int
  | 0 => -1
  | n + 1 => if kyV n = v then (n : Int) else kxN v n
theorem kxN_s {v : Int} {n : Nat} : kxN v (n + 1) = if kyV n = v then (n : Int) else kxN v n := rfl
theorem kyV_e : kyV 0 = 6194 ∧ kyV 1 = 89728164 ∧ kyV 2 = 9612 ∧ kyV 3 = 71052 ∧ kyV 4 = 16829081 ∧ kyV 5 = 441878706 ∧ kyV 6 = 486 ∧ kyV 7 = 52 ∧ kyV 8 = 20452516 ∧ kyV 9 = 17376357 ∧ kyV 10 = 136228 ∧ kyV 11 = 631915 ∧ kyV 12 = 278007982 ∧ kyV 13 = 21734867 ∧ kyV 14 = 452601326 ∧ kyV 15 = 6642 ∧ kyV 16 = 1309981300 ∧ kyV 17 = 605677 ∧ kyV 18 = 21015731 ∧ kyV 19 = 495763 ∧ kyV 20 = 446125701 ∧ kyV 21 = 114085 ∧ kyV 22 = 239 ∧ kyV 23 = 643129 ∧ kyV 24 = 4389 ∧ kyV 25 = 198028 ∧ kyV 26 = 1497 ∧ kyV 27 = 762030 ∧ kyV 28 = 8042760659 ∧ kyV 29 = 3274253476 ∧ kyV 30 = 26265747 ∧ kyV 31 = 409072 ∧ kyV 32 = 5572 ∧ kyV 33 = 643568 := by decide
theorem kix_e : kix 6194 = 0 ∧ kix 89728164 = 1 ∧ kix 9612 = 2 ∧ kix 71052 = 3 ∧ kix 16829081 = 4 ∧ kix 441878706 = 5 ∧ kix 486 = 6 ∧ kix 52 = 7 ∧ kix 20452516 = 8 ∧ kix 17376357 = 9 ∧ kix 136228 = 10 ∧ kix 631915 = 11 ∧ kix 278007982 = 12 ∧ kix 21734867 = 13 ∧ kix 452601326 = 14 ∧ kix 6642 = 15 ∧ kix 1309981300 = 16 ∧ kix 605677 = 17 ∧ kix 21015731 = 18 ∧ kix 495763 = 19 ∧ kix 446125701 = 20 ∧ kix 114085 = 21 ∧ kix 239 = 22 ∧ kix 643129 = 23 ∧ kix 4389 = 24 ∧ kix 198028 = 25 ∧ kix 1497 = 26 ∧ kix 762030 = 27 ∧ kix 8042760659 = 28 ∧ kix 3274253476 = 29 ∧ kix 26265747 = 30 ∧ kix 409072 = 31 ∧ kix 5572 = 32 ∧ kix 643568 = 33 := by decide
theorem kxN_n {v : Int} (h : ¬ v = 6194 ∧ ¬ v = 89728164 ∧ ¬ v = 9612 ∧ ¬ v = 71052 ∧ ¬ v = 16829081 ∧ ¬ v = 441878706 ∧ ¬ v = 486 ∧ ¬ v = 52 ∧ ¬ v = 20452516 ∧ ¬ v = 17376357 ∧ ¬ v = 136228 ∧ ¬ v = 631915 ∧ ¬ v = 278007982 ∧ ¬ v = 21734867 ∧ ¬ v = 452601326 ∧ ¬ v = 6642 ∧ ¬ v = 1309981300 ∧ ¬ v = 605677 ∧ ¬ v = 21015731 ∧ ¬ v = 495763 ∧ ¬ v = 446125701 ∧ ¬ v = 114085 ∧ ¬ v = 239 ∧ ¬ v = 643129 ∧ ¬ v = 4389 ∧ ¬ v = 198028 ∧ ¬ v = 1497 ∧ ¬ v = 762030 ∧ ¬ v = 8042760659 ∧ ¬ v = 3274253476 ∧ ¬ v = 26265747 ∧ ¬ v = 409072 ∧ ¬ v = 5572 ∧ ¬ v = 643568) : kxN v 34 = -1 := by
  obtain ⟨e0, e1, e2, e3, e4, e5, e6, e7, e8, e9, e10, e11, e12, e13, e14, e15, e16, e17, e18, e19, e20, e21, e22, e23, e24, e25, e26, e27, e28, e29, e30, e31, e32, e33⟩ := kyV_e
  obtain ⟨h0, h1, h2, h3, h4, h5, h6, h7, h8, h9, h10, h11, h12, h13, h14, h15, h16, h17, h18, h19, h20, h21, h22, h23, h24, h25, h26, h27, h28, h29, h30, h31, h32, h33⟩ := h
  rw [kxN_s, show (((33 : Nat)) : Int) = 33 from rfl, e33, if_neg (fun q => h33 q.symm)]
  rw [kxN_s, show (((32 : Nat)) : Int) = 32 from rfl, e32, if_neg (fun q => h32 q.symm)]
  rw [kxN_s, show (((31 : Nat)) : Int) = 31 from rfl, e31, if_neg (fun q => h31 q.symm)]
  rw [kxN_s, show (((30 : Nat)) : Int) = 30 from rfl, e30, if_neg (fun q => h30 q.symm)]
  rw [kxN_s, show (((29 : Nat)) : Int) = 29 from rfl, e29, if_neg (fun q => h29 q.symm)]
  rw [kxN_s, show (((28 : Nat)) : Int) = 28 from rfl, e28, if_neg (fun q => h28 q.symm)]
  rw [kxN_s, show (((27 : Nat)) : Int) = 27 from rfl, e27, if_neg (fun q => h27 q.symm)]
  rw [kxN_s, show (((26 : Nat)) : Int) = 26 from rfl, e26, if_neg (fun q => h26 q.symm)]
  rw [kxN_s, show (((25 : Nat)) : Int) = 25 from rfl, e25, if_neg (fun q => h25 q.symm)]
  rw [kxN_s, show (((24 : Nat)) : Int) = 24 from rfl, e24, if_neg (fun q => h24 q.symm)]
  rw [kxN_s, show (((23 : Nat)) : Int) = 23 from rfl, e23, if_neg (fun q => h23 q.symm)]
  rw [kxN_s, show (((22 : Nat)) : Int) = 22 from rfl, e22, if_neg (fun q => h22 q.symm)]
  rw [kxN_s, show (((21 : Nat)) : Int) = 21 from rfl, e21, if_neg (fun q => h21 q.symm)]
  rw [kxN_s, show (((20 : Nat)) : Int) = 20 from rfl, e20, if_neg (fun q => h20 q.symm)]
  rw [kxN_s, show (((19 : Nat)) : Int) = 19 from rfl, e19, if_neg (fun q => h19 q.symm)]
  rw [kxN_s, show (((18 : Nat)) : Int) = 18 from rfl, e18, if_neg (fun q => h18 q.symm)]
  rw [kxN_s, show (((17 : Nat)) : Int) = 17 from rfl, e17, if_neg (fun q => h17 q.symm)]
  rw [kxN_s, show (((16 : Nat)) : Int) = 16 from rfl, e16, if_neg (fun q => h16 q.symm)]
  rw [kxN_s, show (((15 : Nat)) : Int) = 15 from rfl, e15, if_neg (fun q => h15 q.symm)]
  rw [kxN_s, show (((14 : Nat)) : Int) = 14 from rfl, e14, if_neg (fun q => h14 q.symm)]
  rw [kxN_s, show (((13 : Nat)) : Int) = 13 from rfl, e13, if_neg (fun q => h13 q.symm)]
  rw [kxN_s, show (((12 : Nat)) : Int) = 12 from rfl, e12, if_neg (fun q => h12 q.symm)]
  rw [kxN_s, show (((11 : Nat)) : Int) = 11 from rfl, e11, if_neg (fun q => h11 q.symm)]
  rw [kxN_s, show (((10 : Nat)) : Int) = 10 from rfl, e10, if_neg (fun q => h10 q.symm)]
  rw [kxN_s, show (((9 : Nat)) : Int) = 9 from rfl, e9, if_neg (fun q => h9 q.symm)]
  rw [kxN_s, show (((8 : Nat)) : Int) = 8 from rfl, e8, if_neg (fun q => h8 q.symm)]
  rw [kxN_s, show (((7 : Nat)) : Int) = 7 from rfl, e7, if_neg (fun q => h7 q.symm)]
  rw [kxN_s, show (((6 : Nat)) : Int) = 6 from rfl, e6, if_neg (fun q => h6 q.symm)]
  rw [kxN_s, show (((5 : Nat)) : Int) = 5 from rfl, e5, if_neg (fun q => h5 q.symm)]
  rw [kxN_s, show (((4 : Nat)) : Int) = 4 from rfl, e4, if_neg (fun q => h4 q.symm)]
  rw [kxN_s, show (((3 : Nat)) : Int) = 3 from rfl, e3, if_neg (fun q => h3 q.symm)]
  rw [kxN_s, show (((2 : Nat)) : Int) = 2 from rfl, e2, if_neg (fun q => h2 q.symm)]
  rw [kxN_s, show (((1 : Nat)) : Int) = 1 from rfl, e1, if_neg (fun q => h1 q.symm)]
  rw [kxN_s, show (((0 : Nat)) : Int) = 0 from rfl, e0, if_neg (fun q => h0 q.symm)]
  rfl
theorem kxN_k {v : Int} : kxN v 34 = kix v := by
  by_cases h0 : v = 6194
  · subst h0; decide
  by_cases h1 : v = 89728164
  · subst h1; decide
  by_cases h2 : v = 9612
  · subst h2; decide
  by_cases h3 : v = 71052
  · subst h3; decide
  by_cases h4 : v = 16829081
  · subst h4; decide
  by_cases h5 : v = 441878706
  · subst h5; decide
  by_cases h6 : v = 486
  · subst h6; decide
  by_cases h7 : v = 52
  · subst h7; decide
  by_cases h8 : v = 20452516
  · subst h8; decide
  by_cases h9 : v = 17376357
  · subst h9; decide
  by_cases h10 : v = 136228
  · subst h10; decide
  by_cases h11 : v = 631915
  · subst h11; decide
  by_cases h12 : v = 278007982
  · subst h12; decide
  by_cases h13 : v = 21734867
  · subst h13; decide
  by_cases h14 : v = 452601326
  · subst h14; decide
  by_cases h15 : v = 6642
  · subst h15; decide
  by_cases h16 : v = 1309981300
  · subst h16; decide
  by_cases h17 : v = 605677
  · subst h17; decide
  by_cases h18 : v = 21015731
  · subst h18; decide
  by_cases h19 : v = 495763
  · subst h19; decide
  by_cases h20 : v = 446125701
  · subst h20; decide
  by_cases h21 : v = 114085
  · subst h21; decide
  by_cases h22 : v = 239
  · subst h22; decide
  by_cases h23 : v = 643129
  · subst h23; decide
  by_cases h24 : v = 4389
  · subst h24; decide
  by_cases h25 : v = 198028
  · subst h25; decide
  by_cases h26 : v = 1497
  · subst h26; decide
  by_cases h27 : v = 762030
  · subst h27; decide
  by_cases h28 : v = 8042760659
  · subst h28; decide
  by_cases h29 : v = 3274253476
  · subst h29; decide
  by_cases h30 : v = 26265747
  · subst h30; decide
  by_cases h31 : v = 409072
  · subst h31; decide
  by_cases h32 : v = 5572
  · subst h32; decide
  by_cases h33 : v = 643568
  · subst h33; decide
  rw [kxN_n ⟨h0, h1, h2, h3, h4, h5, h6, h7, h8, h9, h10, h11, h12, h13, h14, h15, h16, h17, h18, h19, h20, h21, h22, h23, h24, h25, h26, h27, h28, h29, h30, h31, h32, h33⟩, kix_n ⟨h0, h1, h2, h3, h4, h5, h6, h7, h8, h9, h10, h11, h12, h13, h14, h15, h16, h17, h18, h19, h20, h21, h22, h23, h24, h25, h26, h27, h28, h29, h30, h31, h32, h33⟩]
theorem up_k {f : Sg} {a j v : Int} (h : f a j = v) : up f a j v = f := by
  funext b k; unfold up; split
  · rename_i e; rw [e.1, e.2]; exact h.symm
  · rfl
def KR (σ : Sg) : Prop := ∀ i, 0 ≤ i → i < 34 → σ 19 i = kyV i
def cWd (y : Int → Int) (a : Int) : Nat → Int
  | 0 => 0
  | k + 1 => q64 (q64 (cWd y a k * 32) + (y (a + k) - 96))
theorem cWd_s {y : Int → Int} {a : Int} {k : Nat} : cWd y a (k + 1) = q64 (q64 (cWd y a k * 32) + (y (a + k) - 96)) := rfl
def cNm (y : Int → Int) (a : Int) : Nat → Int
  | 0 => 0
  | k + 1 => q32 (q32 (cNm y a k * 10) + (y (a + k) - 48))
theorem cNm_s {y : Int → Int} {a : Int} {k : Nat} : cNm y a (k + 1) = q32 (q32 (cNm y a k * 10) + (y (a + k) - 48)) := rfl
theorem cWd_w {y : Int → Int} {a : Int} : ∀ k : Nat, k ≤ 8 → (∀ j, a ≤ j → j < a + k → 97 ≤ y j ∧ y j ≤ 122) → cWd y a k = mWd y a k
  | 0, _, _ => rfl
  | k + 1, hk, h => by
    have ih := cWd_w k (by omega) (fun j h1 h2 => h j h1 (by omega))
    have b := mWd_b k (fun j h1 h2 => h j h1 (by omega))
    have hy := h (a + k) (by omega) (by omega)
    rw [cWd_s, mWd_s, if_pos (by omega), ih, q64_in (x := mWd y a k * 32) (by omega) (by omega), q64_in (by omega) (by omega)]; omega
theorem cNm_w {y : Int → Int} {a : Int} : ∀ k : Nat, k ≤ 4 → (∀ j, a ≤ j → j < a + k → 48 ≤ y j ∧ y j ≤ 57) → cNm y a k = mNm y a k
  | 0, _, _ => rfl
  | k + 1, hk, h => by
    have ih := cNm_w k (by omega) (fun j h1 h2 => h j h1 (by omega))
    have b := mNm_b k (fun j h1 h2 => h j h1 (by omega))
    have hy := h (a + k) (by omega) (by omega)
    rw [cNm_s, mNm_s, if_pos (by omega), ih, q32_in (x := mNm y a k * 10) (by omega) (by omega), q32_in (by omega) (by omega)]; omega
theorem mWd_1 {y : Int → Int} {a : Int} : ∀ k : Nat, 0 < k → k ≤ 8 → (∀ j, a ≤ j → j < a + k → 97 ≤ y j ∧ y j ≤ 122) → 0 < mWd y a k
  | 0, h, _, _ => by omega
  | k + 1, _, hk, h => by
    have b := (mWd_p k (by omega) (fun j h1 h2 => h j h1 (by omega))).1
    have hy := h (a + k) (by omega) (by omega)
    rw [mWd_s, if_pos (by omega)]; omega
theorem u_adv_1 {d L : Nat} {σ : Sg} {Q : Option MV → MH → Prop} (hn : 0 ≤ σ 17 9 ∧ σ 17 9 ≤ 900) : ∀ (k : Nat) (p : Int), 0 ≤ p → σ 17 9 - p ≤ k → Go d k_X9_advance 30 [vr 17] [] (SH L, up σ 17 10 (spN (σ 18) (σ 17 9) k p)) Q → Go d k_X9_advance 4 [vr 17] [] (SH L, up σ 17 10 p) Q
  | 0, p, hp, hk, K => by
    exact Go.sym (cut := [9, 30]) 6 ⟨rfl, ⟨rfl, ⟨fun cqz1 => ((by rw [spN_o (fun q => by have z : σ 17 9 ≤ p := cqz1; omega)] at K; exact K)), fun cqz1 => ((by exfalso; have z : ¬ σ 17 9 ≤ p := cqz1; omega))⟩⟩⟩
  | k + 1, p, hp, hk, K => by
    exact Go.sym (cut := [4, 30]) 27 ⟨rfl, ⟨rfl, ⟨fun cqz1 => ((by rw [spN_o (by have z : σ 17 9 ≤ p := cqz1; exact fun q => by omega)] at K; exact K)), fun cqz1 => ⟨rfl, ⟨rfl, ⟨⟨rfl, (by first | omega | (show _ ≤ p; omega) | (show p < (900 : Int); have z : ¬ σ 17 9 ≤ p := cqz1; omega)), (by first | omega | (show _ ≤ p; omega) | (show p < (900 : Int); have z : ¬ σ 17 9 ≤ p := cqz1; omega))⟩, ⟨fun cqz2 => ⟨rfl, ⟨⟨rfl, (ib rfl)⟩, (Go.toh rfl rfl (he (by have z9 : ¬ σ 17 9 ≤ p := cqz1; show up σ 17 10 (p + 1) = up (up σ 17 10 p) 17 10 (q32 (p + 1)); rw [q32_in (by omega) (by omega)]; funext a j; unfold up; (repeat' split) <;> first | rfl | (exfalso; omega))) (u_adv_1 hn k (p + 1) (by omega) (by have z : ¬ σ 17 9 ≤ p := cqz1; omega) (by rw [spN_s (show p < σ 17 9 ∧ (σ 18 p = 10 ∨ σ 18 p = 32) by have z : ¬ σ 17 9 ≤ p := cqz1; have z1 : σ 18 p = 32 := cqz2; omega)] at K; exact K)))⟩⟩, fun cqz2 => ⟨rfl, ⟨rfl, ⟨⟨rfl, (by first | omega | (show _ ≤ p; omega) | (show p < (900 : Int); have z : ¬ σ 17 9 ≤ p := cqz1; omega)), (by first | omega | (show _ ≤ p; omega) | (show p < (900 : Int); have z : ¬ σ 17 9 ≤ p := cqz1; omega))⟩, ⟨fun cqz3 => ((by rw [spN_o (by have z1 : ¬ σ 18 p = 32 := cqz2; have z2 : ¬ σ 18 p = 10 := cqz3; exact fun q => by omega)] at K; exact K)), fun cqz3 => ⟨rfl, ⟨⟨rfl, (ib rfl)⟩, (Go.toh rfl rfl (he (by have z9 : ¬ σ 17 9 ≤ p := cqz1; show up σ 17 10 (p + 1) = up (up σ 17 10 p) 17 10 (q32 (p + 1)); rw [q32_in (by omega) (by omega)]; funext a j; unfold up; (repeat' split) <;> first | rfl | (exfalso; omega))) (u_adv_1 hn k (p + 1) (by omega) (by have z : ¬ σ 17 9 ≤ p := cqz1; omega) (by rw [spN_s (show p < σ 17 9 ∧ (σ 18 p = 10 ∨ σ 18 p = 32) by have z : ¬ σ 17 9 ≤ p := cqz1; have z1 : ¬ ¬ σ 18 p = 10 := cqz3; omega)] at K; exact K)))⟩⟩⟩⟩⟩⟩⟩⟩⟩⟩⟩⟩⟩
theorem u_rw_1 {d L : Nat} {σ : Sg} {a : Int} {v1 : MV} {Q : Option MV → MH → Prop} (hn : 0 ≤ σ 17 9 ∧ σ 17 9 ≤ 900) (hy : BY (σ 18)) : ∀ (k : Nat) (p : Int), 0 ≤ a → a ≤ p → σ 17 9 - p ≤ k → Go d k_X9_readWord 47 [vr 17, v1] [] (SH L, up (up σ 17 4 (cWd (σ 18) a ((rgE (σ 18) (σ 17 9) 97 122 k p) - a).toNat)) 17 11 (rgE (σ 18) (σ 17 9) 97 122 k p)) Q → Go d k_X9_readWord 6 [vr 17, v1] [] (SH L, up (up σ 17 4 (cWd (σ 18) a (p - a).toNat)) 17 11 p) Q
  | 0, p, ha, hp, hk, K => by
    exact Go.sym (cut := [11, 47]) 6 ⟨rfl, ⟨rfl, ⟨fun cqz1 => ((by rw [rgE_o (fun q => by have z : σ 17 9 ≤ p := cqz1; omega)] at K; exact K)), fun cqz1 => ((by exfalso; have z : ¬ σ 17 9 ≤ p := cqz1; omega))⟩⟩⟩
  | k + 1, p, ha, hp, hk, K => by
    exact Go.sym (cut := [6, 47]) 42 ⟨rfl, ⟨rfl, ⟨fun cqz1 => ((by have e : ¬ (p < σ 17 9 ∧ 97 ≤ σ 18 p ∧ σ 18 p ≤ 122) := (by have z : σ 17 9 ≤ p := cqz1; omega); rw [rgE_o e] at K; exact K)), fun cqz1 => ⟨rfl, ⟨rfl, ⟨⟨rfl, (by first | omega | (show _ ≤ p; omega) | (show p < (900 : Int); have z : ¬ σ 17 9 ≤ p := cqz1; omega)), (by first | omega | (show _ ≤ p; omega) | (show p < (900 : Int); have z : ¬ σ 17 9 ≤ p := cqz1; omega))⟩, ⟨fun cqz2 => ((by have e : ¬ (p < σ 17 9 ∧ 97 ≤ σ 18 p ∧ σ 18 p ≤ 122) := (by have z : σ 18 p < 97 := cqz2; omega); rw [rgE_o e] at K; exact K)), fun cqz2 => ⟨rfl, ⟨rfl, ⟨⟨rfl, (by first | omega | (show _ ≤ p; omega) | (show p < (900 : Int); have z : ¬ σ 17 9 ≤ p := cqz1; omega)), (by first | omega | (show _ ≤ p; omega) | (show p < (900 : Int); have z : ¬ σ 17 9 ≤ p := cqz1; omega))⟩, ⟨fun cqz3 => ((by have e : ¬ (p < σ 17 9 ∧ 97 ≤ σ 18 p ∧ σ 18 p ≤ 122) := (by have z : 122 < σ 18 p := cqz3; omega); rw [rgE_o e] at K; exact K)), fun cqz3 => ⟨rfl, ⟨rfl, ⟨rfl, ⟨⟨rfl, (by first | omega | (show _ ≤ p; omega) | (show p < (900 : Int); have z : ¬ σ 17 9 ≤ p := cqz1; omega)), (by first | omega | (show _ ≤ p; omega) | (show p < (900 : Int); have z : ¬ σ 17 9 ≤ p := cqz1; omega))⟩, ⟨⟨rfl, (ib rfl)⟩, ⟨rfl, ⟨⟨rfl, (ib rfl)⟩, (Go.toh rfl rfl (he (by have z : ¬ σ 17 9 ≤ p := cqz1; have z1 : ¬ σ 18 p < 97 := cqz2; have z2 : ¬ 122 < σ 18 p := cqz3; have e : p < σ 17 9 ∧ 97 ≤ σ 18 p ∧ σ 18 p ≤ 122 := (by omega); have ew : cWd (σ 18) a (p + 1 - a).toNat = q64 (q64 (cWd (σ 18) a (p - a).toNat * 32) + (σ 18 p - 96)) := (by rw [show (p + 1 - a).toNat = (p - a).toNat + 1 by omega, cWd_s, show a + (((p - a).toNat : Nat) : Int) = p by omega]); rw [ew]; have qb := hy p; show _ = up (up (up (up σ 17 4 (cWd (σ 18) a (p - a).toNat)) 17 11 p) 17 4 (q64 (q64 ((cWd (σ 18) a (p - a).toNat) * 32) + q32 (σ 18 p - 96)))) 17 11 (q32 (p + 1)); rw [q32_in (x := σ 18 p - 96) (by omega) (by omega), q32_in (x := p + 1) (by omega) (by omega)]; funext a j; unfold up; (repeat' split) <;> first | rfl | (exfalso; omega))) (u_rw_1 hn hy k (p + 1) (by omega) (by omega) (by have z : ¬ σ 17 9 ≤ p := cqz1; have z1 : ¬ σ 18 p < 97 := cqz2; have z2 : ¬ 122 < σ 18 p := cqz3; have e : p < σ 17 9 ∧ 97 ≤ σ 18 p ∧ σ 18 p ≤ 122 := (by omega); have ew : cWd (σ 18) a (p + 1 - a).toNat = q64 (q64 (cWd (σ 18) a (p - a).toNat * 32) + (σ 18 p - 96)) := (by rw [show (p + 1 - a).toNat = (p - a).toNat + 1 by omega, cWd_s, show a + (((p - a).toNat : Nat) : Int) = p by omega]); omega) (by have z : ¬ σ 17 9 ≤ p := cqz1; have z1 : ¬ σ 18 p < 97 := cqz2; have z2 : ¬ 122 < σ 18 p := cqz3; have e : p < σ 17 9 ∧ 97 ≤ σ 18 p ∧ σ 18 p ≤ 122 := (by omega); have ew : cWd (σ 18) a (p + 1 - a).toNat = q64 (q64 (cWd (σ 18) a (p - a).toNat * 32) + (σ 18 p - 96)) := (by rw [show (p + 1 - a).toNat = (p - a).toNat + 1 by omega, cWd_s, show a + (((p - a).toNat : Nat) : Int) = p by omega]); rw [rgE_s e] at K; exact K)))⟩⟩⟩⟩⟩⟩⟩⟩⟩⟩⟩⟩⟩⟩⟩⟩⟩⟩
theorem u_rw_2 {d L : Nat} {σ : Sg} (hK : KR σ) : ∀ m : Nat, m ≤ 34 → Go d k_X9_readWord 59 [vr 17, vi m] [] (SH L, up σ 17 3 (kxN (σ 17 4) m)) (fun v h' => v = none ∧ h'.1 = SH L ∧ h'.2 = up σ 17 3 (kix (σ 17 4))) := by
  refine up_ind _ (fun m hm0 ih => ?_)
  exact Go.sym (cut := [59]) 17 ⟨fun cqz1 => ⟨rfl, rfl, (by have e : m = 34 := (by have z : 34 ≤ (m : Int) := cqz1; omega); subst e; show up σ 17 3 (kxN (σ 17 4) 34) = _; rw [kxN_k])⟩, fun cqz1 => ⟨rfl, ⟨⟨rfl, (by first | omega | ((try clear ih) <;> (try clear hV) <;> (try clear K) <;> (try clear KS) <;> (try simp only [icond, nc, bi0, bi1, bin0, bin1, ne_eq, Decidable.not_not] at *) <;> (try simp (disch := omega) only [icond, q32_in, srM, srN, jc_lt, jc_gt, jc_le, jc_ge, jc_eq, bi0, bi1, bin0, bin1, List.headD_cons, ne_eq, Decidable.not_not, fin01, nc, not_true_eq_false, not_false_eq_true, false_and, and_false, true_and, and_true, false_or, or_false, sr_sr, sr_e, sr_n, bu_n, bu_e, sr_id, up_sr, sca0, sca1, sca2, scb0, scb1, scb2, shc0, shc1, mem24, mem52, shn] at *) <;> (try simp (disch := omega) only [q32_in, bu_n, bu_e] at *) <;> omega)), (by first | omega | ((try clear ih) <;> (try clear hV) <;> (try clear K) <;> (try clear KS) <;> (try simp only [icond, nc, bi0, bi1, bin0, bin1, ne_eq, Decidable.not_not] at *) <;> (try simp (disch := omega) only [icond, q32_in, srM, srN, jc_lt, jc_gt, jc_le, jc_ge, jc_eq, bi0, bi1, bin0, bin1, List.headD_cons, ne_eq, Decidable.not_not, fin01, nc, not_true_eq_false, not_false_eq_true, false_and, and_false, true_and, and_true, false_or, or_false, sr_sr, sr_e, sr_n, bu_n, bu_e, sr_id, up_sr, sca0, sca1, sca2, scb0, scb1, scb2, shc0, shc1, mem24, mem52, shn] at *) <;> (try simp (disch := omega) only [q32_in, bu_n, bu_e] at *) <;> omega))⟩, ⟨rfl, ⟨fun cqz2 => (Go.toh (lc rfl (lc (ve (by rw [q32_in (by omega) (by omega)]; omega)) rfl)) rfl (he (by have hk := hK m (by omega) (by have z : ¬ 34 ≤ (m : Int) := cqz1; omega); have z : ¬ σ 19 m = σ 17 4 := (fun e => (show ¬ j_cmp (σ 19 m) (σ 17 4) = 0 from cqz2) (jc_eq.mpr e)); rw [kxN_s, if_neg (by rw [← hk]; exact z)] <;> rfl)) (ih (m + 1) (by omega) (by have z : ¬ 34 ≤ (m : Int) := cqz1; omega))), fun cqz2 => ⟨⟨rfl, (ib rfl)⟩, (Go.toh (lc rfl (lc (ve (by rw [q32_in (by omega) (by omega)]; omega)) rfl)) rfl (he (by have hk := hK m (by omega) (by have z : ¬ 34 ≤ (m : Int) := cqz1; omega); have z : σ 19 m = σ 17 4 := (jc_eq.mp (Decidable.of_not_not (show ¬ ¬ j_cmp (σ 19 m) (σ 17 4) = 0 from cqz2))); rw [kxN_s, if_pos (by rw [← hk]; exact z)]; show up σ 17 3 (m : Int) = up (up σ 17 3 (kxN (σ 17 4) m)) 17 3 (m : Int); funext a j; unfold up; (repeat' split) <;> first | rfl | (exfalso; omega))) (ih (m + 1) (by omega) (by have z : ¬ 34 ≤ (m : Int) := cqz1; omega)))⟩⟩⟩⟩⟩⟩
theorem u_rw_3 {d L : Nat} {σ : Sg} {v1 : MV} (hK : KR σ) (h3 : σ 17 3 = -1) : Go d k_X9_readWord 57 [vr 17, v1] [] (SH L, σ) (fun v h' => v = none ∧ h'.1 = SH L ∧ h'.2 = up σ 17 3 (kix (σ 17 4))) :=
  Go.sym (cut := [59]) 3 (Go.toh rfl rfl (he (by show up σ 17 3 (-1) = σ; rw [up_sr, bu_k2 h3, sr_id])) (u_rw_2 hK 0 (Nat.zero_le _)))
theorem u_rw_4 {d L : Nat} {σ : Sg} {a : Int} {v1 : MV} (hn : 0 ≤ σ 17 9 ∧ σ 17 9 ≤ 900) (hK : KR σ) (h3 : σ 17 3 = -1) (ha : 0 ≤ a ∧ a ≤ σ 17 9) (h10 : σ 17 10 = a) : Go d k_X9_readWord 47 [vr 17, v1] [] (SH L, (up (up (up (up σ 17 12 1) 17 4 0) 17 4 (cWd (σ 18) a ((tW (σ 18) (σ 17 9) a) - a).toNat)) 17 11 (tW (σ 18) (σ 17 9) a))) (fun v h' => v = none ∧ h'.1 = SH L ∧ (h'.2 17 12 = 1 ∧ h'.2 17 4 = (if (tW (σ 18) (σ 17 9) a) - a ≤ 8 then mWd (σ 18) a ((tW (σ 18) (σ 17 9) a) - a).toNat else 0) ∧ h'.2 17 11 = (tW (σ 18) (σ 17 9) a) ∧ h'.2 17 3 = kix (if (tW (σ 18) (σ 17 9) a) - a ≤ 8 then mWd (σ 18) a ((tW (σ 18) (σ 17 9) a) - a).toNat else 0)) ∧ (∀ j, j ≠ 3 → j ≠ 4 → j ≠ 11 → j ≠ 12 → h'.2 17 j = σ 17 j) ∧ ∀ q, q ≠ 17 → h'.2 q = σ q) := by
  have hr : a ≤ (tW (σ 18) (σ 17 9) a) ∧ (tW (σ 18) (σ 17 9) a) ≤ σ 17 9 := rgE_r (y := σ 18) (n := σ 17 9) (lo := 97) (hi := 122) (σ 17 9 - a).toNat a ha.2
  exact Go.sym (cut := [57]) 11 ⟨rfl, ⟨rfl, ⟨fun cqz1 => (((u_rw_3 (σ := (up (up (up (up σ 17 12 1) 17 4 0) 17 4 (cWd (σ 18) a ((tW (σ 18) (σ 17 9) a) - a).toNat)) 17 11 (tW (σ 18) (σ 17 9) a))) (by intro q x1 x2; show σ 19 q = _; exact hK q x1 x2) (by show σ 17 3 = _; exact h3)).mono (fun v h' ⟨a1, a2, a3⟩ => ⟨a1, a2, (by have f4 := (show (up (up (up (up σ 17 12 1) 17 4 0) 17 4 (cWd (σ 18) a ((tW (σ 18) (σ 17 9) a) - a).toNat)) 17 11 (tW (σ 18) (σ 17 9) a)) 17 4 = (if (tW (σ 18) (σ 17 9) a) - a ≤ 8 then mWd (σ 18) a ((tW (σ 18) (σ 17 9) a) - a).toNat else 0) by have z : q32 ((tW (σ 18) (σ 17 9) a) - σ 17 10) ≤ 8 := cqz1; rw [h10, q32_in (by omega) (by omega)] at z; rw [if_pos (show (tW (σ 18) (σ 17 9) a) - a ≤ 8 by omega)]; (rw [up_nj (by decide), up_eq]; exact cWd_w _ (by omega) (fun j x1 x2 => rgE_in (n := σ 17 9) (σ 17 9 - a).toNat a j x1 (by have e : (tW (σ 18) (σ 17 9) a) = rgE (σ 18) (σ 17 9) 97 122 (σ 17 9 - a).toNat a := rfl; omega)))); rw [f4] at a3; rw [a3]; refine ⟨⟨?_, ?_, ?_, ?_⟩, fun j x1 x2 x3 x4 => ?_, fun q x => ?_⟩; (rfl); (rw [up_nj (by decide)]; exact f4); (rfl); (rw [up_eq]); (rw [up_nj x1, up_nj x3, up_nj x2, up_nj x2, up_nj x4]); (rw [up_row x, up_row x, up_row x, up_row x, up_row x]))⟩))), fun cqz1 => ⟨⟨rfl, (ib rfl)⟩, (((u_rw_3 (σ := (up (up (up (up (up σ 17 12 1) 17 4 0) 17 4 (cWd (σ 18) a ((tW (σ 18) (σ 17 9) a) - a).toNat)) 17 11 (tW (σ 18) (σ 17 9) a)) 17 4 0)) (by intro q x1 x2; show σ 19 q = _; exact hK q x1 x2) (by show σ 17 3 = _; exact h3)).mono (fun v h' ⟨a1, a2, a3⟩ => ⟨a1, a2, (by have f4 := (show (up (up (up (up (up σ 17 12 1) 17 4 0) 17 4 (cWd (σ 18) a ((tW (σ 18) (σ 17 9) a) - a).toNat)) 17 11 (tW (σ 18) (σ 17 9) a)) 17 4 0) 17 4 = (if (tW (σ 18) (σ 17 9) a) - a ≤ 8 then mWd (σ 18) a ((tW (σ 18) (σ 17 9) a) - a).toNat else 0) by have z : ¬ q32 ((tW (σ 18) (σ 17 9) a) - σ 17 10) ≤ 8 := cqz1; rw [h10, q32_in (by omega) (by omega)] at z; rw [if_neg z]; exact up_eq); rw [f4] at a3; rw [a3]; refine ⟨⟨?_, ?_, ?_, ?_⟩, fun j x1 x2 x3 x4 => ?_, fun q x => ?_⟩; (rfl); (rw [up_nj (by decide)]; exact f4); (rfl); (rw [up_eq]); (rw [up_nj x1, up_nj x2, up_nj x3, up_nj x2, up_nj x2, up_nj x4]); (rw [up_row x, up_row x, up_row x, up_row x, up_row x, up_row x]))⟩)))⟩⟩⟩⟩
theorem u_readWord {d L : Nat} {σ : Sg} {a : Int} (hn : 0 ≤ σ 17 9 ∧ σ 17 9 ≤ 900) (hy : BY (σ 18)) (hK : KR σ) (h3 : σ 17 3 = -1) (ha : 0 ≤ a ∧ a ≤ σ 17 9) (h10 : σ 17 10 = a) (h11 : σ 17 11 = a) : cV d m_X9_readWord [vr 17] (SH L) σ (fun σ' => (σ' 17 12 = 1 ∧ σ' 17 4 = (if (tW (σ 18) (σ 17 9) a) - a ≤ 8 then mWd (σ 18) a ((tW (σ 18) (σ 17 9) a) - a).toNat else 0) ∧ σ' 17 11 = (tW (σ 18) (σ 17 9) a) ∧ σ' 17 3 = kix (if (tW (σ 18) (σ 17 9) a) - a ≤ 8 then mWd (σ 18) a ((tW (σ 18) (σ 17 9) a) - a).toNat else 0)) ∧ (∀ j, j ≠ 3 → j ≠ 4 → j ≠ 11 → j ≠ 12 → σ' 17 j = σ 17 j) ∧ ∀ q, q ≠ 17 → σ' q = σ q) :=
  cV.go rfl rfl (Go.sym (cut := [6]) 7 ⟨⟨rfl, (ib rfl)⟩, ⟨⟨rfl, (ib rfl)⟩, (Go.toh rfl rfl (he (show up (up (up (up σ 17 12 1) 17 4 0) 17 4 (cWd (σ 18) a (a - a).toNat)) 17 11 a = (up (up σ 17 12 1) 17 4 0) by rw [show (a - a).toNat = 0 by omega]; show up (up (up (up σ 17 12 1) 17 4 0) 17 4 0) 17 11 a = (up (up σ 17 12 1) 17 4 0); rw [up_k (show (up (up σ 17 12 1) 17 4 0) 17 4 = 0 from rfl), up_k (show (up (up σ 17 12 1) 17 4 0) 17 11 = a from h11)])) (u_rw_1 (σ := up (up σ 17 12 1) 17 4 0) (a := a) (by exact hn) (by exact hy) (σ 17 9 - a).toNat a ha.1 (Int.le_refl _) (by show σ 17 9 - a ≤ _; omega) (by exact u_rw_4 hn hK h3 ha h10)))⟩⟩)
