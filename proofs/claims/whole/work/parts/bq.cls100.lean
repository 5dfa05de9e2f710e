/-! ===== the constructors: small ones, the tape (text laid by gencls100.py) ===== -/
theorem CallV.dt {d mi : Nat} {args : List MV} {h h0 : MH} {Q : MH → Prop} (H : CallV d mi args h (fun h' => h' = h0)) (k : Q h0) : CallV d mi args h Q := CallV.mono H (fun h' e => by rw [e]; exact k)
theorem n_X2 {d : Nat} {S S' : MSh} {σ : Sg} {a : Int} (ha : 0 < a) (e : S = S') : CallV d m_X2_init [vr a] (S, σ) (fun h' => h' = (S', σ)) := CallV.go rfl rfl (Go.sym (cut := []) 4 ⟨⟨ha, nb rfl⟩, ⟨rfl, by rw [e]⟩⟩)
/-- the keys' words, read letter by letter: the word so far, how many words, the words -/
def kwF : Nat → Int × Int × List Int
  | 0 => (0, 0, List.replicate 34 0)
  | p + 1 => if KWI.getD p 0 = 32 then (0, q32 ((kwF p).2.1 + 1), (kwF p).2.2.set (kwF p).2.1.toNat (kwF p).1) else (q64 (q64 ((kwF p).1 * 32) + q32 (KWI.getD p 0 - 96)), (kwF p).2.1, (kwF p).2.2)
theorem kwF_t {p : Nat} (h : KWI.getD p 0 = 32) : kwF (p + 1) = (0, q32 ((kwF p).2.1 + 1), (kwF p).2.2.set (kwF p).2.1.toNat (kwF p).1) := if_pos h
theorem kwF_e {p : Nat} (h : ¬ KWI.getD p 0 = 32) : kwF (p + 1) = (q64 (q64 ((kwF p).1 * 32) + q32 (KWI.getD p 0 - 96)), (kwF p).2.1, (kwF p).2.2) := if_neg h
theorem kwF_r : ∀ p, p < 183 → 0 ≤ (kwF p).2.1 ∧ (kwF p).2.1 < 34 := by decide +kernel
theorem kwF_l : ∀ p, (kwF p).2.2.length = 34
  | 0 => rfl
  | p + 1 => by
    by_cases h : KWI.getD p 0 = 32
    · rw [kwF_t h]; dsimp only; rw [List.length_set]; exact kwF_l p
    · rw [kwF_e h]; exact kwF_l p
theorem kwF_k : ∀ i, i < 34 → (kwF 183).2.2.getD i 0 = kyV (i : Int) := by decide +kernel
def rowL (l : List Int) : Int → Int := fun j => if 0 ≤ j then l.getD j.toNat 0 else 0
theorem rowL_0 : rowL (kwF 0).2.2 = fun _ => 0 := by
  funext j; unfold rowL; split
  · show (List.replicate 34 (0 : Int)).getD j.toNat 0 = 0
    rw [List.getD_eq_getElem?_getD, List.getElem?_replicate]; split <;> rfl
  · rfl
theorem rowL_s {l : List Int} {i v : Int} (h : 0 ≤ i ∧ i < l.length) : bu (rowL l) i v = rowL (l.set i.toNat v) := by
  funext j
  unfold rowL
  by_cases e : j = i
  · subst e
    rw [bu_e rfl, if_pos h.1, List.getD_eq_getElem?_getD, List.getElem?_set_self (by omega)]; rfl
  · rw [bu_n e]
    split
    · rw [List.getD_eq_getElem?_getD, List.getD_eq_getElem?_getD, List.getElem?_set_ne (by omega)]
    · rfl
def sT (L : Nat) : MSh := (sh0 L ++ [(21, 18, [0, 0, 0, 8, 0, 0, 0, 0, 0, 0, 0, 0, 0, 0, 0, 0, 0, 0]), (4, 4, [9, 11, 13, 15]), (20, 3, [0, 0, 10]), (1, 60, []), (20, 3, [0, 0, 12]), (1, 60, []), (20, 3, [0, 0, 14]), (1, 60, []), (20, 3, [0, 0, 16]), (1, 60, []), (19, 14, [0, 0, 0, 0, 0, 0, 0, 18, 19, 0, 0, 0, 0, 0]), (2, 900, []), (1, 34, [])])
theorem n_key {d L : Nat} {σ : Sg} (hs : ∀ j : Int, 0 ≤ j → j < 183 → σ 6 j = KWI.getD j.toNat 0) : ∀ m : Nat, m ≤ 183 → ∀ v5 : MV, Go d k_X9_init 25 [vr 17, vl (kwF m).1, vj, vi (kwF m).2.1, vi m, v5] [] (sT L, sr σ 19 (rowL (kwF m).2.2)) (fun v h' => v = none ∧ h' = (sT L, sr σ 19 (rowL (kwF 183).2.2))) := by
  refine up_ind _ (fun m hm ih v5 => ?_)
  exact Go.sym (cut := [25]) 26 ⟨⟨rfl, (nb rfl)⟩, ⟨fun cqz1 => ⟨rfl, (by have z : (183 : Int) ≤ (m : Int) := cqz1; have e : m = 183 := (by omega); subst e; rfl)⟩, fun cqz1 => ⟨fun cqz2 => (by exfalso; have z1 : ¬ (183 : Int) ≤ (m : Int) := cqz1; have hm3 : m < 183 := (by omega); have r := kwF_r m hm3; have ec : sr σ 19 (rowL (kwF m).2.2) 6 (m : Int) = KWI.getD m 0 := (by rw [sr_n (by decide), hs (m : Int) (by omega) (by omega)]; rfl); have z2 : (34 : Int) ≤ (kwF m).2.1 := cqz2; omega), fun cqz2 => ⟨⟨rfl, (Int.natCast_nonneg m), (show (m : Int) < 183 by have z1 : ¬ (183 : Int) ≤ (m : Int) := cqz1; omega), (nb rfl)⟩, ⟨fun cqz3 => ((by have z1 : ¬ (183 : Int) ≤ (m : Int) := cqz1; have hm3 : m < 183 := (by omega); have r := kwF_r m hm3; have ec : sr σ 19 (rowL (kwF m).2.2) 6 (m : Int) = KWI.getD m 0 := (by rw [sr_n (by decide), hs (m : Int) (by omega) (by omega)]; rfl); have hc : ¬ KWI.getD m 0 = 32 := (by rw [← ec]; exact cqz3); refine Go.toh ?_ rfl ?_ (ih (m + 1) (by omega) (by omega) (vi (sr σ 19 (rowL (kwF m).2.2) 6 (m : Int)))); exact (lc rfl (lc (vle (by rw [kwF_e hc, ← ec]; first | done | rfl)) (lc rfl (lc (ve (by rw [kwF_e hc]; first | done | rfl)) (lc (ve (by rw [q32_in (by omega) (by omega)]; omega)) (lc rfl rfl)))))); exact he (by rw [kwF_e hc]))), fun cqz3 => ⟨rfl, ⟨⟨rfl, (ib rfl), (kwF_r m (by have z1 : ¬ (183 : Int) ≤ (m : Int) := cqz1; omega)).1, (kwF_r m (by have z1 : ¬ (183 : Int) ≤ (m : Int) := cqz1; omega)).2⟩, ((by have z1 : ¬ (183 : Int) ≤ (m : Int) := cqz1; have hm3 : m < 183 := (by omega); have r := kwF_r m hm3; have ec : sr σ 19 (rowL (kwF m).2.2) 6 (m : Int) = KWI.getD m 0 := (by rw [sr_n (by decide), hs (m : Int) (by omega) (by omega)]; rfl); have hc : KWI.getD m 0 = 32 := (by rw [← ec]; exact Decidable.of_not_not cqz3); refine Go.toh ?_ rfl ?_ (ih (m + 1) (by omega) (by omega) (vi (sr σ 19 (rowL (kwF m).2.2) 6 (m : Int)))); exact (lc rfl (lc (vle (by rw [kwF_t hc]; first | done | rfl)) (lc rfl (lc (ve (by rw [kwF_t hc]; first | done | rfl)) (lc (ve (by rw [q32_in (by omega) (by omega)]; omega)) (lc rfl rfl)))))); exact he (show sr σ 19 (rowL (kwF (m + 1)).2.2) = up (sr σ 19 (rowL (kwF m).2.2)) 19 (kwF m).2.1 (kwF m).1 by rw [kwF_t hc, up_sr, sr_sr, sr_e rfl, rowL_s (by rw [kwF_l]; exact r)])))⟩⟩⟩⟩⟩⟩⟩
theorem n_X9 {d L : Nat} {σ : Sg} (h19 : (up (up (up σ 17 1 (-1)) 17 2 (-1)) 17 3 (-1)) 19 = fun _ => 0) (hs : ∀ j : Int, 0 ≤ j → j < 183 → σ 6 j = KWI.getD j.toNat 0) : CallV d m_X9_init [vr 17] ((sh0 L ++ [(21, 18, [0, 0, 0, 8, 0, 0, 0, 0, 0, 0, 0, 0, 0, 0, 0, 0, 0, 0]), (4, 4, [9, 11, 13, 15]), (20, 3, [0, 0, 10]), (1, 60, []), (20, 3, [0, 0, 12]), (1, 60, []), (20, 3, [0, 0, 14]), (1, 60, []), (20, 3, [0, 0, 16]), (1, 60, []), (19, 14, [0, 0, 0, 0, 0, 0, 0, 0, 0, 0, 0, 0, 0, 0])]), σ) (fun h' => h' = (sT L, (sr (up (up (up σ 17 1 (-1)) 17 2 (-1)) 17 3 (-1)) 19 (rowL (kwF 183).2.2)))) :=
  CallV.go rfl rfl (Go.sym (cut := [14]) 15 ⟨⟨(ib rfl), (nb rfl)⟩, ⟨⟨rfl, (ib rfl)⟩, ⟨⟨rfl, (ib rfl)⟩, ⟨⟨rfl, (ib rfl)⟩, ⟨⟨(il rfl), (ib rfl)⟩, (Go.toh (ls' := [vr 17, vj, vj, vj, vj, vj]) (st' := [vr 18, vr 17]) rfl rfl rfl (Go.sym (cut := [15]) 2 ⟨⟨rfl, (ib rfl)⟩, (Go.toh (ls' := [vr 17, vj, vj, vj, vj, vj]) (st' := []) (h' := ((sh0 L ++ [(21, 18, [0, 0, 0, 8, 0, 0, 0, 0, 0, 0, 0, 0, 0, 0, 0, 0, 0, 0]), (4, 4, [9, 11, 13, 15]), (20, 3, [0, 0, 10]), (1, 60, []), (20, 3, [0, 0, 12]), (1, 60, []), (20, 3, [0, 0, 14]), (1, 60, []), (20, 3, [0, 0, 16]), (1, 60, []), (19, 14, [0, 0, 0, 0, 0, 0, 0, 18, 0, 0, 0, 0, 0, 0]), (2, 900, [])]), (up (up (up σ 17 1 (-1)) 17 2 (-1)) 17 3 (-1)))) rfl rfl rfl (Go.sym (cut := [18]) 4 ⟨⟨(il rfl), (ib rfl)⟩, (Go.toh (ls' := [vr 17, vj, vj, vj, vj, vj]) (st' := [vr 19, vr 17]) rfl rfl rfl (Go.sym (cut := [19]) 2 ⟨⟨rfl, (ib rfl)⟩, (Go.toh (ls' := [vr 17, vj, vj, vj, vj, vj]) (st' := []) (h' := ((sh0 L ++ [(21, 18, [0, 0, 0, 8, 0, 0, 0, 0, 0, 0, 0, 0, 0, 0, 0, 0, 0, 0]), (4, 4, [9, 11, 13, 15]), (20, 3, [0, 0, 10]), (1, 60, []), (20, 3, [0, 0, 12]), (1, 60, []), (20, 3, [0, 0, 14]), (1, 60, []), (20, 3, [0, 0, 16]), (1, 60, []), (19, 14, [0, 0, 0, 0, 0, 0, 0, 18, 19, 0, 0, 0, 0, 0]), (2, 900, []), (1, 34, [])]), (up (up (up σ 17 1 (-1)) 17 2 (-1)) 17 3 (-1)))) rfl rfl rfl (Go.sym (cut := [25]) 7 (Go.toh rfl rfl (he (show sr (up (up (up σ 17 1 (-1)) 17 2 (-1)) 17 3 (-1)) 19 (rowL (kwF 0).2.2) = (up (up (up σ 17 1 (-1)) 17 2 (-1)) 17 3 (-1)) by rw [rowL_0, ← h19, sr_id])) (n_key (σ := (up (up (up σ 17 1 (-1)) 17 2 (-1)) 17 3 (-1))) (fun j p q => by rw [up_row (by decide), up_row (by decide), up_row (by decide)]; exact hs j p q) 0 (by decide) _))))⟩))⟩))⟩))⟩⟩⟩⟩⟩)
