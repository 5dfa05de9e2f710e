/-! ===== the law answers 1 (text laid by gencls105.py) ===== -/
set_option maxRecDepth 100000 in
theorem law_0 {L : Nat} {xs : Nat → Int} (hL : L ≤ 3072) (hx : ∀ j, r32 (xs j)) : Go 1200 k_L_law 0 [vr 4, vj, vj, vj] [] (h00 L xs) (QL L) := by
  have hz : ∀ a j : Int, 7 ≤ a → sigma0 L xs a j = 0 := fun a j p => by
    unfold sigma0; rw [if_neg (by omega), if_neg (by omega), if_neg (by omega)]
  have hl : LWs (sigma0 L xs) := ⟨⟨rfl, rfl, rfl, rfl⟩, ⟨rfl, rfl, rfl, rfl⟩, ⟨rfl, rfl, rfl, rfl⟩⟩
  have h4 : ∀ j, r32 (sigma0 L xs 4 j) := fun j => by
    unfold sigma0; rw [if_pos rfl]; split
    · exact hx _
    · unfold r32; omega
  have h19 : sigma0 L xs 19 = fun _ => 0 := funext (fun j => hz 19 j (by decide))
  have hs : ∀ j : Int, 0 ≤ j → j < 183 → sigma0 L xs 6 j = KWI.getD j.toNat 0 := fun j p q => by
    unfold sigma0; rw [if_neg (by decide), if_neg (by decide), if_pos rfl]
  have iv : IV (sJ (sI (sigma0 L xs))) := IV.z hz hl h4
  have X1 : CallV (1200 - 1) m_X11_init [vr 7] ((sh0 L ++ [(21, 18, [0, 0, 0, 0, 0, 0, 0, 0, 0, 0, 0, 0, 0, 0, 0, 0, 0, 0])]), sigma0 L xs) (fun h' => h' = ((sh0 L ++ [ee204, ee11, ee2, ee3, ee6, ee3, ee8, ee3, ee10, ee3, ee12, ee13, ee14, ee41, ee17, ee19, ee21, ee52, ee25, ee19, ee19, ee29, ee31, ee31, ee39, ee34, ee34, ee34, ee34, ee34, ee34, ee42, ee42, ee42, ee42, ee42, ee42, ee42, ee42, ee42, ee42, ee71, ee17, ee19, ee21, ee81, ee25, ee19, ee19, ee29, ee31, ee31, ee70, ee34, ee34, ee34, ee34, ee34, ee34, ee42, ee42, ee42, ee42, ee42, ee42, ee42, ee42, ee42, ee42, ee168, ee101, ee17, ee19, ee21, ee111, ee25, ee19, ee19, ee29, ee31, ee31, ee100, ee34, ee34, ee34, ee34, ee34, ee34, ee42, ee42, ee42, ee42, ee42, ee42, ee42, ee42, ee42, ee42, ee129, ee17, ee19, ee21, ee139, ee25, ee19, ee19, ee29, ee31, ee31, ee128, ee34, ee34, ee34, ee34, ee34, ee34, ee42, ee42, ee42, ee42, ee42, ee42, ee42, ee42, ee42, ee42, ee157, ee17, ee19, ee21, ee167, ee25, ee19, ee19, ee29, ee31, ee31, ee156, ee34, ee34, ee34, ee34, ee34, ee34, ee42, ee42, ee42, ee42, ee42, ee42, ee42, ee42, ee42, ee42, ee172, ee170, ee170, ee17, ee175, ee179, ee170, ee183, ee197, ee191, ee34, ee34, ee34, ee34, ee34, ee34, ee195, ee200, ee19, ee19, ee31]), sI (sigma0 L xs))) := n_X11 h19 hs (by decide)
  have hd : 4 ≤ 1200 := by decide
  exact Go.sym (cut := [10]) 11 ⟨⟨(nb rfl), (nb rfl), (ib rfl)⟩, ⟨d0 hd, (nb rfl)⟩, CallV.dt X1 ⟨⟨(nb rfl), (nb rfl), (ib rfl)⟩, ⟨d0 hd, (nb rfl)⟩, CallV.dt (n_X12 (by decide)) (law_loop hL (by decide) (L + 7) 0 _ iv ⟨by decide, by omega⟩ (by omega))⟩⟩
theorem law_mini : LawMini := by
  intro L xs hL hx
  obtain ⟨n, v, h', e, q1, q2⟩ := law_0 hL hx
  subst q1
  refine ⟨n, h', e, ?_, ?_⟩
  · rw [q2]; show (sh0 L ++ sh1).length ≤ 6 + 600000
    rw [List.length_append]
    have z1 : (sh0 L).length = 6 := rfl
    have z2 : sh1.length = 187 := by decide +kernel
    omega
  · rw [q2]; show sls (sh0 L ++ sh1) ≤ sls (sh0 L) + 7302250
    have z2 : sls sh1 ≤ 100000 := by decide +kernel
    unfold sls at *
    rw [List.map_append, List.sum_append]
    omega
