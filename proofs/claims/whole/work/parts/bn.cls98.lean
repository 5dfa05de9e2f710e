/-! ===== the law, call by call: fewest fewestSet cheapest cheapestSet powerBy game moveOf winning wins swings share lean (text laid by gencls94.py) ===== -/
set_option maxRecDepth 100000 in
theorem law_fewest {d L : Nat} {σ : Sg} {i : Int} (h : IV σ) (hi : 0 ≤ i ∧ i + 6 ≤ (L : Int)) (hL : L ≤ 3072) (hd : 40 ≤ d) (K : ∀ σ' : Sg, IV σ' → Go d k_L_law 1349 [vr 4, vr 7, vr 182, vi i] [] (SH L, σ') (QL L)) : Go d k_L_law 911 [vr 4, vr 7, vr 182, vi i] [] (SH L, σ) (QL L) := by
  have hi1 := lx hi hL (k := 1) (by decide)
  exact Go.sym (cut := [1349]) 16 ⟨⟨rfl, (hi1.1), (hi1.2)⟩, ⟨⟨nb rfl, nb rfl, rfl⟩, ⟨d0 hd, nb rfl⟩, cI.bind (u_fewest h.A h.W (by omega)) (fun r1 σ1 o1 => ⟨⟨rfl, (hi1.1), (hi1.2)⟩, ⟨⟨nb rfl, nb rfl, rfl⟩, ⟨d0 hd, nb rfl⟩, cI.bind (w_fewest (congrFun (o1.2.row (a := 4) (by omega)) _) h o1 (by omega)) (fun r2 σ2 o2 => ⟨fun cqz1 => (K _ o2.2), fun cqz1 => (absurd o2.1 cqz1)⟩)⟩⟩)⟩⟩
set_option maxRecDepth 100000 in
theorem law_fewestSet {d L : Nat} {σ : Sg} {i : Int} (h : IV σ) (hi : 0 ≤ i ∧ i + 6 ≤ (L : Int)) (hL : L ≤ 3072) (hd : 40 ≤ d) (K : ∀ σ' : Sg, IV σ' → Go d k_L_law 1349 [vr 4, vr 7, vr 182, vi i] [] (SH L, σ') (QL L)) : Go d k_L_law 928 [vr 4, vr 7, vr 182, vi i] [] (SH L, σ) (QL L) := by
  have hi1 := lx hi hL (k := 1) (by decide)
  exact Go.sym (cut := [1349]) 16 ⟨⟨rfl, (hi1.1), (hi1.2)⟩, ⟨⟨nb rfl, nb rfl, rfl⟩, ⟨d0 hd, nb rfl⟩, cI.bind (u_fewestSet h.A h.W (by omega)) (fun r1 σ1 o1 => ⟨⟨rfl, (hi1.1), (hi1.2)⟩, ⟨⟨nb rfl, nb rfl, rfl⟩, ⟨d0 hd, nb rfl⟩, cI.bind (w_fewestSet (congrFun (o1.2.row (a := 4) (by omega)) _) h o1 (by omega)) (fun r2 σ2 o2 => ⟨fun cqz1 => (K _ o2.2), fun cqz1 => (absurd o2.1 cqz1)⟩)⟩⟩)⟩⟩
set_option maxRecDepth 100000 in
theorem law_cheapest {d L : Nat} {σ : Sg} {i : Int} (h : IV σ) (hi : 0 ≤ i ∧ i + 6 ≤ (L : Int)) (hL : L ≤ 3072) (hd : 40 ≤ d) (K : ∀ σ' : Sg, IV σ' → Go d k_L_law 1349 [vr 4, vr 7, vr 182, vi i] [] (SH L, σ') (QL L)) : Go d k_L_law 945 [vr 4, vr 7, vr 182, vi i] [] (SH L, σ) (QL L) := by
  have hi1 := lx hi hL (k := 1) (by decide)
  exact Go.sym (cut := [1349]) 16 ⟨⟨rfl, (hi1.1), (hi1.2)⟩, ⟨⟨nb rfl, nb rfl, rfl⟩, ⟨d0 hd, nb rfl⟩, cI.bind (u_cheapest h.A h.W (by omega)) (fun r1 σ1 o1 => ⟨⟨rfl, (hi1.1), (hi1.2)⟩, ⟨⟨nb rfl, nb rfl, rfl⟩, ⟨d0 hd, nb rfl⟩, cI.bind (w_cheapest (congrFun (o1.2.row (a := 4) (by omega)) _) h o1 (by omega)) (fun r2 σ2 o2 => ⟨fun cqz1 => (K _ o2.2), fun cqz1 => (absurd o2.1 cqz1)⟩)⟩⟩)⟩⟩
set_option maxRecDepth 100000 in
theorem law_cheapestSet {d L : Nat} {σ : Sg} {i : Int} (h : IV σ) (hi : 0 ≤ i ∧ i + 6 ≤ (L : Int)) (hL : L ≤ 3072) (hd : 40 ≤ d) (K : ∀ σ' : Sg, IV σ' → Go d k_L_law 1349 [vr 4, vr 7, vr 182, vi i] [] (SH L, σ') (QL L)) : Go d k_L_law 962 [vr 4, vr 7, vr 182, vi i] [] (SH L, σ) (QL L) := by
  have hi1 := lx hi hL (k := 1) (by decide)
  exact Go.sym (cut := [1349]) 16 ⟨⟨rfl, (hi1.1), (hi1.2)⟩, ⟨⟨nb rfl, nb rfl, rfl⟩, ⟨d0 hd, nb rfl⟩, cI.bind (u_cheapestSet h.A h.W (by omega)) (fun r1 σ1 o1 => ⟨⟨rfl, (hi1.1), (hi1.2)⟩, ⟨⟨nb rfl, nb rfl, rfl⟩, ⟨d0 hd, nb rfl⟩, cI.bind (w_cheapestSet (congrFun (o1.2.row (a := 4) (by omega)) _) h o1 (by omega)) (fun r2 σ2 o2 => ⟨fun cqz1 => (K _ o2.2), fun cqz1 => (absurd o2.1 cqz1)⟩)⟩⟩)⟩⟩
set_option maxRecDepth 100000 in
theorem law_powerBy {d L : Nat} {σ : Sg} {i : Int} (h : IV σ) (hi : 0 ≤ i ∧ i + 6 ≤ (L : Int)) (hL : L ≤ 3072) (hd : 40 ≤ d) (K : ∀ σ' : Sg, IV σ' → Go d k_L_law 1349 [vr 4, vr 7, vr 182, vi i] [] (SH L, σ') (QL L)) : Go d k_L_law 979 [vr 4, vr 7, vr 182, vi i] [] (SH L, σ) (QL L) := by
  have hi1 := lx hi hL (k := 1) (by decide)
  have hi2 := lx hi hL (k := 2) (by decide)
  exact Go.sym (cut := [1349]) 26 ⟨⟨rfl, (hi1.1), (hi1.2)⟩, ⟨⟨rfl, (hi2.1), (hi2.2)⟩, ⟨⟨nb rfl, nb rfl, rfl⟩, ⟨d0 hd, nb rfl⟩, cI.bind (u_powerBy h.A h.W (by omega)) (fun r1 σ1 o1 => ⟨⟨rfl, (hi1.1), (hi1.2)⟩, ⟨⟨rfl, (hi2.1), (hi2.2)⟩, ⟨⟨nb rfl, nb rfl, rfl⟩, ⟨d0 hd, nb rfl⟩, cI.bind (w_powerBy (congrFun (o1.2.row (a := 4) (by omega)) _) (congrFun (o1.2.row (a := 4) (by omega)) _) h o1 (by omega)) (fun r2 σ2 o2 => ⟨fun cqz1 => (K _ o2.2), fun cqz1 => (absurd o2.1 cqz1)⟩)⟩⟩⟩)⟩⟩⟩
set_option maxRecDepth 100000 in
theorem law_game {d L : Nat} {σ : Sg} {i : Int} (h : IV σ) (hi : 0 ≤ i ∧ i + 6 ≤ (L : Int)) (hL : L ≤ 3072) (hd : 40 ≤ d) (K : ∀ σ' : Sg, IV σ' → Go d k_L_law 1349 [vr 4, vr 7, vr 182, vi i] [] (SH L, σ') (QL L)) : Go d k_L_law 1006 [vr 4, vr 7, vr 182, vi i] [] (SH L, σ) (QL L) := by
  have hi1 := lx hi hL (k := 1) (by decide)
  have hi2 := lx hi hL (k := 2) (by decide)
  have hi3 := lx hi hL (k := 3) (by decide)
  exact Go.sym (cut := [1349]) 36 ⟨⟨rfl, (hi1.1), (hi1.2)⟩, ⟨⟨rfl, (hi2.1), (hi2.2)⟩, ⟨⟨rfl, (hi3.1), (hi3.2)⟩, ⟨⟨nb rfl, nb rfl, rfl⟩, ⟨d0 hd, nb rfl⟩, cI.bind (u_game h.A h.W (by omega)) (fun r1 σ1 o1 => ⟨⟨rfl, (hi1.1), (hi1.2)⟩, ⟨⟨rfl, (hi2.1), (hi2.2)⟩, ⟨⟨rfl, (hi3.1), (hi3.2)⟩, ⟨⟨nb rfl, nb rfl, rfl⟩, ⟨d0 hd, nb rfl⟩, cI.bind (w_game (congrFun (o1.2.row (a := 4) (by omega)) _) (congrFun (o1.2.row (a := 4) (by omega)) _) (congrFun (o1.2.row (a := 4) (by omega)) _) h o1 (by omega)) (fun r2 σ2 o2 => ⟨fun cqz1 => (K _ o2.2), fun cqz1 => (absurd o2.1 cqz1)⟩)⟩⟩⟩⟩)⟩⟩⟩⟩
set_option maxRecDepth 100000 in
theorem law_moveOf {d L : Nat} {σ : Sg} {i : Int} (h : IV σ) (hi : 0 ≤ i ∧ i + 6 ≤ (L : Int)) (hL : L ≤ 3072) (hd : 40 ≤ d) (K : ∀ σ' : Sg, IV σ' → Go d k_L_law 1349 [vr 4, vr 7, vr 182, vi i] [] (SH L, σ') (QL L)) : Go d k_L_law 1043 [vr 4, vr 7, vr 182, vi i] [] (SH L, σ) (QL L) := by
  have hi1 := lx hi hL (k := 1) (by decide)
  have hi2 := lx hi hL (k := 2) (by decide)
  have hi3 := lx hi hL (k := 3) (by decide)
  exact Go.sym (cut := [1349]) 36 ⟨⟨rfl, (hi1.1), (hi1.2)⟩, ⟨⟨rfl, (hi2.1), (hi2.2)⟩, ⟨⟨rfl, (hi3.1), (hi3.2)⟩, ⟨⟨nb rfl, nb rfl, rfl⟩, ⟨d0 hd, nb rfl⟩, cI.bind (u_moveOf h.A h.W (by omega)) (fun r1 σ1 o1 => ⟨⟨rfl, (hi1.1), (hi1.2)⟩, ⟨⟨rfl, (hi2.1), (hi2.2)⟩, ⟨⟨rfl, (hi3.1), (hi3.2)⟩, ⟨⟨nb rfl, nb rfl, rfl⟩, ⟨d0 hd, nb rfl⟩, cI.bind (w_moveOf (congrFun (o1.2.row (a := 4) (by omega)) _) (congrFun (o1.2.row (a := 4) (by omega)) _) (congrFun (o1.2.row (a := 4) (by omega)) _) h o1 (by omega)) (fun r2 σ2 o2 => ⟨fun cqz1 => (K _ o2.2), fun cqz1 => (absurd o2.1 cqz1)⟩)⟩⟩⟩⟩)⟩⟩⟩⟩
set_option maxRecDepth 100000 in
theorem law_winning {d L : Nat} {σ : Sg} {i : Int} (h : IV σ) (hi : 0 ≤ i ∧ i + 6 ≤ (L : Int)) (hL : L ≤ 3072) (hd : 40 ≤ d) (K : ∀ σ' : Sg, IV σ' → Go d k_L_law 1349 [vr 4, vr 7, vr 182, vi i] [] (SH L, σ') (QL L)) : Go d k_L_law 1080 [vr 4, vr 7, vr 182, vi i] [] (SH L, σ) (QL L) := by
  exact Go.sym (cut := [1349]) 6 ⟨⟨nb rfl, nb rfl, rfl⟩, ⟨d0 hd, nb rfl⟩, cI.bind (u_winning h.A h.W (by omega)) (fun r1 σ1 o1 => ⟨⟨nb rfl, nb rfl, rfl⟩, ⟨d0 hd, nb rfl⟩, cI.bind (w_winning  h o1 (by omega)) (fun r2 σ2 o2 => ⟨fun cqz1 => (K _ o2.2), fun cqz1 => (absurd o2.1 cqz1)⟩)⟩)⟩
set_option maxRecDepth 100000 in
theorem law_wins {d L : Nat} {σ : Sg} {i : Int} (h : IV σ) (hi : 0 ≤ i ∧ i + 6 ≤ (L : Int)) (hL : L ≤ 3072) (hd : 40 ≤ d) (K : ∀ σ' : Sg, IV σ' → Go d k_L_law 1349 [vr 4, vr 7, vr 182, vi i] [] (SH L, σ') (QL L)) : Go d k_L_law 1087 [vr 4, vr 7, vr 182, vi i] [] (SH L, σ) (QL L) := by
  have hi1 := lx hi hL (k := 1) (by decide)
  exact Go.sym (cut := [1349]) 16 ⟨⟨rfl, (hi1.1), (hi1.2)⟩, ⟨⟨nb rfl, nb rfl, rfl⟩, ⟨d0 hd, nb rfl⟩, cI.bind (u_wins h.A h.W (by omega)) (fun r1 σ1 o1 => ⟨⟨rfl, (hi1.1), (hi1.2)⟩, ⟨⟨nb rfl, nb rfl, rfl⟩, ⟨d0 hd, nb rfl⟩, cI.bind (w_wins (congrFun (o1.2.row (a := 4) (by omega)) _) h o1 (by omega)) (fun r2 σ2 o2 => ⟨fun cqz1 => (K _ o2.2), fun cqz1 => (absurd o2.1 cqz1)⟩)⟩⟩)⟩⟩
set_option maxRecDepth 100000 in
theorem law_swings {d L : Nat} {σ : Sg} {i : Int} (h : IV σ) (hi : 0 ≤ i ∧ i + 6 ≤ (L : Int)) (hL : L ≤ 3072) (hd : 40 ≤ d) (K : ∀ σ' : Sg, IV σ' → Go d k_L_law 1349 [vr 4, vr 7, vr 182, vi i] [] (SH L, σ') (QL L)) : Go d k_L_law 1104 [vr 4, vr 7, vr 182, vi i] [] (SH L, σ) (QL L) := by
  have hi1 := lx hi hL (k := 1) (by decide)
  exact Go.sym (cut := [1349]) 16 ⟨⟨rfl, (hi1.1), (hi1.2)⟩, ⟨⟨nb rfl, nb rfl, rfl⟩, ⟨d0 hd, nb rfl⟩, cI.bind (u_swings h.A h.W (by omega)) (fun r1 σ1 o1 => ⟨⟨rfl, (hi1.1), (hi1.2)⟩, ⟨⟨nb rfl, nb rfl, rfl⟩, ⟨d0 hd, nb rfl⟩, cI.bind (w_swings (congrFun (o1.2.row (a := 4) (by omega)) _) h o1 (by omega)) (fun r2 σ2 o2 => ⟨fun cqz1 => (K _ o2.2), fun cqz1 => (absurd o2.1 cqz1)⟩)⟩⟩)⟩⟩
set_option maxRecDepth 100000 in
theorem law_share {d L : Nat} {σ : Sg} {i : Int} (h : IV σ) (hi : 0 ≤ i ∧ i + 6 ≤ (L : Int)) (hL : L ≤ 3072) (hd : 40 ≤ d) (K : ∀ σ' : Sg, IV σ' → Go d k_L_law 1349 [vr 4, vr 7, vr 182, vi i] [] (SH L, σ') (QL L)) : Go d k_L_law 1121 [vr 4, vr 7, vr 182, vi i] [] (SH L, σ) (QL L) := by
  have hi1 := lx hi hL (k := 1) (by decide)
  exact Go.sym (cut := [1349]) 16 ⟨⟨rfl, (hi1.1), (hi1.2)⟩, ⟨⟨nb rfl, nb rfl, rfl⟩, ⟨d0 hd, nb rfl⟩, cI.bind (u_share h.A h.W (by omega)) (fun r1 σ1 o1 => ⟨⟨rfl, (hi1.1), (hi1.2)⟩, ⟨⟨nb rfl, nb rfl, rfl⟩, ⟨d0 hd, nb rfl⟩, cI.bind (w_share (congrFun (o1.2.row (a := 4) (by omega)) _) h o1 (by omega)) (fun r2 σ2 o2 => ⟨fun cqz1 => (K _ o2.2), fun cqz1 => (absurd o2.1 cqz1)⟩)⟩⟩)⟩⟩
set_option maxRecDepth 100000 in
theorem law_lean {d L : Nat} {σ : Sg} {i : Int} (h : IV σ) (hi : 0 ≤ i ∧ i + 6 ≤ (L : Int)) (hL : L ≤ 3072) (hd : 40 ≤ d) (K : ∀ σ' : Sg, IV σ' → Go d k_L_law 1349 [vr 4, vr 7, vr 182, vi i] [] (SH L, σ') (QL L)) : Go d k_L_law 1138 [vr 4, vr 7, vr 182, vi i] [] (SH L, σ) (QL L) := by
  exact Go.sym (cut := [1349]) 6 ⟨⟨nb rfl, nb rfl, rfl⟩, ⟨d0 hd, nb rfl⟩, cI.bind (u_lean h.A h.W (by omega)) (fun r1 σ1 o1 => ⟨⟨nb rfl, nb rfl, rfl⟩, ⟨d0 hd, nb rfl⟩, cI.bind (w_lean  h o1 (by omega)) (fun r2 σ2 o2 => ⟨fun cqz1 => (K _ o2.2), fun cqz1 => (absurd o2.1 cqz1)⟩)⟩)⟩
