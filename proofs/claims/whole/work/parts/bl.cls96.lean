/-! ===== the law, call by call: many member motion room counts power powerOf governs bells margin copyCounts minute walk die (text laid by gencls94.py) ===== -/
set_option maxRecDepth 100000 in
theorem law_many {d L : Nat} {σ : Sg} {i : Int} (h : IV σ) (hi : 0 ≤ i ∧ i + 6 ≤ (L : Int)) (hL : L ≤ 3072) (hd : 40 ≤ d) (K : ∀ σ' : Sg, IV σ' → Go d k_L_law 1349 [vr 4, vr 7, vr 182, vi i] [] (SH L, σ') (QL L)) : Go d k_L_law 336 [vr 4, vr 7, vr 182, vi i] [] (SH L, σ) (QL L) := by
  have hi1 := lx hi hL (k := 1) (by decide)
  exact Go.sym (cut := [1349]) 16 ⟨⟨rfl, (hi1.1), (hi1.2)⟩, ⟨⟨nb rfl, nb rfl, rfl⟩, ⟨d0 hd, nb rfl⟩, cI.bind (u_many h.A h.W (by omega)) (fun r1 σ1 o1 => ⟨⟨rfl, (hi1.1), (hi1.2)⟩, ⟨⟨nb rfl, nb rfl, rfl⟩, ⟨d0 hd, nb rfl⟩, cI.bind (w_many (congrFun (o1.2.row (a := 4) (by omega)) _) h o1 (by omega)) (fun r2 σ2 o2 => ⟨fun cqz1 => (K _ o2.2), fun cqz1 => (absurd o2.1 cqz1)⟩)⟩⟩)⟩⟩
set_option maxRecDepth 100000 in
theorem law_member {d L : Nat} {σ : Sg} {i : Int} (h : IV σ) (hi : 0 ≤ i ∧ i + 6 ≤ (L : Int)) (hL : L ≤ 3072) (hd : 40 ≤ d) (K : ∀ σ' : Sg, IV σ' → Go d k_L_law 1349 [vr 4, vr 7, vr 182, vi i] [] (SH L, σ') (QL L)) : Go d k_L_law 353 [vr 4, vr 7, vr 182, vi i] [] (SH L, σ) (QL L) := by
  have hi1 := lx hi hL (k := 1) (by decide)
  have hi2 := lx hi hL (k := 2) (by decide)
  exact Go.sym (cut := [1349]) 26 ⟨⟨rfl, (hi1.1), (hi1.2)⟩, ⟨⟨rfl, (hi2.1), (hi2.2)⟩, ⟨⟨nb rfl, nb rfl, rfl⟩, ⟨d0 hd, nb rfl⟩, cI.bind (u_member h.A h.W (by omega)) (fun r1 σ1 o1 => ⟨⟨rfl, (hi1.1), (hi1.2)⟩, ⟨⟨rfl, (hi2.1), (hi2.2)⟩, ⟨⟨nb rfl, nb rfl, rfl⟩, ⟨d0 hd, nb rfl⟩, cI.bind (w_member (congrFun (o1.2.row (a := 4) (by omega)) _) (congrFun (o1.2.row (a := 4) (by omega)) _) h o1 (by omega)) (fun r2 σ2 o2 => ⟨fun cqz1 => (K _ o2.2), fun cqz1 => (absurd o2.1 cqz1)⟩)⟩⟩⟩)⟩⟩⟩
set_option maxRecDepth 100000 in
theorem law_motion {d L : Nat} {σ : Sg} {i : Int} (h : IV σ) (hi : 0 ≤ i ∧ i + 6 ≤ (L : Int)) (hL : L ≤ 3072) (hd : 40 ≤ d) (K : ∀ σ' : Sg, IV σ' → Go d k_L_law 1349 [vr 4, vr 7, vr 182, vi i] [] (SH L, σ') (QL L)) : Go d k_L_law 380 [vr 4, vr 7, vr 182, vi i] [] (SH L, σ) (QL L) := by
  have hi1 := lx hi hL (k := 1) (by decide)
  have hi2 := lx hi hL (k := 2) (by decide)
  exact Go.sym (cut := [1349]) 26 ⟨⟨rfl, (hi1.1), (hi1.2)⟩, ⟨⟨rfl, (hi2.1), (hi2.2)⟩, ⟨⟨nb rfl, nb rfl, rfl⟩, ⟨d0 hd, nb rfl⟩, cI.bind (u_motion h.A h.W (by omega)) (fun r1 σ1 o1 => ⟨⟨rfl, (hi1.1), (hi1.2)⟩, ⟨⟨rfl, (hi2.1), (hi2.2)⟩, ⟨⟨nb rfl, nb rfl, rfl⟩, ⟨d0 hd, nb rfl⟩, cI.bind (w_motion (congrFun (o1.2.row (a := 4) (by omega)) _) (congrFun (o1.2.row (a := 4) (by omega)) _) h o1 (by omega)) (fun r2 σ2 o2 => ⟨fun cqz1 => (K _ o2.2), fun cqz1 => (absurd o2.1 cqz1)⟩)⟩⟩⟩)⟩⟩⟩
set_option maxRecDepth 100000 in
theorem law_room {d L : Nat} {σ : Sg} {i : Int} (h : IV σ) (hi : 0 ≤ i ∧ i + 6 ≤ (L : Int)) (hL : L ≤ 3072) (hd : 40 ≤ d) (K : ∀ σ' : Sg, IV σ' → Go d k_L_law 1349 [vr 4, vr 7, vr 182, vi i] [] (SH L, σ') (QL L)) : Go d k_L_law 407 [vr 4, vr 7, vr 182, vi i] [] (SH L, σ) (QL L) := by
  have hi1 := lx hi hL (k := 1) (by decide)
  have hi2 := lx hi hL (k := 2) (by decide)
  exact Go.sym (cut := [1349]) 26 ⟨⟨rfl, (hi1.1), (hi1.2)⟩, ⟨⟨rfl, (hi2.1), (hi2.2)⟩, ⟨⟨nb rfl, nb rfl, rfl⟩, ⟨d0 hd, nb rfl⟩, cI.bind (u_room h.A h.W (by omega)) (fun r1 σ1 o1 => ⟨⟨rfl, (hi1.1), (hi1.2)⟩, ⟨⟨rfl, (hi2.1), (hi2.2)⟩, ⟨⟨nb rfl, nb rfl, rfl⟩, ⟨d0 hd, nb rfl⟩, cI.bind (w_room (congrFun (o1.2.row (a := 4) (by omega)) _) (congrFun (o1.2.row (a := 4) (by omega)) _) h o1 (by omega)) (fun r2 σ2 o2 => ⟨fun cqz1 => (K _ o2.2), fun cqz1 => (absurd o2.1 cqz1)⟩)⟩⟩⟩)⟩⟩⟩
set_option maxRecDepth 100000 in
theorem law_counts {d L : Nat} {σ : Sg} {i : Int} (h : IV σ) (hi : 0 ≤ i ∧ i + 6 ≤ (L : Int)) (hL : L ≤ 3072) (hd : 40 ≤ d) (K : ∀ σ' : Sg, IV σ' → Go d k_L_law 1349 [vr 4, vr 7, vr 182, vi i] [] (SH L, σ') (QL L)) : Go d k_L_law 434 [vr 4, vr 7, vr 182, vi i] [] (SH L, σ) (QL L) := by
  have hi1 := lx hi hL (k := 1) (by decide)
  exact Go.sym (cut := [1349]) 16 ⟨⟨rfl, (hi1.1), (hi1.2)⟩, ⟨⟨nb rfl, nb rfl, rfl⟩, ⟨d0 hd, nb rfl⟩, cI.bind (u_counts h.A h.W (by omega)) (fun r1 σ1 o1 => ⟨⟨rfl, (hi1.1), (hi1.2)⟩, ⟨⟨nb rfl, nb rfl, rfl⟩, ⟨d0 hd, nb rfl⟩, cI.bind (w_counts (congrFun (o1.2.row (a := 4) (by omega)) _) h o1 (by omega)) (fun r2 σ2 o2 => ⟨fun cqz1 => (K _ o2.2), fun cqz1 => (absurd o2.1 cqz1)⟩)⟩⟩)⟩⟩
set_option maxRecDepth 100000 in
theorem law_power {d L : Nat} {σ : Sg} {i : Int} (h : IV σ) (hi : 0 ≤ i ∧ i + 6 ≤ (L : Int)) (hL : L ≤ 3072) (hd : 40 ≤ d) (K : ∀ σ' : Sg, IV σ' → Go d k_L_law 1349 [vr 4, vr 7, vr 182, vi i] [] (SH L, σ') (QL L)) : Go d k_L_law 451 [vr 4, vr 7, vr 182, vi i] [] (SH L, σ) (QL L) := by
  have hi1 := lx hi hL (k := 1) (by decide)
  exact Go.sym (cut := [1349]) 16 ⟨⟨rfl, (hi1.1), (hi1.2)⟩, ⟨⟨nb rfl, nb rfl, rfl⟩, ⟨d0 hd, nb rfl⟩, cI.bind (u_power h.A h.W (by omega)) (fun r1 σ1 o1 => ⟨⟨rfl, (hi1.1), (hi1.2)⟩, ⟨⟨nb rfl, nb rfl, rfl⟩, ⟨d0 hd, nb rfl⟩, cI.bind (w_power (congrFun (o1.2.row (a := 4) (by omega)) _) h o1 (by omega)) (fun r2 σ2 o2 => ⟨fun cqz1 => (K _ o2.2), fun cqz1 => (absurd o2.1 cqz1)⟩)⟩⟩)⟩⟩
set_option maxRecDepth 100000 in
theorem law_powerOf {d L : Nat} {σ : Sg} {i : Int} (h : IV σ) (hi : 0 ≤ i ∧ i + 6 ≤ (L : Int)) (hL : L ≤ 3072) (hd : 40 ≤ d) (K : ∀ σ' : Sg, IV σ' → Go d k_L_law 1349 [vr 4, vr 7, vr 182, vi i] [] (SH L, σ') (QL L)) : Go d k_L_law 468 [vr 4, vr 7, vr 182, vi i] [] (SH L, σ) (QL L) := by
  have hi1 := lx hi hL (k := 1) (by decide)
  exact Go.sym (cut := [1349]) 16 ⟨⟨rfl, (hi1.1), (hi1.2)⟩, ⟨⟨nb rfl, nb rfl, rfl⟩, ⟨d0 hd, nb rfl⟩, cI.bind (u_powerOf h.A h.W (by omega)) (fun r1 σ1 o1 => ⟨⟨rfl, (hi1.1), (hi1.2)⟩, ⟨⟨nb rfl, nb rfl, rfl⟩, ⟨d0 hd, nb rfl⟩, cI.bind (w_powerOf (congrFun (o1.2.row (a := 4) (by omega)) _) h o1 (by omega)) (fun r2 σ2 o2 => ⟨fun cqz1 => (K _ o2.2), fun cqz1 => (absurd o2.1 cqz1)⟩)⟩⟩)⟩⟩
set_option maxRecDepth 100000 in
theorem law_governs {d L : Nat} {σ : Sg} {i : Int} (h : IV σ) (hi : 0 ≤ i ∧ i + 6 ≤ (L : Int)) (hL : L ≤ 3072) (hd : 40 ≤ d) (K : ∀ σ' : Sg, IV σ' → Go d k_L_law 1349 [vr 4, vr 7, vr 182, vi i] [] (SH L, σ') (QL L)) : Go d k_L_law 485 [vr 4, vr 7, vr 182, vi i] [] (SH L, σ) (QL L) := by
  exact Go.sym (cut := [1349]) 6 ⟨⟨nb rfl, nb rfl, rfl⟩, ⟨d0 hd, nb rfl⟩, cI.bind (u_governs h.A h.W (by omega)) (fun r1 σ1 o1 => ⟨⟨nb rfl, nb rfl, rfl⟩, ⟨d0 hd, nb rfl⟩, cI.bind (w_governs  h o1 (by omega)) (fun r2 σ2 o2 => ⟨fun cqz1 => (K _ o2.2), fun cqz1 => (absurd o2.1 cqz1)⟩)⟩)⟩
set_option maxRecDepth 100000 in
theorem law_bells {d L : Nat} {σ : Sg} {i : Int} (h : IV σ) (hi : 0 ≤ i ∧ i + 6 ≤ (L : Int)) (hL : L ≤ 3072) (hd : 40 ≤ d) (K : ∀ σ' : Sg, IV σ' → Go d k_L_law 1349 [vr 4, vr 7, vr 182, vi i] [] (SH L, σ') (QL L)) : Go d k_L_law 492 [vr 4, vr 7, vr 182, vi i] [] (SH L, σ) (QL L) := by
  have hi1 := lx hi hL (k := 1) (by decide)
  exact Go.sym (cut := [1349]) 16 ⟨⟨rfl, (hi1.1), (hi1.2)⟩, ⟨⟨nb rfl, nb rfl, rfl⟩, ⟨d0 hd, nb rfl⟩, cI.bind (u_bells h.A h.W (by omega)) (fun r1 σ1 o1 => ⟨⟨rfl, (hi1.1), (hi1.2)⟩, ⟨⟨nb rfl, nb rfl, rfl⟩, ⟨d0 hd, nb rfl⟩, cI.bind (w_bells (congrFun (o1.2.row (a := 4) (by omega)) _) h o1 (by omega)) (fun r2 σ2 o2 => ⟨fun cqz1 => (K _ o2.2), fun cqz1 => (absurd o2.1 cqz1)⟩)⟩⟩)⟩⟩
set_option maxRecDepth 100000 in
theorem law_margin {d L : Nat} {σ : Sg} {i : Int} (h : IV σ) (hi : 0 ≤ i ∧ i + 6 ≤ (L : Int)) (hL : L ≤ 3072) (hd : 40 ≤ d) (K : ∀ σ' : Sg, IV σ' → Go d k_L_law 1349 [vr 4, vr 7, vr 182, vi i] [] (SH L, σ') (QL L)) : Go d k_L_law 509 [vr 4, vr 7, vr 182, vi i] [] (SH L, σ) (QL L) := by
  have hi1 := lx hi hL (k := 1) (by decide)
  exact Go.sym (cut := [1349]) 16 ⟨⟨rfl, (hi1.1), (hi1.2)⟩, ⟨⟨nb rfl, nb rfl, rfl⟩, ⟨d0 hd, nb rfl⟩, cI.bind (u_margin h.A h.W (by omega)) (fun r1 σ1 o1 => ⟨⟨rfl, (hi1.1), (hi1.2)⟩, ⟨⟨nb rfl, nb rfl, rfl⟩, ⟨d0 hd, nb rfl⟩, cI.bind (w_margin (congrFun (o1.2.row (a := 4) (by omega)) _) h o1 (by omega)) (fun r2 σ2 o2 => ⟨fun cqz1 => (K _ o2.2), fun cqz1 => (absurd o2.1 cqz1)⟩)⟩⟩)⟩⟩
set_option maxRecDepth 100000 in
theorem law_copyCounts {d L : Nat} {σ : Sg} {i : Int} (h : IV σ) (hi : 0 ≤ i ∧ i + 6 ≤ (L : Int)) (hL : L ≤ 3072) (hd : 40 ≤ d) (K : ∀ σ' : Sg, IV σ' → Go d k_L_law 1349 [vr 4, vr 7, vr 182, vi i] [] (SH L, σ') (QL L)) : Go d k_L_law 526 [vr 4, vr 7, vr 182, vi i] [] (SH L, σ) (QL L) := by
  have hi1 := lx hi hL (k := 1) (by decide)
  exact Go.sym (cut := [1349]) 16 ⟨⟨rfl, (hi1.1), (hi1.2)⟩, ⟨⟨nb rfl, nb rfl, rfl⟩, ⟨d0 hd, nb rfl⟩, cI.bind (u_copyCounts (s := σ 183) (y := σ 184) (n := σ 185) h.A h.W h.T (by omega)) (fun r1 σ1 o1 => ⟨⟨rfl, (hi1.1), (hi1.2)⟩, ⟨⟨nb rfl, nb rfl, rfl⟩, ⟨d0 hd, nb rfl⟩, cI.bind (w_copyCounts (congrFun (o1.2.2.row (a := 4) (by omega)) _) h o1 (by omega)) (fun r2 σ2 o2 => ⟨fun cqz1 => (K _ o2.2), fun cqz1 => (absurd o2.1 cqz1)⟩)⟩⟩)⟩⟩
set_option maxRecDepth 100000 in
theorem law_minute {d L : Nat} {σ : Sg} {i : Int} (h : IV σ) (hi : 0 ≤ i ∧ i + 6 ≤ (L : Int)) (hL : L ≤ 3072) (hd : 40 ≤ d) (K : ∀ σ' : Sg, IV σ' → Go d k_L_law 1349 [vr 4, vr 7, vr 182, vi i] [] (SH L, σ') (QL L)) : Go d k_L_law 543 [vr 4, vr 7, vr 182, vi i] [] (SH L, σ) (QL L) := by
  have hi1 := lx hi hL (k := 1) (by decide)
  exact Go.sym (cut := [1349]) 16 ⟨⟨rfl, (hi1.1), (hi1.2)⟩, ⟨⟨nb rfl, nb rfl, rfl⟩, ⟨d0 hd, nb rfl⟩, cI.bind (u_minute h.h8 h.A h.W (by omega)) (fun r1 σ1 o1 => ⟨⟨rfl, (hi1.1), (hi1.2)⟩, ⟨⟨nb rfl, nb rfl, rfl⟩, ⟨d0 hd, nb rfl⟩, cI.bind (w_minute (congrFun (o1.2.2.row (a := 4) (by omega)) _) h o1 (by omega)) (fun r2 σ2 o2 => ⟨fun cqz1 => (K _ o2.2), fun cqz1 => (absurd o2.1 cqz1)⟩)⟩⟩)⟩⟩
set_option maxRecDepth 100000 in
theorem law_walk {d L : Nat} {σ : Sg} {i : Int} (h : IV σ) (hi : 0 ≤ i ∧ i + 6 ≤ (L : Int)) (hL : L ≤ 3072) (hd : 40 ≤ d) (K : ∀ σ' : Sg, IV σ' → Go d k_L_law 1349 [vr 4, vr 7, vr 182, vi i] [] (SH L, σ') (QL L)) : Go d k_L_law 560 [vr 4, vr 7, vr 182, vi i] [] (SH L, σ) (QL L) := by
  have hi1 := lx hi hL (k := 1) (by decide)
  have hi2 := lx hi hL (k := 2) (by decide)
  exact Go.sym (cut := [1349]) 26 ⟨⟨rfl, (hi1.1), (hi1.2)⟩, ⟨⟨rfl, (hi2.1), (hi2.2)⟩, ⟨⟨nb rfl, nb rfl, rfl⟩, ⟨d0 hd, nb rfl⟩, cI.bind (u_walk h.A h.W (by omega)) (fun r1 σ1 o1 => ⟨⟨rfl, (hi1.1), (hi1.2)⟩, ⟨⟨rfl, (hi2.1), (hi2.2)⟩, ⟨⟨nb rfl, nb rfl, rfl⟩, ⟨d0 hd, nb rfl⟩, cI.bind (w_walk (congrFun (o1.2.2.row (a := 4) (by omega)) _) (congrFun (o1.2.2.row (a := 4) (by omega)) _) h o1 (by omega)) (fun r2 σ2 o2 => ⟨fun cqz1 => (K _ o2.2), fun cqz1 => (absurd o2.1 cqz1)⟩)⟩⟩⟩)⟩⟩⟩
set_option maxRecDepth 100000 in
theorem law_die {d L : Nat} {σ : Sg} {i : Int} (h : IV σ) (hi : 0 ≤ i ∧ i + 6 ≤ (L : Int)) (hL : L ≤ 3072) (hd : 40 ≤ d) (K : ∀ σ' : Sg, IV σ' → Go d k_L_law 1349 [vr 4, vr 7, vr 182, vi i] [] (SH L, σ') (QL L)) : Go d k_L_law 587 [vr 4, vr 7, vr 182, vi i] [] (SH L, σ) (QL L) := by
  have hi1 := lx hi hL (k := 1) (by decide)
  exact Go.sym (cut := [1349]) 16 ⟨⟨rfl, (hi1.1), (hi1.2)⟩, ⟨⟨nb rfl, nb rfl, rfl⟩, ⟨d0 hd, nb rfl⟩, cI.bind (u_die h.A h.W (by omega)) (fun r1 σ1 o1 => ⟨⟨rfl, (hi1.1), (hi1.2)⟩, ⟨⟨nb rfl, nb rfl, rfl⟩, ⟨d0 hd, nb rfl⟩, cI.bind (w_die (congrFun (o1.2.2.row (a := 4) (by omega)) _) h o1 (by omega)) (fun r2 σ2 o2 => ⟨fun cqz1 => (K _ o2.2), fun cqz1 => (absurd o2.1 cqz1)⟩)⟩⟩)⟩⟩
