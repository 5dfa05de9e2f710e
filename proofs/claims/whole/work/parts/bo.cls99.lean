/-! ===== the law, call by call: carriedBy farFor tally sure ask seek seekAt live lived mean mark back (text laid by gencls94.py) ===== -/
set_option maxRecDepth 100000 in
theorem law_carriedBy {d L : Nat} {σ : Sg} {i : Int} (h : IV σ) (hi : 0 ≤ i ∧ i + 6 ≤ (L : Int)) (hL : L ≤ 3072) (hd : 40 ≤ d) (K : ∀ σ' : Sg, IV σ' → Go d k_L_law 1349 [vr 4, vr 7, vr 182, vi i] [] (SH L, σ') (QL L)) : Go d k_L_law 1145 [vr 4, vr 7, vr 182, vi i] [] (SH L, σ) (QL L) := by
  have hi1 := lx hi hL (k := 1) (by decide)
  have hi2 := lx hi hL (k := 2) (by decide)
  have hi3 := lx hi hL (k := 3) (by decide)
  exact Go.sym (cut := [1349]) 36 ⟨⟨rfl, (hi1.1), (hi1.2)⟩, ⟨⟨rfl, (hi2.1), (hi2.2)⟩, ⟨⟨rfl, (hi3.1), (hi3.2)⟩, ⟨⟨nb rfl, nb rfl, rfl⟩, ⟨d0 hd, nb rfl⟩, cI.bind (u_carriedBy h.lw h.A h.W (by omega)) (fun r1 σ1 o1 => ⟨⟨rfl, (hi1.1), (hi1.2)⟩, ⟨⟨rfl, (hi2.1), (hi2.2)⟩, ⟨⟨rfl, (hi3.1), (hi3.2)⟩, ⟨⟨nb rfl, nb rfl, rfl⟩, ⟨d0 hd, nb rfl⟩, cI.bind (w_carriedBy (congrFun (o1.2.row (a := 4) (by omega)) _) (congrFun (o1.2.row (a := 4) (by omega)) _) (congrFun (o1.2.row (a := 4) (by omega)) _) h o1 (by omega)) (fun r2 σ2 o2 => ⟨fun cqz1 => (K _ o2.2), fun cqz1 => (absurd o2.1 cqz1)⟩)⟩⟩⟩⟩)⟩⟩⟩⟩
set_option maxRecDepth 100000 in
theorem law_farFor {d L : Nat} {σ : Sg} {i : Int} (h : IV σ) (hi : 0 ≤ i ∧ i + 6 ≤ (L : Int)) (hL : L ≤ 3072) (hd : 40 ≤ d) (K : ∀ σ' : Sg, IV σ' → Go d k_L_law 1349 [vr 4, vr 7, vr 182, vi i] [] (SH L, σ') (QL L)) : Go d k_L_law 1182 [vr 4, vr 7, vr 182, vi i] [] (SH L, σ) (QL L) := by
  have hi1 := lx hi hL (k := 1) (by decide)
  exact Go.sym (cut := [1349]) 16 ⟨⟨rfl, (hi1.1), (hi1.2)⟩, ⟨⟨nb rfl, nb rfl, rfl⟩, ⟨d0 hd, nb rfl⟩, cI.bind (u_farFor h.lw h.A h.W (by omega)) (fun r1 σ1 o1 => ⟨⟨rfl, (hi1.1), (hi1.2)⟩, ⟨⟨nb rfl, nb rfl, rfl⟩, ⟨d0 hd, nb rfl⟩, cI.bind (w_farFor (congrFun (o1.2.row (a := 4) (by omega)) _) h o1 (by omega)) (fun r2 σ2 o2 => ⟨fun cqz1 => (K _ o2.2), fun cqz1 => (absurd o2.1 cqz1)⟩)⟩⟩)⟩⟩
set_option maxRecDepth 100000 in
theorem law_tally {d L : Nat} {σ : Sg} {i : Int} (h : IV σ) (hi : 0 ≤ i ∧ i + 6 ≤ (L : Int)) (hL : L ≤ 3072) (hd : 40 ≤ d) (K : ∀ σ' : Sg, IV σ' → Go d k_L_law 1349 [vr 4, vr 7, vr 182, vi i] [] (SH L, σ') (QL L)) : Go d k_L_law 1199 [vr 4, vr 7, vr 182, vi i] [] (SH L, σ) (QL L) := by
  have hi1 := lx hi hL (k := 1) (by decide)
  exact Go.sym (cut := [1349]) 16 ⟨⟨rfl, (hi1.1), (hi1.2)⟩, ⟨⟨nb rfl, nb rfl, rfl⟩, ⟨d0 hd, nb rfl⟩, cI.bind (u_tally (s := σ 183) (y := σ 184) (n := σ 185) h.A h.W h.T (by omega)) (fun r1 σ1 o1 => ⟨⟨rfl, (hi1.1), (hi1.2)⟩, ⟨⟨nb rfl, nb rfl, rfl⟩, ⟨d0 hd, nb rfl⟩, cI.bind (w_tally (congrFun (o1.2.row (a := 4) (by omega)) _) h o1 (by omega)) (fun r2 σ2 o2 => ⟨fun cqz1 => (K _ o2.2), fun cqz1 => (absurd o2.1 cqz1)⟩)⟩⟩)⟩⟩
set_option maxRecDepth 100000 in
theorem law_sure {d L : Nat} {σ : Sg} {i : Int} (h : IV σ) (hi : 0 ≤ i ∧ i + 6 ≤ (L : Int)) (hL : L ≤ 3072) (hd : 40 ≤ d) (K : ∀ σ' : Sg, IV σ' → Go d k_L_law 1349 [vr 4, vr 7, vr 182, vi i] [] (SH L, σ') (QL L)) : Go d k_L_law 1216 [vr 4, vr 7, vr 182, vi i] [] (SH L, σ) (QL L) := by
  have hi1 := lx hi hL (k := 1) (by decide)
  exact Go.sym (cut := [1349]) 16 ⟨⟨rfl, (hi1.1), (hi1.2)⟩, ⟨⟨nb rfl, nb rfl, rfl⟩, ⟨d0 hd, nb rfl⟩, cI.bind (u_sure (s := σ 183) (y := σ 184) (n := σ 185) h.A h.W h.T (by omega)) (fun r1 σ1 o1 => ⟨⟨rfl, (hi1.1), (hi1.2)⟩, ⟨⟨nb rfl, nb rfl, rfl⟩, ⟨d0 hd, nb rfl⟩, cI.bind (w_sure (congrFun (o1.2.row (a := 4) (by omega)) _) h o1 (by omega)) (fun r2 σ2 o2 => ⟨fun cqz1 => (K _ o2.2), fun cqz1 => (absurd o2.1 cqz1)⟩)⟩⟩)⟩⟩
set_option maxRecDepth 100000 in
theorem law_ask {d L : Nat} {σ : Sg} {i : Int} (h : IV σ) (hi : 0 ≤ i ∧ i + 6 ≤ (L : Int)) (hL : L ≤ 3072) (hd : 40 ≤ d) (K : ∀ σ' : Sg, IV σ' → Go d k_L_law 1349 [vr 4, vr 7, vr 182, vi i] [] (SH L, σ') (QL L)) : Go d k_L_law 1233 [vr 4, vr 7, vr 182, vi i] [] (SH L, σ) (QL L) := by
  have hi1 := lx hi hL (k := 1) (by decide)
  exact Go.sym (cut := [1349]) 16 ⟨⟨rfl, (hi1.1), (hi1.2)⟩, ⟨⟨nb rfl, nb rfl, rfl⟩, ⟨d0 hd, nb rfl⟩, cI.bind (u_ask (s := σ 183) (y := σ 184) (n := σ 185) h.A h.W h.T (by omega)) (fun r1 σ1 o1 => ⟨⟨rfl, (hi1.1), (hi1.2)⟩, ⟨⟨nb rfl, nb rfl, rfl⟩, ⟨d0 hd, nb rfl⟩, cI.bind (w_ask (congrFun (o1.2.row (a := 4) (by omega)) _) h o1 (by omega)) (fun r2 σ2 o2 => ⟨fun cqz1 => (K _ o2.2), fun cqz1 => (absurd o2.1 cqz1)⟩)⟩⟩)⟩⟩
set_option maxRecDepth 100000 in
theorem law_seek {d L : Nat} {σ : Sg} {i : Int} (h : IV σ) (hi : 0 ≤ i ∧ i + 6 ≤ (L : Int)) (hL : L ≤ 3072) (hd : 40 ≤ d) (K : ∀ σ' : Sg, IV σ' → Go d k_L_law 1349 [vr 4, vr 7, vr 182, vi i] [] (SH L, σ') (QL L)) : Go d k_L_law 1250 [vr 4, vr 7, vr 182, vi i] [] (SH L, σ) (QL L) := by
  exact Go.sym (cut := [1349]) 6 ⟨⟨nb rfl, nb rfl, rfl⟩, ⟨d0 hd, nb rfl⟩, cI.bind (u_seek h.A h.W (by omega)) (fun r1 σ1 o1 => ⟨⟨nb rfl, nb rfl, rfl⟩, ⟨d0 hd, nb rfl⟩, cI.bind (w_seek  h o1 (by omega)) (fun r2 σ2 o2 => ⟨fun cqz1 => (K _ o2.2), fun cqz1 => (absurd o2.1 cqz1)⟩)⟩)⟩
set_option maxRecDepth 100000 in
theorem law_seekAt {d L : Nat} {σ : Sg} {i : Int} (h : IV σ) (hi : 0 ≤ i ∧ i + 6 ≤ (L : Int)) (hL : L ≤ 3072) (hd : 40 ≤ d) (K : ∀ σ' : Sg, IV σ' → Go d k_L_law 1349 [vr 4, vr 7, vr 182, vi i] [] (SH L, σ') (QL L)) : Go d k_L_law 1257 [vr 4, vr 7, vr 182, vi i] [] (SH L, σ) (QL L) := by
  have hi1 := lx hi hL (k := 1) (by decide)
  exact Go.sym (cut := [1349]) 16 ⟨⟨rfl, (hi1.1), (hi1.2)⟩, ⟨⟨nb rfl, nb rfl, rfl⟩, ⟨d0 hd, nb rfl⟩, cI.bind (u_seekAt h.A h.W (by omega)) (fun r1 σ1 o1 => ⟨⟨rfl, (hi1.1), (hi1.2)⟩, ⟨⟨nb rfl, nb rfl, rfl⟩, ⟨d0 hd, nb rfl⟩, cI.bind (w_seekAt (congrFun (o1.2.row (a := 4) (by omega)) _) h o1 (by omega)) (fun r2 σ2 o2 => ⟨fun cqz1 => (K _ o2.2), fun cqz1 => (absurd o2.1 cqz1)⟩)⟩⟩)⟩⟩
set_option maxRecDepth 100000 in
theorem law_live {d L : Nat} {σ : Sg} {i : Int} (h : IV σ) (hi : 0 ≤ i ∧ i + 6 ≤ (L : Int)) (hL : L ≤ 3072) (hd : 40 ≤ d) (K : ∀ σ' : Sg, IV σ' → Go d k_L_law 1349 [vr 4, vr 7, vr 182, vi i] [] (SH L, σ') (QL L)) : Go d k_L_law 1274 [vr 4, vr 7, vr 182, vi i] [] (SH L, σ) (QL L) := by
  have hi1 := lx hi hL (k := 1) (by decide)
  exact Go.sym (cut := [1349]) 16 ⟨⟨rfl, (hi1.1), (hi1.2)⟩, ⟨⟨nb rfl, nb rfl, rfl⟩, ⟨d0 hd, nb rfl⟩, cI.bind (u_live (g := (bu (bu (σ 182) 1 0) 0 0)) (y := σ 193) h.A h.W h.S h.h8 h.wf (by rw [bu_n (by decide), bu_n (by decide)]; exact h.H.1) h.H.2 (by omega)) (fun r1 σ1 o1 => ⟨⟨rfl, (hi1.1), (hi1.2)⟩, ⟨⟨nb rfl, nb rfl, rfl⟩, ⟨d0 hd, nb rfl⟩, cI.bind (w_live (congrFun (o1.2.2.2.row (a := 4) (by omega)) _) h o1 (by omega)) (fun r2 σ2 o2 => ⟨fun cqz1 => (K _ o2.2), fun cqz1 => (absurd o2.1 cqz1)⟩)⟩⟩)⟩⟩
set_option maxRecDepth 100000 in
theorem law_lived {d L : Nat} {σ : Sg} {i : Int} (h : IV σ) (hi : 0 ≤ i ∧ i + 6 ≤ (L : Int)) (hL : L ≤ 3072) (hd : 40 ≤ d) (K : ∀ σ' : Sg, IV σ' → Go d k_L_law 1349 [vr 4, vr 7, vr 182, vi i] [] (SH L, σ') (QL L)) : Go d k_L_law 1291 [vr 4, vr 7, vr 182, vi i] [] (SH L, σ) (QL L) := by
  have hi1 := lx hi hL (k := 1) (by decide)
  exact Go.sym (cut := [1349]) 16 ⟨⟨rfl, (hi1.1), (hi1.2)⟩, ⟨⟨nb rfl, nb rfl, rfl⟩, ⟨d0 hd, nb rfl⟩, cI.bind (u_lived (by omega)) (fun r1 σ1 o1 => ⟨⟨rfl, (hi1.1), (hi1.2)⟩, ⟨⟨nb rfl, nb rfl, rfl⟩, ⟨d0 hd, nb rfl⟩, cI.bind (w_lived (congrFun (o1.2.row (a := 4) (by omega)) _) h o1 (by omega)) (fun r2 σ2 o2 => ⟨fun cqz1 => (K _ o2.2), fun cqz1 => (absurd o2.1 cqz1)⟩)⟩⟩)⟩⟩
set_option maxRecDepth 100000 in
theorem law_mean {d L : Nat} {σ : Sg} {i : Int} (h : IV σ) (hi : 0 ≤ i ∧ i + 6 ≤ (L : Int)) (hL : L ≤ 3072) (hd : 40 ≤ d) (K : ∀ σ' : Sg, IV σ' → Go d k_L_law 1349 [vr 4, vr 7, vr 182, vi i] [] (SH L, σ') (QL L)) : Go d k_L_law 1308 [vr 4, vr 7, vr 182, vi i] [] (SH L, σ) (QL L) := by
  have hi1 := lx hi hL (k := 1) (by decide)
  have hi2 := lx hi hL (k := 2) (by decide)
  exact Go.sym (cut := [1349]) 26 ⟨⟨rfl, (hi1.1), (hi1.2)⟩, ⟨⟨rfl, (hi2.1), (hi2.2)⟩, ⟨⟨nb rfl, nb rfl, rfl⟩, ⟨d0 hd, nb rfl⟩, cI.bind (u_mean (g := (bu (bu (σ 182) 1 0) 0 0)) h.A h.W h.S h.h8 h.wf (by omega)) (fun r1 σ1 o1 => ⟨⟨rfl, (hi1.1), (hi1.2)⟩, ⟨⟨rfl, (hi2.1), (hi2.2)⟩, ⟨⟨nb rfl, nb rfl, rfl⟩, ⟨d0 hd, nb rfl⟩, cI.bind (w_mean (congrFun (o1.2.row (a := 4) (by omega)) _) (congrFun (o1.2.row (a := 4) (by omega)) _) h o1 (by omega)) (fun r2 σ2 o2 => ⟨fun cqz1 => (K _ o2.2), fun cqz1 => (absurd o2.1 cqz1)⟩)⟩⟩⟩)⟩⟩⟩
set_option maxRecDepth 100000 in
theorem law_mark {d L : Nat} {σ : Sg} {i : Int} (h : IV σ) (hi : 0 ≤ i ∧ i + 6 ≤ (L : Int)) (hL : L ≤ 3072) (hd : 40 ≤ d) (K : ∀ σ' : Sg, IV σ' → Go d k_L_law 1349 [vr 4, vr 7, vr 182, vi i] [] (SH L, σ') (QL L)) : Go d k_L_law 1335 [vr 4, vr 7, vr 182, vi i] [] (SH L, σ) (QL L) := by
  exact Go.sym (cut := [1349]) 6 ⟨⟨nb rfl, nb rfl, rfl⟩, ⟨d0 hd, nb rfl⟩, cI.bind (u_mark h.G.1.2 (Bnd.of h.A h.W h.S) (by omega)) (fun r1 σ1 o1 => ⟨⟨nb rfl, nb rfl, rfl⟩, ⟨d0 hd, nb rfl⟩, cI.bind (w_mark  h o1 (by omega)) (fun r2 σ2 o2 => ⟨fun cqz1 => (K _ o2.2), fun cqz1 => (absurd o2.1 cqz1)⟩)⟩)⟩
set_option maxRecDepth 100000 in
theorem law_back {d L : Nat} {σ : Sg} {i : Int} (h : IV σ) (hi : 0 ≤ i ∧ i + 6 ≤ (L : Int)) (hL : L ≤ 3072) (hd : 40 ≤ d) (K : ∀ σ' : Sg, IV σ' → Go d k_L_law 1349 [vr 4, vr 7, vr 182, vi i] [] (SH L, σ') (QL L)) : Go d k_L_law 1342 [vr 4, vr 7, vr 182, vi i] [] (SH L, σ) (QL L) := by
  exact Go.sym (cut := [1349]) 6 ⟨⟨nb rfl, nb rfl, rfl⟩, ⟨d0 hd, nb rfl⟩, cI.bind (u_back h.G.1.2 (fun q => by have z := h.G.2 (σ 7 8 - 1) (by omega) (by omega); exact Bnd.of z.1 z.2.2.2.1 z.2.2.1) (by omega)) (fun r1 σ1 o1 => ⟨⟨nb rfl, nb rfl, rfl⟩, ⟨d0 hd, nb rfl⟩, cI.bind (w_back  h o1 (by omega)) (fun r2 σ2 o2 => ⟨fun cqz1 => (K _ o2.2), fun cqz1 => (absurd o2.1 cqz1)⟩)⟩)⟩
