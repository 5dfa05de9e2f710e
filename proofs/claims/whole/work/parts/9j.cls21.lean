/-! ===== the class: FEWEST, CHEAPEST (text laid by gencls21.py) ===== -/
def bc1 (s : Int) : Int := q32 (s - z_and (z_ushr s 1) 1431655765)
def bc2 (s : Int) : Int := q32 (z_and s 858993459 + z_and (z_ushr s 2) 858993459)
def bc3 (s : Int) : Int := z_and (q32 (s + z_ushr s 4)) 252645135
def bc4 (s : Int) : Int := q32 (s + z_ushr s 8)
def bc5 (s : Int) : Int := q32 (s + z_ushr s 16)
def bcx (s : Int) : Int := z_and (bc5 (bc4 (bc3 (bc2 (bc1 s))))) 63
theorem bc_all : ∀ n : Nat, n < 1024 → bcx (n : Int) = mSiz (n : Int) 10 := by decide +kernel
theorem u_bitCount {d L : Nat} {σ : Sg} {s : Int} (hs : 0 ≤ s ∧ s < 1024) : cI d m_J6_bitCount_0f7a4 [vi s] (SH L) σ (fun r σ' => r = mSiz s 10 ∧ σ' = σ) :=
  cI.go rfl rfl (Go.sym (cut := []) 43 ⟨_, rfl, rfl, ⟨(by have e := bc_all s.toNat (by omega); rw [show ((s.toNat : Nat) : Int) = s by omega] at e; exact e), rfl⟩⟩)
