/-! ===== the class: DIE, the first half (text laid by gencls34.py) ===== -/
theorem v_perish {d L : Nat} {σ : Sg} {b : Int → Int} {m : Int} (hA : Asm σ 20 b) (hm : 0 ≤ m ∧ m < b 1) (h1 : b 1 ≤ 10) : cV d m_X2_perish [vr (shR (SH L) 24 m)] (SH L) σ (fun σ' => Asm σ' 20 (mDie b m) ∧ (∀ a, a ≠ 38 + m → σ' a = σ a)) := by
  refine (u_perish (L := L) (d := d) (mer24 hm.1 (by omega)) (mej24 hm.1 (by omega))).mono (fun σ' e => ?_)
  rw [mem24 hm.1 (by omega)] at e
  have A1 := hA.mb (f := 6) (o := 64) (v := 0) hm h1 (by omega)
  have e1 : bu b (64 + m) 0 1 = b 1 := bu_n (by omega)
  have A2 := A1.mb (f := 5) (o := 54) (v := 0) (m := m) (by rw [e1]; exact hm) (by rw [e1]; exact h1) (by omega)
  have q : σ' = up (up σ (38 + m) 6 0) (38 + m) 5 0 := by
    rw [e, up_sr, up_sr, sr_e rfl, sr_sr]
  refine ⟨by rw [q]; exact A2, fun a ha => by rw [e]; exact sr_n ha⟩
