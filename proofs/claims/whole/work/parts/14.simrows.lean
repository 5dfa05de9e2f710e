/-! ===== rows of the machine in the words of the small one's heap ===== -/
def KWT : String := "far buried ill bell party member of at speed price dead sick hidden twins motion for against room takes odds minute come go stay die fall any when governs carried yards loop end stop "
def KWB : List Int32 := [102, 97, 114, 32, 98, 117, 114, 105, 101, 100, 32, 105, 108, 108, 32, 98, 101, 108, 108, 32, 112, 97, 114, 116, 121, 32, 109, 101, 109, 98, 101, 114, 32, 111, 102, 32, 97, 116, 32, 115, 112, 101, 101, 100, 32, 112, 114, 105, 99, 101, 32, 100, 101, 97, 100, 32, 115, 105, 99, 107, 32, 104, 105, 100, 100, 101, 110, 32, 116, 119, 105, 110, 115, 32, 109, 111, 116, 105, 111, 110, 32, 102, 111, 114, 32, 97, 103, 97, 105, 110, 115, 116, 32, 114, 111, 111, 109, 32, 116, 97, 107, 101, 115, 32, 111, 100, 100, 115, 32, 109, 105, 110, 117, 116, 101, 32, 99, 111, 109, 101, 32, 103, 111, 32, 115, 116, 97, 121, 32, 100, 105, 101, 32, 102, 97, 108, 108, 32, 97, 110, 121, 32, 119, 104, 101, 110, 32, 103, 111, 118, 101, 114, 110, 115, 32, 99, 97, 114, 114, 105, 101, 100, 32, 121, 97, 114, 100, 115, 32, 108, 111, 111, 112, 32, 101, 110, 100, 32, 115, 116, 111, 112, 32]
def KWI : List Int := [102, 97, 114, 32, 98, 117, 114, 105, 101, 100, 32, 105, 108, 108, 32, 98, 101, 108, 108, 32, 112, 97, 114, 116, 121, 32, 109, 101, 109, 98, 101, 114, 32, 111, 102, 32, 97, 116, 32, 115, 112, 101, 101, 100, 32, 112, 114, 105, 99, 101, 32, 100, 101, 97, 100, 32, 115, 105, 99, 107, 32, 104, 105, 100, 100, 101, 110, 32, 116, 119, 105, 110, 115, 32, 109, 111, 116, 105, 111, 110, 32, 102, 111, 114, 32, 97, 103, 97, 105, 110, 115, 116, 32, 114, 111, 111, 109, 32, 116, 97, 107, 101, 115, 32, 111, 100, 100, 115, 32, 109, 105, 110, 117, 116, 101, 32, 99, 111, 109, 101, 32, 103, 111, 32, 115, 116, 97, 121, 32, 100, 105, 101, 32, 102, 97, 108, 108, 32, 97, 110, 121, 32, 119, 104, 101, 110, 32, 103, 111, 118, 101, 114, 110, 115, 32, 99, 97, 114, 114, 105, 101, 100, 32, 121, 97, 114, 100, 115, 32, 108, 111, 111, 112, 32, 101, 110, 100, 32, 115, 116, 111, 112, 32]
def LWL : List (List Int) := [[50, 9, 1, 10], [1, 0, 0, 1], [999, 99, 2, 60]]
def oldN (L a : Nat) : Nat := if a = 4 then L else 4
def oldV (xs : Nat → Int) (a j : Nat) : Int := if a = 4 then xs j else (LWL.getD (a - 1) []).getD j 0
section Rows
variable {p : Program} {l : Launch} {e : Env} {R : Room} {s : State} {m : MethodId} {args : Array Value} {below : List Frame} {meth : Method} {c : Code} {H : Heap} {locs : List Loc} {cells slots : Nat} {Q : State → Prop}
variable {D : va_G} {z0 : Nat} {oa : Nat → Nat} {ca : Nat → ClassId} {L : Nat} {xs : Nat → Int}
/-- what the texts of the program are -/
def StW (z0 : Nat) (oa : Nat → Nat) (U : State) : Prop := vk_R "EmptyChairs$Tape" 29 KWT (oa 5) U ∧ vk_S 1 [183] [KWB] (fun _ => oa 5) (fun _ => oa 6) (fun q => z0 ≤ q) U U.heap ∧ va_Z "java/lang/String" "COMPACT_STRINGS" "Z" (.int 1) (fun q => z0 ≤ q) U U.heap ∧ va_Zq "jdk/internal/util/Preconditions" "SIOOBE_FORMATTER" "Ljava/util/function/BiFunction;" (fun q => z0 ≤ q) U U.heap
/-- what holds of a state beside what its cells hold -/
def SW (D : va_G) (z0 : Nat) (oa : Nat → Nat) (ca : Nat → ClassId) (L : Nat) (xs : Nat → Int) (U : State) : Prop := (∀ a : Nat, 1 ≤ a → a ≤ 4 → va_T .int (oa a) (oldN L a) (fun j => .int (Int32.ofInt (oldV xs a j))) (fun q => z0 ≤ q) U U.heap) ∧ va_K D mcl (tysE ca) U ∧ (∀ k, 1 ≤ k → k ≤ 3 → va_Z "EmptyChairs" (stN k) "[I" (.ref (oa k)) (fun q => z0 ≤ q) U U.heap) ∧ (∀ w ∈ nstL, va_Nw w U) ∧ (∀ k, 3 ≤ k → k ≤ 5 → va_AO (aC k) U) ∧ StW z0 oa U
theorem nst_tab : ∀ w ∈ nstL, w.onTables = true := by decide +kernel
theorem nst_warm {s U : State} (hW : s.WarmedH U.vm) : ∀ w ∈ nstL, va_Nw w s → va_Nw w U := by
  unfold nstL
  refine List.forall_mem_cons.mpr ⟨va_Nw.warmM hW, List.forall_mem_cons.mpr ⟨va_Nw.warmM hW, List.forall_mem_cons.mpr ⟨va_Nw.warmM hW, List.forall_mem_cons.mpr ⟨va_Nw.warmF hW, List.forall_mem_cons.mpr ⟨va_Nw.warmM hW, List.forall_mem_cons.mpr ⟨va_Nw.warmF hW, List.forall_mem_cons.mpr ⟨va_Nw.warmF hW, fun _ h => absurd h List.not_mem_nil⟩⟩⟩⟩⟩⟩⟩
theorem SW.warm {s U : State} (hW : s.WarmedH U.vm) (hh : ∀ q : Nat, q < s.heap.size → ¬ z0 ≤ q → U.heap[q]? = s.heap[q]?) (h : SW D z0 oa ca L xs s) : SW D z0 oa ca L xs U := by
  obtain ⟨h0, h1, h2, h3, h4, h5, h6, h7, h8⟩ := h
  exact ⟨fun a a1 a2 => ((h0 a a1 a2).moved hW.alike).kept hh, va_K.moved hW.alike h1, fun k k1 k2 => ((h2 k k1 k2).moved hW.alike).kept hh, fun w hw => nst_warm hW w hw (h3 w hw), fun k k1 k2 => va_AO.moved hW.alike (h4 k k1 k2), vk_R.warm hW h5, (vk_S.moved hW.alike h6).kept hh, (h7.moved hW.alike).kept hh, (h8.moved hW.alike).kept hh⟩
theorem SW.same {s U : State} (hv : U.vm = s.vm) (hh : U.heap = s.heap) (h : SW D z0 oa ca L xs s) : SW D z0 oa ca L xs U := by
  obtain ⟨h0, h1, h2, h3, h4, h5, h6, h7, h8⟩ := h
  have ha : s.vm.Alike U.vm := by rw [hv]; exact Vm.Alike.refl s.vm
  have hk : ∀ q : Nat, q < s.heap.size → ¬ z0 ≤ q → U.heap[q]? = s.heap[q]? := fun q _ _ => by rw [hh]
  exact ⟨fun a a1 a2 => ((h0 a a1 a2).moved ha).kept hk, va_K.moved ha h1, fun k k1 k2 => ((h2 k k1 k2).moved ha).kept hk, fun w hw => va_Nw.same (nst_tab w hw) hv.symm (h3 w hw), fun k k1 k2 => va_AO.moved ha (h4 k k1 k2), vk_R.same hv h5, (vk_S.moved ha h6).kept hk, (h7.moved ha).kept hk, (h8.moved ha).kept hk⟩
def Pw (D : va_G) (z0 : Nat) (oa : Nat → Nat) (ca : Nat → ClassId) (L : Nat) (xs : Nat → Int) (av : List MV) (h : MH) : Array Value → State → Prop := fun a U => a = (av.map (trv z0 oa)).toArray ∧ WD D z0 oa ca h U.heap ∧ SW D z0 oa ca L xs U
def Qw (D : va_G) (z0 : Nat) (oa : Nat → Nat) (ca : Nat → ClassId) (v : Option MV) (h' : MH) : Array Value → State → Outcome → State → Prop := fun _ st o t => o = .returned (v.map (trv z0 oa)) ∧ WD D z0 oa ca h' t.heap ∧ va_F (fun q => z0 ≤ q) st t
theorem Pw_blind {av : List MV} {h : MH} : FrameBlind (Pw D z0 oa ca L xs av h) := fun _ U _ _ hp => ⟨hp.1, hp.2.1, SW.same (s := U) rfl rfl hp.2.2⟩
theorem mcl_lt {ci : Nat} {r : vw_C} (h : mcl[ci]? = some r) : ci < 13 := (List.getElem?_eq_some_iff.mp h).1
theorem mcl_all {P : Nat → vw_C → Prop} (h0 : P 0 (RX0, TX0, 16)) (h1 : P 1 (RX1, TX1, 6)) (h2 : P 2 (RX2, TX2, 10)) (h3 : P 3 (RX3, TX3, 6)) (h4 : P 4 (RX4, TX4, 9)) (h5 : P 5 (RX5, TX5, 8)) (h6 : P 6 (RX6, TX6, 5)) (h7 : P 7 (RX7, TX7, 6)) (h8 : P 8 (RX8, TX8, 4)) (h9 : P 9 (RX9, TX9, 14)) (h10 : P 10 (RX10, TX10, 3)) (h11 : P 11 (RX11, TX11, 18)) (h12 : P 12 (RX12, TX12, 42)) {ci : Nat} {r : vw_C} (h : mcl[ci]? = some r) : P ci r := by
  have hl := mcl_lt h
  rcases (show ci = 0 ∨ ci = 1 ∨ ci = 2 ∨ ci = 3 ∨ ci = 4 ∨ ci = 5 ∨ ci = 6 ∨ ci = 7 ∨ ci = 8 ∨ ci = 9 ∨ ci = 10 ∨ ci = 11 ∨ ci = 12 by omega) with rfl | rfl | rfl | rfl | rfl | rfl | rfl | rfl | rfl | rfl | rfl | rfl | rfl <;> cases h <;> assumption
theorem mcl_in {ci : Nat} {r : vw_C} (h : mcl[ci]? = some r) : ∀ w ∈ u_ws r.1 r.2.1 r.2.2, w ∈ lw_tbl :=
  mcl_all (P := fun _ r => ∀ w ∈ u_ws r.1 r.2.1 r.2.2, w ∈ lw_tbl) inX0 inX1 inX2 inX3 inX4 inX5 inX6 inX7 inX8 inX9 inX10 inX11 inX12 h
theorem u_ws_good {C : String} {T : u_T} {N : Nat} : ∀ w ∈ u_ws C T N, goodWord w = true := by
  intro w hw
  unfold u_ws at hw
  obtain ⟨k, -, rfl⟩ := List.mem_map.mp hw
  unfold u_lay
  split <;> rfl
theorem mcl_gt {ci : Nat} {r : vw_C} (h : mcl[ci]? = some r) : ∀ w ∈ u_ws r.1 r.2.1 r.2.2, w ∈ GT := fun w hw => gt (mcl_in h w hw) (u_ws_good w hw)
theorem mcl_nm {ci : Nat} {r : vw_C} (h : mcl[ci]? = some r) : ∀ a, a < r.2.2 → ∀ b, b < r.2.2 → a ≠ b → (r.2.1 a).2.1 ≠ (r.2.1 b).2.1 :=
  mcl_all (P := fun _ r => ∀ a, a < r.2.2 → ∀ b, b < r.2.2 → a ≠ b → (r.2.1 a).2.1 ≠ (r.2.1 b).2.1) nmX0 nmX1 nmX2 nmX3 nmX4 nmX5 nmX6 nmX7 nmX8 nmX9 nmX10 nmX11 nmX12 h
theorem mcl_ty {ci : Nat} {r : vw_C} (h : mcl[ci]? = some r) : ∃ ty0 : Nat → FieldType, ∀ k, k < r.2.2 → parseFieldDescriptor (r.2.1 k).2.2.1 = some (ty0 k) :=
  mcl_all (P := fun _ r => ∃ ty0 : Nat → FieldType, ∀ k, k < r.2.2 → parseFieldDescriptor (r.2.1 k).2.2.1 = some (ty0 k)) ⟨_, tyX0_ok⟩ ⟨_, tyX1_ok⟩ ⟨_, tyX2_ok⟩ ⟨_, tyX3_ok⟩ ⟨_, tyX4_ok⟩ ⟨_, tyX5_ok⟩ ⟨_, tyX6_ok⟩ ⟨_, tyX7_ok⟩ ⟨_, tyX8_ok⟩ ⟨_, tyX9_ok⟩ ⟨_, tyX10_ok⟩ ⟨_, tyX11_ok⟩ ⟨_, tyX12_ok⟩ h
theorem mcl_n {ci : Nat} {r : vw_C} (h : mcl[ci]? = some r) : r.2.2 = nfl ci :=
  mcl_all (P := fun ci r => r.2.2 = nfl ci) rfl rfl rfl rfl rfl rfl rfl rfl rfl rfl rfl rfl rfl h
theorem mcl_nm1 {ci : Nat} {r : vw_C} (h : mcl[ci]? = some r) : r.1 = cN ci :=
  mcl_all (P := fun ci r => r.1 = cN ci) rfl rfl rfl rfl rfl rfl rfl rfl rfl rfl rfl rfl rfl h
theorem mcl_decl {ci : Nat} {r : vw_C} (h : mcl[ci]? = some r) : ∀ k, k < r.2.2 → (r.2.1 k).1 = r.1 :=
  mcl_all (P := fun _ r => ∀ k, k < r.2.2 → (r.2.1 k).1 = r.1) (by decide +kernel) (by decide +kernel) (by decide +kernel) (by decide +kernel) (by decide +kernel) (by decide +kernel) (by decide +kernel) (by decide +kernel) (by decide +kernel) (by decide +kernel) (by decide +kernel) (by decide +kernel) (by decide +kernel) h
/-- the code of a field, its descriptor, and whether it is final -/
def fcOk (q : String × String × String × Bool) (fc : Nat) : Bool := match fc with
  | 0 => decide (parseFieldDescriptor q.2.2.1 = some .int) && !q.2.2.2
  | 1 => decide (parseFieldDescriptor q.2.2.1 = some .long) && !q.2.2.2
  | 4 => decide (parseFieldDescriptor q.2.2.1 = some .boolean) && !q.2.2.2
  | 2 => (match parseFieldDescriptor q.2.2.1 with
    | some ty => ty.isReference
    | none => false) && !q.2.2.2
  | 3 => (match parseFieldDescriptor q.2.2.1 with
    | some ty => ty.isReference
    | none => false) && q.2.2.2
  | _ => false
theorem mcl_fc {ci : Nat} {r : vw_C} (h : mcl[ci]? = some r) : ∀ k, k < r.2.2 → fcOk (r.2.1 k) (ftc ci k) = true :=
  mcl_all (P := fun ci r => ∀ k, k < r.2.2 → fcOk (r.2.1 k) (ftc ci k) = true) (by decide +kernel) (by decide +kernel) (by decide +kernel) (by decide +kernel) (by decide +kernel) (by decide +kernel) (by decide +kernel) (by decide +kernel) (by decide +kernel) (by decide +kernel) (by decide +kernel) (by decide +kernel) (by decide +kernel) h
end Rows
