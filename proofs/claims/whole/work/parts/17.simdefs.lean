/-! ===== the machine follows the small one: every instruction (text laid by gensim3.py) ===== -/
section Q1
variable {p : Program} {l : Launch} {e : Env} {R : Room} {s : State} {m : MethodId} {args : Array Value} {below : List Frame} {meth : Method} {c : Code} {H : Heap} {locs : List Loc} {cells slots : Nat} {Q : State → Prop} {cc : ByteArray} {pc : Nat} {ls : Array Slot} {rest : List Value}
theorem q_aload_n (hexec : p.tables.exec = Jvm.exec) (hb : c.code = cc) {k : Fin 4} {r : Option Nat} (hdg : decode cc pc = .ok (.aload_n k, 1)) (hl : ls[k.val]? = some (.val (va_rf r))) (kk : W p l e R s m args below meth c H locs cells slots Q (F0 m (pc + 1) ls (va_rf r :: rest))) : W p l e R s m args below meth c H locs cells slots Q (F0 m pc ls rest) := by
  cases r with
  | none => exact lv_aload_nN hexec hb hdg rfl hl kk
  | some x => exact lv_aload_n hexec hb hdg rfl hl kk
theorem q_aload (hexec : p.tables.exec = Jvm.exec) (hb : c.code = cc) {k : Nat} {r : Option Nat} (hdg : decode cc pc = .ok (.aload k, 2)) (hl : ls[k]? = some (.val (va_rf r))) (kk : W p l e R s m args below meth c H locs cells slots Q (F0 m (pc + 2) ls (va_rf r :: rest))) : W p l e R s m args below meth c H locs cells slots Q (F0 m pc ls rest) := by
  cases r with
  | none => exact lv_aloadN hexec hb hdg hl kk
  | some x => exact lv_aload hexec hb hdg hl kk
theorem q_astore_n (hexec : p.tables.exec = Jvm.exec) (hb : c.code = cc) {k : Fin 4} {nL : Nat} {r : Option Nat} {lv : List (Nat × Value)} (hdg : decode cc pc = .ok (.astore_n k, 1)) (h : lv_has ls nL lv) (hn : k.val < nL)
    (kk : ∀ ls' : Array Slot, lv_has ls' nL ((k.val, va_rf r) :: lv.filter (fun q => !(q.1 == k.val) && !(q.1 + 1 == k.val && q.2.category == 2))) → W p l e R s m args below meth c H locs cells slots Q (F0 m (pc + 1) ls' rest)) : W p l e R s m args below meth c H locs cells slots Q (F0 m pc ls (va_rf r :: rest)) := by
  cases r with
  | none => exact lv_astore_nN hexec hb hdg rfl h hn rfl kk
  | some x => exact lv_astore_n hexec hb hdg rfl h hn rfl kk
theorem q_astore (hexec : p.tables.exec = Jvm.exec) (hb : c.code = cc) {k : Nat} {nL : Nat} {r : Option Nat} {lv : List (Nat × Value)} (hdg : decode cc pc = .ok (.astore k, 2)) (h : lv_has ls nL lv) (hn : k < nL)
    (kk : ∀ ls' : Array Slot, lv_has ls' nL ((k, va_rf r) :: lv.filter (fun q => !(q.1 == k) && !(q.1 + 1 == k && q.2.category == 2))) → W p l e R s m args below meth c H locs cells slots Q (F0 m (pc + 2) ls' rest)) : W p l e R s m args below meth c H locs cells slots Q (F0 m pc ls (va_rf r :: rest)) := by
  cases r with
  | none => exact lv_astoreN hexec hb hdg h hn rfl kk
  | some x => exact lv_astore hexec hb hdg h hn rfl kk
end Q1
/-- what the old cells are in the small heap -/
def STR (L : Nat) (xs : Nat → Int) (h : MH) : Prop := (∀ a : Nat, 1 ≤ a → a ≤ 4 → shp h.1 a = (0, oldN L a, []) ∧ ∀ j : Nat, j < oldN L a → h.2 a j = oldV xs a j) ∧ shp h.1 6 = (2, 183, []) ∧ (∀ j : Nat, j < 183 → h.2 6 j = KWI.getD j 0) ∧ shK h.1 5 = 30
theorem STR_of {L : Nat} {xs : Nat → Int} {h h' : MH} (hs : STR L xs h) (h1 : ∀ a : Int, 1 ≤ a → a ≤ 6 → shp h'.1 a = shp h.1 a) (h2 : ∀ a j : Int, 1 ≤ a → a ≤ 6 → h'.2 a j = h.2 a j) : STR L xs h' := by
  obtain ⟨s1, s2, s3, s4⟩ := hs
  refine ⟨fun a a1 a2 => ⟨?_, fun j hj => ?_⟩, ?_, fun j hj => ?_, ?_⟩
  · rw [h1 a (by omega) (by omega)]; exact (s1 a a1 a2).1
  · rw [h2 a j (by omega) (by omega)]; exact (s1 a a1 a2).2 j hj
  · rw [h1 6 (by omega) (by omega)]; exact s2
  · rw [h2 6 j (by omega) (by omega)]; exact s3 j hj
  · unfold shK; rw [h1 5 (by omega) (by omega)]; exact s4
theorem STR_up {L : Nat} {xs : Nat → Int} {h : MH} {a j v : Int} (hs : STR L xs h) (ha : 6 < a) : STR L xs (h.1, up h.2 a j v) := STR_of hs (fun _ _ _ => rfl) (fun b j' _ _ => by show up h.2 a j v b j' = _; rw [up_ne (by omega)])
theorem STR_cpy {L : Nat} {xs : Nat → Int} {h : MH} {src sp a dp n : Int} (hs : STR L xs h) (ha : 6 < a) : STR L xs (h.1, cpy h.2 src sp a dp n) := STR_of hs (fun _ _ _ => rfl) (fun b j' _ _ => by show cpy h.2 src sp a dp n b j' = _; rw [cpy_ne (by omega)])
theorem STR_set {L : Nat} {xs : Nat → Int} {h : MH} {a : Int} {k : Nat} {v : Int} (hs : STR L xs h) (ha : 6 < a) (ha2 : a ≤ h.1.length) : STR L xs (shSet h.1 a k v, h.2) := STR_of hs (fun b hb _ => by show shp (shSet h.1 a k v) b = _; rw [shp_set (by omega) ha2 hb, if_neg (by omega)]) (fun _ _ _ _ => rfl)
theorem STR_push {L : Nat} {xs : Nat → Int} {h : MH} {E : Nat × Nat × List Int} (hs : STR L xs h) (h6 : 6 ≤ h.1.length) : STR L xs (h.1 ++ [E], h.2) := STR_of hs (fun b hb hb2 => by show shp (h.1 ++ [E]) b = _; rw [shp_app hb (by omega)]) (fun _ _ _ _ => rfl)
theorem STR_old {L : Nat} {xs : Nat → Int} {h : MH} (hs : STR L xs h) {a : Int} (h1 : 1 ≤ a) (h2 : a ≤ 6) : (∃ k : Nat, 1 ≤ k ∧ k ≤ 4 ∧ a = k ∧ shK h.1 a = 0) ∨ (a = 5 ∧ shK h.1 a = 30) ∨ (a = 6 ∧ shK h.1 a = 2) := by
  by_cases h5 : a = 5
  · exact Or.inr (Or.inl ⟨h5, by rw [h5]; exact hs.2.2.2⟩)
  · by_cases h6 : a = 6
    · exact Or.inr (Or.inr ⟨h6, by rw [h6]; unfold shK; rw [hs.2.1]⟩)
    · refine Or.inl ⟨a.toNat, by omega, by omega, by omega, ?_⟩
      have := (hs.1 a.toNat (by omega) (by omega)).1
      rw [show ((a.toNat : Nat) : Int) = a by omega] at this
      unfold shK; rw [this]
def RVo (v : Option MV) : Prop := ∀ x, v = some x → RV x ∧ x ≠ vj
def rcn (rc : Nat) (x : Int) : Prop := (rc = 1 → x = 0 ∨ x = 1) ∧ (rc = 2 → 0 ≤ x ∧ x < 65536) ∧ (rc = 3 → -128 ≤ x ∧ x < 128)
def RetOK (cc : ByteArray) (rc : Nat) (v : Option MV) (pc : Nat) : Prop := (v = none ∧ rc = 5 ∧ decode cc pc = .ok (.return_, 1)) ∨ (∃ x, v = some (vi x) ∧ rc < 4 ∧ rcn rc x ∧ decode cc pc = .ok (.ireturn, 1)) ∨ (∃ x, v = some (vl x) ∧ rc = 4 ∧ decode cc pc = .ok (.lreturn, 1))
def SimOK (l : Launch) (D : va_G) (z0 : Nat) (oa : Nat → Nat) (ca : Nat → ClassId) (L : Nat) (xs : Nat → Int) (d : Nat) : Prop :=
  ∀ (mi : Nat), mi < 372 → ∀ (n : Nat) (av : List MV) (h h' : MH) (v : Option MV), exec n d (mtab mi).1 0 (ent av (mtab mi).2) [] h = some (v, h') → (spr av).length ≤ (mtab mi).2 → (∀ x ∈ av, RV x ∧ x ≠ vj) → WF h → STR L xs h →
    Met l (yN mi) (Cond.code (yN mi) (yB mi) (mtab mi).2 (yR mi) :: GT) (rmd d (h'.1.length - h.1.length) (sls h'.1 - sls h.1)) (Pw D z0 oa ca L xs av h) (fun a st o t => Qw D z0 oa ca v h' a st o t ∧ WF h' ∧ STR L xs h' ∧ RVo v) (h'.1.length - h.1.length) (sls h'.1 - sls h.1) (fun q => z0 ≤ q)

