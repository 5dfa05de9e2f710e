/-! ===== running the small machine; what may be said of a run; parametricity of one instruction ===== -/
section Par
variable {R S : Type} {rel : R → S → Prop} {b1 : R} {b2 : S}
theorem k1_par (hb : rel b1 b2) {st : List MV} {f : Int → List MV → R} {g : Int → List MV → S} (h : ∀ x r, rel (f x r) (g x r)) : rel (k1 b1 st f) (k1 b2 st g) := by
  unfold k1; split <;> first | exact h _ _ | exact hb
theorem k2_par (hb : rel b1 b2) {st : List MV} {f : Int → Int → List MV → R} {g : Int → Int → List MV → S} (h : ∀ x y r, rel (f x y r) (g x y r)) : rel (k2 b1 st f) (k2 b2 st g) := by
  unfold k2; split <;> first | exact h _ _ _ | exact hb
theorem l1_par (hb : rel b1 b2) {st : List MV} {f : Int → List MV → R} {g : Int → List MV → S} (h : ∀ x r, rel (f x r) (g x r)) : rel (l1 b1 st f) (l1 b2 st g) := by
  unfold l1; split <;> first | exact h _ _ | exact hb
theorem l2_par (hb : rel b1 b2) {st : List MV} {f : Int → Int → List MV → R} {g : Int → Int → List MV → S} (h : ∀ x y r, rel (f x y r) (g x y r)) : rel (l2 b1 st f) (l2 b2 st g) := by
  unfold l2; split <;> first | exact h _ _ _ | exact hb
theorem r1_par (hb : rel b1 b2) {st : List MV} {f : Int → List MV → R} {g : Int → List MV → S} (h : ∀ x r, rel (f x r) (g x r)) : rel (r1 b1 st f) (r1 b2 st g) := by
  unfold r1; split <;> first | exact h _ _ | exact hb
theorem ri_par (hb : rel b1 b2) {st : List MV} {f : Int → Int → List MV → R} {g : Int → Int → List MV → S} (h : ∀ x y r, rel (f x y r) (g x y r)) : rel (ri b1 st f) (ri b2 st g) := by
  unfold ri; split <;> first | exact h _ _ _ | exact hb
theorem li_par (hb : rel b1 b2) {st : List MV} {f : Int → Int → List MV → R} {g : Int → Int → List MV → S} (h : ∀ x y r, rel (f x y r) (g x y r)) : rel (li b1 st f) (li b2 st g) := by
  unfold li; split <;> first | exact h _ _ _ | exact hb
theorem rii_par (hb : rel b1 b2) {st : List MV} {f : Int → Int → Int → List MV → R} {g : Int → Int → Int → List MV → S} (h : ∀ x y z r, rel (f x y z r) (g x y z r)) : rel (rii b1 st f) (rii b2 st g) := by
  unfold rii; split <;> first | exact h _ _ _ _ | exact hb
theorem ril_par (hb : rel b1 b2) {st : List MV} {f : Int → Int → Int → List MV → R} {g : Int → Int → Int → List MV → S} (h : ∀ x y z r, rel (f x y z r) (g x y z r)) : rel (ril b1 st f) (ril b2 st g) := by
  unfold ril; split <;> first | exact h _ _ _ _ | exact hb
theorem rir_par (hb : rel b1 b2) {st : List MV} {f : Int → Int → Int → List MV → R} {g : Int → Int → Int → List MV → S} (h : ∀ x y z r, rel (f x y z r) (g x y z r)) : rel (rir b1 st f) (rir b2 st g) := by
  unfold rir; split <;> first | exact h _ _ _ _ | exact hb
theorem rvI_par (hb : rel b1 b2) {st : List MV} {f : Int → Int → List MV → R} {g : Int → Int → List MV → S} (h : ∀ x y r, rel (f x y r) (g x y r)) : rel (rvI b1 st f) (rvI b2 st g) := by
  unfold rvI; split <;> first | exact h _ _ _ | exact hb
theorem rvL_par (hb : rel b1 b2) {st : List MV} {f : Int → Int → List MV → R} {g : Int → Int → List MV → S} (h : ∀ x y r, rel (f x y r) (g x y r)) : rel (rvL b1 st f) (rvL b2 st g) := by
  unfold rvL; split <;> first | exact h _ _ _ | exact hb
theorem rvR_par (hb : rel b1 b2) {st : List MV} {f : Int → Int → List MV → R} {g : Int → Int → List MV → S} (h : ∀ x y r, rel (f x y r) (g x y r)) : rel (rvR b1 st f) (rvR b2 st g) := by
  unfold rvR; split <;> first | exact h _ _ _ | exact hb
theorem ac5_par (hb : rel b1 b2) {st : List MV} {f : Int → Int → Int → Int → Int → List MV → R} {g : Int → Int → Int → Int → Int → List MV → S} (h : ∀ a b c d e r, rel (f a b c d e r) (g a b c d e r)) : rel (ac5 b1 st f) (ac5 b2 st g) := by
  unfold ac5; split <;> first | exact h _ _ _ _ _ _ | exact hb
theorem gI_par (hb : rel b1 b2) {ls : List MV} {j : Nat} {f : Int → R} {g : Int → S} (h : ∀ x, rel (f x) (g x)) : rel (gI b1 ls j f) (gI b2 ls j g) := by
  unfold gI; split <;> first | exact h _ | exact hb
theorem gL_par (hb : rel b1 b2) {ls : List MV} {j : Nat} {f : Int → R} {g : Int → S} (h : ∀ x, rel (f x) (g x)) : rel (gL b1 ls j f) (gL b2 ls j g) := by
  unfold gL; split <;> first | exact h _ | exact hb
theorem gR_par (hb : rel b1 b2) {ls : List MV} {j : Nat} {f : Int → R} {g : Int → S} (h : ∀ x, rel (f x) (g x)) : rel (gR b1 ls j f) (gR b2 ls j g) := by
  unfold gR; split <;> first | exact h _ | exact hb
theorem e1_par (hb : rel b1 b2) {st : List MV} {f : Int → R} {g : Int → S} (h : ∀ x, rel (f x) (g x)) : rel (e1 b1 st f) (e1 b2 st g) := by
  unfold e1; split <;> first | exact h _ | exact hb
theorem e2_par (hb : rel b1 b2) {st : List MV} {f : Int → R} {g : Int → S} (h : ∀ x, rel (f x) (g x)) : rel (e2 b1 st f) (e2 b2 st g) := by
  unfold e2; split <;> first | exact h _ | exact hb
theorem e0_par (hb : rel b1 b2) {st : List MV} {f : R} {g : S} (h : rel f g) : rel (e0 b1 st f) (e0 b2 st g) := by
  unfold e0; split <;> first | exact h | exact hb
theorem d1_par (hb : rel b1 b2) {st : List MV} {f : MV → List MV → R} {g : MV → List MV → S} (h : ∀ x r, rel (f x r) (g x r)) : rel (d1 b1 st f) (d1 b2 st g) := by
  unfold d1; split <;> first | exact h _ _ | exact hb
theorem d2_par (hb : rel b1 b2) {st : List MV} {f : Int → Int → List MV → R} {g : Int → Int → List MV → S} (h : ∀ x y r, rel (f x y r) (g x y r)) : rel (d2 b1 st f) (d2 b2 st g) := by
  unfold d2; split <;> first | exact h _ _ _ | exact hb
theorem swf_par {br1 : (c : Prop) → Decidable c → R → R → R} {br2 : (c : Prop) → Decidable c → S → S → S} (hbr : ∀ c dc a1 a2 c1 c2, rel a1 a2 → rel c1 c2 → rel (br1 c dc a1 c1) (br2 c dc a2 c2)) {x : Int} {f : Nat → R} {g : Nat → S} (h : ∀ t, rel (f t) (g t)) {dflt : Nat} :
    ∀ ts : List (Int × Nat), rel (swf br1 x f dflt ts) (swf br2 x g dflt ts)
  | [] => h _
  | q :: r => hbr _ _ _ _ _ _ (h _) (swf_par hbr h r)
set_option maxHeartbeats 4000000 in
theorem xop_par (hb : rel b1 b2) {nx1 : Nat → List MV → List MV → MH → R} {nx2 : Nat → List MV → List MV → MH → S} (hnx : ∀ i ls st h, rel (nx1 i ls st h) (nx2 i ls st h))
    {br1 : (c : Prop) → Decidable c → R → R → R} {br2 : (c : Prop) → Decidable c → S → S → S} (hbr : ∀ c dc a1 a2 c1 c2, rel a1 a2 → rel c1 c2 → rel (br1 c dc a1 c1) (br2 c dc a2 c2))
    {gd1 : (c : Prop) → Decidable c → R → R} {gd2 : (c : Prop) → Decidable c → S → S} (hgd : ∀ c dc a1 a2, rel a1 a2 → rel (gd1 c dc a1) (gd2 c dc a2))
    {cV1 : Nat → List MV → MH → (MH → R) → R} {cV2 : Nat → List MV → MH → (MH → S) → S} (hcV : ∀ mi args h f g, (∀ h', rel (f h') (g h')) → rel (cV1 mi args h f) (cV2 mi args h g))
    {cI1 : Nat → List MV → MH → (Int → MH → R) → R} {cI2 : Nat → List MV → MH → (Int → MH → S) → S} (hcI : ∀ mi args h f g, (∀ v h', rel (f v h') (g v h')) → rel (cI1 mi args h f) (cI2 mi args h g))
    {cL1 : Nat → List MV → MH → (Int → MH → R) → R} {cL2 : Nat → List MV → MH → (Int → MH → S) → S} (hcL : ∀ mi args h f g, (∀ v h', rel (f v h') (g v h')) → rel (cL1 mi args h f) (cL2 mi args h g))
    {rt1 : Option MV → MH → R} {rt2 : Option MV → MH → S} (hrt : ∀ v h, rel (rt1 v h) (rt2 v h)) (e : MI) (i : Nat) (ls st : List MV) (h : MH) :
    rel (xop b1 nx1 br1 gd1 cV1 cI1 cL1 rt1 e i ls st h) (xop b2 nx2 br2 gd2 cV2 cI2 cL2 rt2 e i ls st h) := by
  unfold xop
  split <;> first
    | exact hb
    | apply hnx
    | (repeat (first | exact hb | apply hnx | apply hrt | apply hbr | apply hgd | apply hcV | apply hcI | apply hcL | apply k1_par hb | apply k2_par hb | apply l1_par hb | apply l2_par hb | apply r1_par hb | apply ri_par hb | apply li_par hb | apply rii_par hb | apply ril_par hb | apply rir_par hb | apply rvI_par hb | apply rvL_par hb | apply rvR_par hb | apply ac5_par hb | apply gI_par hb | apply gL_par hb | apply gR_par hb | apply e1_par hb | apply e2_par hb | apply e0_par hb | apply d1_par hb | apply d2_par hb | apply swf_par hbr | (split) | (intro _)))
end Par
def spr : List MV → List MV
  | [] => []
  | .inr (.inl x) :: r => vl x :: vj :: spr r
  | v :: r => v :: spr r
def ent (args : List MV) (n : Nat) : List MV := spr args ++ List.replicate (n - (spr args).length) vj
abbrev MR : Type := Option (Option MV × MH)
def aV (o : MR) (k : MH → MR) : MR := match o with
  | some (none, h') => k h'
  | _ => none
def aI (o : MR) (k : Int → MH → MR) : MR := match o with
  | some (some (.inl v), h') => k v h'
  | _ => none
def aL (o : MR) (k : Int → MH → MR) : MR := match o with
  | some (some (.inr (.inl v)), h') => k v h'
  | _ => none
def ag (mi : Nat) (args : List MV) (o : MR) : MR := if (spr args).length ≤ (mtab mi).2 then o else none
def dp (d : Nat) (f : Nat → MR) : MR := match d with
  | 0 => none
  | d + 1 => f d
def exec : Nat → Nat → List MI → Nat → List MV → List MV → MH → MR
  | 0, _, _, _, _, _, _ => none
  | n + 1, d, code, i, ls, st, h => match code[i]? with
    | none => none
    | some e => xop none (fun i ls st h => exec n d code i ls st h) (fun c dc a b => @ite _ c dc a b) (fun c dc a => @ite _ c dc a none)
        (fun mi args h k => dp d (fun d => ag mi args (aV (exec n d (mtab mi).1 0 (ent args (mtab mi).2) [] h) k)))
        (fun mi args h k => dp d (fun d => ag mi args (aI (exec n d (mtab mi).1 0 (ent args (mtab mi).2) [] h) k)))
        (fun mi args h k => dp d (fun d => ag mi args (aL (exec n d (mtab mi).1 0 (ent args (mtab mi).2) [] h) k)))
        (fun v h => some (v, h)) e i ls st h
def Go (d : Nat) (code : List MI) (i : Nat) (ls st : List MV) (h : MH) (Q : Option MV → MH → Prop) : Prop := ∃ n v h', exec n d code i ls st h = some (v, h') ∧ Q v h'
def CallV (d mi : Nat) (args : List MV) (h : MH) (Q : MH → Prop) : Prop := ∃ n h', exec n d (mtab mi).1 0 (ent args (mtab mi).2) [] h = some (none, h') ∧ Q h'
def CallI (d mi : Nat) (args : List MV) (h : MH) (Q : Int → MH → Prop) : Prop := ∃ n v h', exec n d (mtab mi).1 0 (ent args (mtab mi).2) [] h = some (some (vi v), h') ∧ Q v h'
def CallL (d mi : Nat) (args : List MV) (h : MH) (Q : Int → MH → Prop) : Prop := ∃ n v h', exec n d (mtab mi).1 0 (ent args (mtab mi).2) [] h = some (some (vl v), h') ∧ Q v h'
theorem Go.mono {d : Nat} {code : List MI} {i : Nat} {ls st : List MV} {h : MH} {Q Q' : Option MV → MH → Prop} (hg : Go d code i ls st h Q) (hq : ∀ v h', Q v h' → Q' v h') : Go d code i ls st h Q' := by
  obtain ⟨n, v, h', e, q⟩ := hg
  exact ⟨n, v, h', e, hq v h' q⟩
theorem CallV.mono {d mi : Nat} {args : List MV} {h : MH} {Q Q' : MH → Prop} (hg : CallV d mi args h Q) (hq : ∀ h', Q h' → Q' h') : CallV d mi args h Q' := by
  obtain ⟨n, h', e, q⟩ := hg
  exact ⟨n, h', e, hq h' q⟩
theorem CallI.mono {d mi : Nat} {args : List MV} {h : MH} {Q Q' : Int → MH → Prop} (hg : CallI d mi args h Q) (hq : ∀ v h', Q v h' → Q' v h') : CallI d mi args h Q' := by
  obtain ⟨n, v, h', e, q⟩ := hg
  exact ⟨n, v, h', e, hq v h' q⟩
theorem CallL.mono {d mi : Nat} {args : List MV} {h : MH} {Q Q' : Int → MH → Prop} (hg : CallL d mi args h Q) (hq : ∀ v h', Q v h' → Q' v h') : CallL d mi args h Q' := by
  obtain ⟨n, v, h', e, q⟩ := hg
  exact ⟨n, v, h', e, hq v h' q⟩
theorem CallV.go {d mi : Nat} {args : List MV} {h : MH} {Q : MH → Prop} {code : List MI} {mx : Nat} (hm : mtab mi = (code, mx)) {ls : List MV} (hl : ent args mx = ls) (hg : Go d code 0 ls [] h (fun v h' => v = none ∧ Q h')) : CallV d mi args h Q := by
  obtain ⟨n, v, h', e, rfl, q⟩ := hg
  subst hl
  exact ⟨n, h', by rw [hm]; exact e, q⟩
theorem CallI.go {d mi : Nat} {args : List MV} {h : MH} {Q : Int → MH → Prop} {code : List MI} {mx : Nat} (hm : mtab mi = (code, mx)) {ls : List MV} (hl : ent args mx = ls) (hg : Go d code 0 ls [] h (fun v h' => ∃ r, v = some (vi r) ∧ Q r h')) : CallI d mi args h Q := by
  obtain ⟨n, v, h', e, r, rfl, q⟩ := hg
  subst hl
  exact ⟨n, r, h', by rw [hm]; exact e, q⟩
theorem CallL.go {d mi : Nat} {args : List MV} {h : MH} {Q : Int → MH → Prop} {code : List MI} {mx : Nat} (hm : mtab mi = (code, mx)) {ls : List MV} (hl : ent args mx = ls) (hg : Go d code 0 ls [] h (fun v h' => ∃ r, v = some (vl r) ∧ Q r h')) : CallL d mi args h Q := by
  obtain ⟨n, v, h', e, r, rfl, q⟩ := hg
  subst hl
  exact ⟨n, r, h', by rw [hm]; exact e, q⟩
def MLe (a b : MR) : Prop := ∀ z, a = some z → b = some z
theorem exec_step : ∀ (n : Nat) (d : Nat) (code : List MI) (i : Nat) (ls st : List MV) (h : MH), MLe (exec n d code i ls st h) (exec (n + 1) d code i ls st h)
  | 0, _, _, _, _, _, _ => fun z hz => by cases hz
  | n + 1, d, code, i, ls, st, h => by
    rw [exec, exec]
    cases code[i]? with
    | none => exact fun z hz => hz
    | some e =>
      refine xop_par (rel := MLe) (fun z hz => hz) (fun i ls st h => exec_step n d code i ls st h) ?_ ?_ ?_ ?_ ?_ ?_ e i ls st h
      · intro c dc a1 a2 c1 c2 h1 h2
        by_cases hc : c
        · simp only [if_pos hc]; exact h1
        · simp only [if_neg hc]; exact h2
      · intro c dc a1 a2 h1
        by_cases hc : c
        · simp only [if_pos hc]; exact h1
        · simp only [if_neg hc]; exact fun z hz => hz
      · intro mi args h f g hf z hz
        cases d with
        | zero => cases hz
        | succ d =>
          have hs := exec_step n d (mtab mi).1 0 (ent args (mtab mi).2) [] h
          simp only [dp, ag] at hz ⊢
          by_cases hg : (spr args).length ≤ (mtab mi).2
          case neg => rw [if_neg hg] at hz; cases hz
          rw [if_pos hg] at hz ⊢
          cases hx : exec n d (mtab mi).1 0 (ent args (mtab mi).2) [] h with
          | none => rw [hx] at hz; cases hz
          | some w =>
            rw [hx] at hz; rw [hs w hx]; revert hz
            unfold aV
            split <;> first | exact hf _ z | exact id
      · intro mi args h f g hf z hz
        cases d with
        | zero => cases hz
        | succ d =>
          have hs := exec_step n d (mtab mi).1 0 (ent args (mtab mi).2) [] h
          simp only [dp, ag] at hz ⊢
          by_cases hg : (spr args).length ≤ (mtab mi).2
          case neg => rw [if_neg hg] at hz; cases hz
          rw [if_pos hg] at hz ⊢
          cases hx : exec n d (mtab mi).1 0 (ent args (mtab mi).2) [] h with
          | none => rw [hx] at hz; cases hz
          | some w =>
            rw [hx] at hz; rw [hs w hx]; revert hz
            unfold aI
            split <;> first | exact hf _ _ z | exact id
      · intro mi args h f g hf z hz
        cases d with
        | zero => cases hz
        | succ d =>
          have hs := exec_step n d (mtab mi).1 0 (ent args (mtab mi).2) [] h
          simp only [dp, ag] at hz ⊢
          by_cases hg : (spr args).length ≤ (mtab mi).2
          case neg => rw [if_neg hg] at hz; cases hz
          rw [if_pos hg] at hz ⊢
          cases hx : exec n d (mtab mi).1 0 (ent args (mtab mi).2) [] h with
          | none => rw [hx] at hz; cases hz
          | some w =>
            rw [hx] at hz; rw [hs w hx]; revert hz
            unfold aL
            split <;> first | exact hf _ _ z | exact id
      · intro v h z hz; exact hz
theorem exec_le {n n' d : Nat} {code : List MI} {i : Nat} {ls st : List MV} {h : MH} {z : Option MV × MH} (hn : n ≤ n') (hz : exec n d code i ls st h = some z) : exec n' d code i ls st h = some z := by
  induction hn with
  | refl => exact hz
  | step _ ih => exact exec_step _ _ _ _ _ _ _ z ih
/-- so many instructions ahead, or up to places where one stops: what must hold there -/
def sym (d : Nat) (cut : List Nat) (code : List MI) (Q : Option MV → MH → Prop) : Nat → Nat → List MV → List MV → MH → Prop
  | 0, i, ls, st, h => Go d code i ls st h Q
  | n + 1, i, ls, st, h => match code[i]? with
    | none => False
    | some e => xop False (fun i ls st h => bif cut.elem i then Go d code i ls st h Q else sym d cut code Q n i ls st h) (fun c _ a b => (c → a) ∧ (¬ c → b)) (fun c _ a => c ∧ a)
        (fun mi args h k => (0 < d ∧ (spr args).length ≤ (mtab mi).2) ∧ CallV (d - 1) mi args h k) (fun mi args h k => (0 < d ∧ (spr args).length ≤ (mtab mi).2) ∧ CallI (d - 1) mi args h k) (fun mi args h k => (0 < d ∧ (spr args).length ≤ (mtab mi).2) ∧ CallL (d - 1) mi args h k) (fun v h => Q v h) e i ls st h
/-- a claim beside runs by their fuel: if it holds, from some fuel on they end with Q -/
def Rel2 (Q : Option MV → MH → Prop) (p : Prop) (o : Nat → MR) : Prop := p → ∃ N z, (∀ n, N ≤ n → o n = some z) ∧ Q z.1 z.2
theorem Go.rel {d : Nat} {code : List MI} {i : Nat} {ls st : List MV} {h : MH} {Q : Option MV → MH → Prop} : Rel2 Q (Go d code i ls st h Q) (fun n => exec n d code i ls st h) := by
  rintro ⟨n, v, h', e, q⟩
  exact ⟨n, (v, h'), fun m hm => exec_le hm e, q⟩
theorem xop_at {n d : Nat} {code : List MI} {e : MI} {i : Nat} {ls st : List MV} {h : MH} (he : code[i]? = some e) : exec (n + 1) d code i ls st h = (xop (R := Nat → MR) (fun _ => none) (fun i ls st h n => exec n d code i ls st h) (fun c dc a b n => @ite _ c dc (a n) (b n)) (fun c dc a n => @ite _ c dc (a n) none)
        (fun mi args h k n => dp d (fun d => ag mi args (aV (exec n d (mtab mi).1 0 (ent args (mtab mi).2) [] h) (fun h' => k h' n))))
        (fun mi args h k n => dp d (fun d => ag mi args (aI (exec n d (mtab mi).1 0 (ent args (mtab mi).2) [] h) (fun v h' => k v h' n))))
        (fun mi args h k n => dp d (fun d => ag mi args (aL (exec n d (mtab mi).1 0 (ent args (mtab mi).2) [] h) (fun v h' => k v h' n))))
        (fun v h _ => some (v, h)) e i ls st h) n := by
  rw [exec, he]
  dsimp only
  refine xop_par (R := MR) (S := Nat → MR) (rel := fun a o => a = o n) (b1 := none) (b2 := fun _ => none) rfl
    (nx1 := fun i ls st h => exec n d code i ls st h) (nx2 := fun i ls st h n => exec n d code i ls st h) (fun _ _ _ _ => rfl)
    (br1 := fun c dc a b => @ite _ c dc a b) (br2 := fun c dc a b n => @ite _ c dc (a n) (b n)) ?_
    (gd1 := fun c dc a => @ite _ c dc a none) (gd2 := fun c dc a n => @ite _ c dc (a n) none) ?_
    (cV1 := fun mi args h k => dp d (fun d => ag mi args (aV (exec n d (mtab mi).1 0 (ent args (mtab mi).2) [] h) k))) (cV2 := fun mi args h k n => dp d (fun d => ag mi args (aV (exec n d (mtab mi).1 0 (ent args (mtab mi).2) [] h) (fun h' => k h' n)))) ?_
    (cI1 := fun mi args h k => dp d (fun d => ag mi args (aI (exec n d (mtab mi).1 0 (ent args (mtab mi).2) [] h) k))) (cI2 := fun mi args h k n => dp d (fun d => ag mi args (aI (exec n d (mtab mi).1 0 (ent args (mtab mi).2) [] h) (fun v h' => k v h' n)))) ?_
    (cL1 := fun mi args h k => dp d (fun d => ag mi args (aL (exec n d (mtab mi).1 0 (ent args (mtab mi).2) [] h) k))) (cL2 := fun mi args h k n => dp d (fun d => ag mi args (aL (exec n d (mtab mi).1 0 (ent args (mtab mi).2) [] h) (fun v h' => k v h' n)))) ?_
    (rt1 := fun v h => some (v, h)) (rt2 := fun v h _ => some (v, h)) (fun _ _ => rfl) e i ls st h
  · intro c dc a1 a2 c1 c2 h1 h2; rw [h1, h2]
  · intro c dc a1 a2 h1; rw [h1]
  · intro mi args h f g hf
    rw [funext hf]
  · intro mi args h f g hf
    rw [funext (fun v => funext (hf v))]
  · intro mi args h f g hf
    rw [funext (fun v => funext (hf v))]
set_option maxHeartbeats 1000000 in
theorem sym_rel (d : Nat) (cut : List Nat) (code : List MI) (Q : Option MV → MH → Prop) : ∀ (n i : Nat) (ls st : List MV) (h : MH), Rel2 Q (sym d cut code Q n i ls st h) (fun k => exec k d code i ls st h)
  | 0, i, ls, st, h => Go.rel
  | n + 1, i, ls, st, h => by
    rw [sym]
    cases he : code[i]? with
    | none => exact fun hp => hp.elim
    | some e =>
      intro hp
      have key := xop_par (rel := Rel2 Q) (b1 := False) (b2 := fun _ => none) (fun hp => hp.elim)
        (nx1 := fun i ls st h => bif cut.elem i then Go d code i ls st h Q else sym d cut code Q n i ls st h) (nx2 := fun i ls st h n => exec n d code i ls st h) (fun i ls st h => by
          cases cut.elem i with
          | true => exact Go.rel
          | false => exact sym_rel d cut code Q n i ls st h)
        (br1 := fun c _ a b => (c → a) ∧ (¬ c → b)) (br2 := fun c dc a b n => @ite _ c dc (a n) (b n)) (fun c dc a1 a2 c1 c2 h1 h2 => by
          intro hh
          by_cases hc : c
          · obtain ⟨N, z, hN, hz⟩ := h1 (hh.1 hc)
            exact ⟨N, z, fun n hn => by simp only [if_pos hc]; exact hN n hn, hz⟩
          · obtain ⟨N, z, hN, hz⟩ := h2 (hh.2 hc)
            exact ⟨N, z, fun n hn => by simp only [if_neg hc]; exact hN n hn, hz⟩)
        (gd1 := fun c _ a => c ∧ a) (gd2 := fun c dc a n => @ite _ c dc (a n) none) (fun c dc a1 a2 h1 => by
          rintro ⟨hc, hh⟩
          obtain ⟨N, z, hN, hz⟩ := h1 hh
          exact ⟨N, z, fun n hn => by simp only [if_pos hc]; exact hN n hn, hz⟩)
        (cV1 := fun mi args h k => (0 < d ∧ (spr args).length ≤ (mtab mi).2) ∧ CallV (d - 1) mi args h k) (cV2 := fun mi args h k n => dp d (fun d => ag mi args (aV (exec n d (mtab mi).1 0 (ent args (mtab mi).2) [] h) (fun h' => k h' n)))) (fun mi args h f g hf => by
          rintro ⟨⟨hd, hg⟩, M, h', hx, hk⟩
          obtain ⟨N, z, hN, hz⟩ := hf h' hk
          refine ⟨max M N, z, fun n hn => ?_, hz⟩
          have hx' := exec_le (n' := n) (by omega) hx
          revert hx'
          cases d with
          | zero => exact absurd hd (by omega)
          | succ d =>
            simp only [Nat.add_sub_cancel, dp, ag, if_pos hg]
            intro hx'
            rw [hx']
            exact hN n (by omega))
        (cI1 := fun mi args h k => (0 < d ∧ (spr args).length ≤ (mtab mi).2) ∧ CallI (d - 1) mi args h k) (cI2 := fun mi args h k n => dp d (fun d => ag mi args (aI (exec n d (mtab mi).1 0 (ent args (mtab mi).2) [] h) (fun v h' => k v h' n)))) (fun mi args h f g hf => by
          rintro ⟨⟨hd, hg⟩, M, v, h', hx, hk⟩
          obtain ⟨N, z, hN, hz⟩ := hf v h' hk
          refine ⟨max M N, z, fun n hn => ?_, hz⟩
          have hx' := exec_le (n' := n) (by omega) hx
          revert hx'
          cases d with
          | zero => exact absurd hd (by omega)
          | succ d =>
            simp only [Nat.add_sub_cancel, dp, ag, if_pos hg]
            intro hx'
            rw [hx']
            exact hN n (by omega))
        (cL1 := fun mi args h k => (0 < d ∧ (spr args).length ≤ (mtab mi).2) ∧ CallL (d - 1) mi args h k) (cL2 := fun mi args h k n => dp d (fun d => ag mi args (aL (exec n d (mtab mi).1 0 (ent args (mtab mi).2) [] h) (fun v h' => k v h' n)))) (fun mi args h f g hf => by
          rintro ⟨⟨hd, hg⟩, M, v, h', hx, hk⟩
          obtain ⟨N, z, hN, hz⟩ := hf v h' hk
          refine ⟨max M N, z, fun n hn => ?_, hz⟩
          have hx' := exec_le (n' := n) (by omega) hx
          revert hx'
          cases d with
          | zero => exact absurd hd (by omega)
          | succ d =>
            simp only [Nat.add_sub_cancel, dp, ag, if_pos hg]
            intro hx'
            rw [hx']
            exact hN n (by omega))
        (rt1 := fun v h => Q v h) (rt2 := fun v h _ => some (v, h)) (fun v h hq => ⟨0, (v, h), fun _ _ => rfl, hq⟩) e i ls st h
      obtain ⟨N, z, hN, hz⟩ := key hp
      refine ⟨N + 1, z, fun k hk => ?_, hz⟩
      obtain ⟨k, rfl⟩ : ∃ k', k = k' + 1 := ⟨k - 1, by omega⟩
      show exec (k + 1) d code i ls st h = some z
      rw [xop_at he]
      exact hN k (by omega)
theorem Go.sym {d : Nat} {cut : List Nat} {code : List MI} {Q : Option MV → MH → Prop} (n : Nat) {i : Nat} {ls st : List MV} {h : MH} (hp : sym d cut code Q n i ls st h) : Go d code i ls st h Q := by
  obtain ⟨N, z, hN, hz⟩ := sym_rel d cut code Q n i ls st h hp
  exact ⟨N, z.1, z.2, hN N (Nat.le_refl N), hz⟩
