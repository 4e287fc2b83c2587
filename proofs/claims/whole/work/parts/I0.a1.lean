/-! WHAT CLAUSES SAY: values that fulfil them; what was traced follows -/
theorem lvb_ng {v : Nat → Bool} {x : Int} (hx : 0 ≤ x) : lvb v (ng x) = !lvb v x := by
  unfold lvb ng
  rw [show (x + 1 - 2 * (x % 2)) / 2 = x / 2 by omega]
  rcases (show x % 2 = 0 ∨ x % 2 = 1 by omega) with h | h
  · rw [decide_eq_true (show (x + 1 - 2 * (x % 2)) % 2 = 1 by omega), decide_eq_false (show ¬ x % 2 = 1 by omega)]
    cases v (x / 2).toNat <;> rfl
  · rw [decide_eq_false (show ¬ (x + 1 - 2 * (x % 2)) % 2 = 1 by omega), decide_eq_true h]
    cases v (x / 2).toNat <;> rfl
/-- clause c is fulfilled -/
def sC (M : Nat → Int) (c : Nat) (v : Nat → Bool) : Prop := ∃ x, inC M c x ∧ lvb v x = true
/-- what the question asks, as it has been told: its clauses -/
def SND (Gm : (Nat → Bool) → Prop) (M : Nat → Int) (cs : List Nat) : Prop := ∀ v, Gm v → ∀ c ∈ cs, sC M c v
section RuP
variable {s ts lv n ls0 ls hc0 hc : Nat} {M : Nat → Int} {cs : List Nat} {V L Rs T St S Lr Hi : Nat → Int}
theorem TC_Y {P : Int → Prop} (hT : TRp s ts lv M cs V L Rs T St) (hcl : ∀ c ∈ cs, ∀ x, inC M c x → lit s x) (hC : TC ts n ls0 ls hc0 hc M cs V L Rs T S Lr Hi) (hS : ∀ g, S g = 0) (hP : ∀ i, i < ts → L (gt (T i)) = 0 → P (T i)) (h01 : hc0 ≤ 1) (h0 : 1 ≤ hc → ∀ c : Nat, Hi 0 = (c : Int) → ∀ x, inC M c x → V x.toNat = -1 ∨ ∃ k, k < ls ∧ Lr k = x) :
    ∃ Y : Nat → Int, ∀ j, j < hc → ∃ c ∈ cs, Hi j = ((c : Nat) : Int) ∧ ∀ x, inC M c x → (1 ≤ j ∧ x = Y j) ∨ P (ng x) ∨ (∃ k, k < ls ∧ Lr k = x) ∨ ∃ k, j < k ∧ k < hc ∧ Y k = ng x := by
  obtain ⟨-, -, -, c4, c5, -⟩ := hC
  have ex : ∀ k, ∃ y : Int, hc0 ≤ k → k < hc → ∃ p, p < ts ∧ Hi k = Rs (gt (T p)) ∧ Rs (gt (T p)) ≠ 0 ∧ y = T p := fun k => by
    by_cases h : hc0 ≤ k ∧ k < hc
    · obtain ⟨p, -, p2, p3, p4, -⟩ := c5 k h.1 h.2
      exact ⟨T p, fun _ _ => ⟨p, p2, p3, p4, rfl⟩⟩
    · exact ⟨0, fun a b => absurd ⟨a, b⟩ h⟩
  obtain ⟨Y, Yk⟩ : ∃ Y : Nat → Int, ∀ k, hc0 ≤ k → k < hc → ∃ p, p < ts ∧ Hi k = Rs (gt (T p)) ∧ Rs (gt (T p)) ≠ 0 ∧ Y k = T p := ⟨fun k => Classical.choose (ex k), fun k => Classical.choose_spec (ex k)⟩
  refine ⟨Y, fun j hj => ?_⟩
  obtain ⟨c, hm, he, hx⟩ := c4 j hj
  -- of what is denied
  have den : ∀ x, inC M c x → V x.toNat = -1 → P (ng x) ∨ (∃ k, k < ls ∧ Lr k = x) ∨ ∃ k, j < k ∧ k < hc ∧ Y k = ng x := fun x xi xv => by
    obtain ⟨i, hi, ei⟩ := TR_neg hT (hcl c hm x xi) xv
    rcases hx x xi xv with q | q | q | ⟨k, k1, k2, k3⟩
    · exact Or.inl (by rw [← ei]; exact hP i hi (by rw [ei, gt_ng]; exact q))
    · exact absurd (hS _) q
    · exact Or.inr (Or.inl q)
    · refine Or.inr (Or.inr ⟨k, k1, k2, ?_⟩)
      obtain ⟨p, p1, p2, p3, p4⟩ := Yk k (by omega) k2
      have e2 : gt (T i) = gt x := by rw [ei, gt_ng]
      have : i = p := TR_rs hT hi p1 (by rw [e2, ← k3, p2]) (by rw [e2, ← k3, p2]; exact p3)
      show Y k = _
      rw [p4, ← this, ei]
  refine ⟨c, hm, he, fun x xi => ?_⟩
  by_cases cj : hc0 ≤ j ∧ 1 ≤ j
  · obtain ⟨p, p1, p2, p3, p4⟩ := Yk j cj.1 hj
    by_cases ep : x = T p
    · exact Or.inl ⟨cj.2, by rw [ep]; exact p4.symm⟩
    · rcases hT.2.2.2.2.2.2.1 p p1 with q | ⟨c', m', e', -, o', -⟩
      · exact absurd q p3
      · have ec : c = c' := by rw [p2, e'] at he; omega
        subst ec
        obtain ⟨i, hi, ei⟩ := o' x xi ep
        have xv : V x.toNat = -1 := by
          have := (hT.1 i (by omega)).2.2
          rw [ei, ng_ng] at this
          exact this
        exact Or.inr (den x xi xv)
  · have j0 : j = 0 := by omega
    subst j0
    rcases h0 (by omega) c he x xi with q | q
    · exact Or.inr (den x xi q)
    · exact Or.inr (Or.inr (Or.inl q))
/-- what was traced follows from the clauses -/
theorem TC_imp {v : Nat → Bool} {Y : Nat → Int} (hcl : ∀ c ∈ cs, ∀ x, inC M c x → lit s x) (h1 : 1 ≤ hc) (hY : ∀ j, j < hc → ∃ c ∈ cs, Hi j = ((c : Nat) : Int) ∧ ∀ x, inC M c x → (1 ≤ j ∧ x = Y j) ∨ lvb v (ng x) = true ∨ (∃ k, k < ls ∧ Lr k = x) ∨ ∃ k, j < k ∧ k < hc ∧ Y k = ng x) (hv : ∀ c ∈ cs, sC M c v) : ∃ k, k < ls ∧ lvb v (Lr k) = true := by
  apply Decidable.byContradiction
  intro no
  have lf : ∀ k, k < ls → lvb v (Lr k) = false := fun k hk => by
    cases h : lvb v (Lr k) with
    | false => rfl
    | true => exact absurd ⟨k, hk, h⟩ no
  have up : ∀ m j, hc ≤ j + m → 1 ≤ j → j < hc → lvb v (Y j) = true := by
    intro m
    induction m with
    | zero => intro j a b c; omega
    | succ m ih =>
      intro j a b c
      obtain ⟨cl, hm, -, hx⟩ := hY j c
      obtain ⟨x, xi, xv⟩ := hv cl hm
      have lx := (hcl cl hm x xi).1
      rcases hx x xi with ⟨-, q⟩ | q | ⟨k, k1, k2⟩ | ⟨k, k1, k2, k3⟩
      · rw [← q]; exact xv
      · rw [lvb_ng lx, xv] at q; cases q
      · rw [← k2, lf k k1] at xv; cases xv
      · have := ih k (by omega) (by omega) k2
        rw [k3, lvb_ng lx, xv] at this; cases this
  obtain ⟨cl, hm, -, hx⟩ := hY 0 h1
  obtain ⟨x, xi, xv⟩ := hv cl hm
  have lx := (hcl cl hm x xi).1
  rcases hx x xi with ⟨q, -⟩ | q | ⟨k, k1, k2⟩ | ⟨k, k1, k2, k3⟩
  · omega
  · rw [lvb_ng lx, xv] at q; cases q
  · rw [← k2, lf k k1] at xv; cases xv
  · have := up hc k (by omega) (by omega) k2
    rw [k3, lvb_ng lx, xv] at this; cases this
/-- facts without a reason -/
def U0 (Gm : (Nat → Bool) → Prop) (ts : Nat) (L Rs T : Nat → Int) : Prop := ∀ v, Gm v → ∀ i, i < ts → L (gt (T i)) = 0 → Rs (gt (T i)) = 0 → lvb v (T i) = true
/-- what stands on the trail follows from the decisions up to its level -/
theorem TR_snd {Gm : (Nat → Bool) → Prop} (hT : TRp s ts lv M cs V L Rs T St) (hcl : ∀ c ∈ cs, ∀ x, inC M c x → lit s x) (hS : SND Gm M cs) (hU : U0 Gm ts L Rs T) {v : Nat → Bool} (hv : Gm v) : ∀ m i, i ≤ m → i < ts → (∀ k : Nat, 1 ≤ k → (k : Int) ≤ L (gt (T i)) → lvb v (T (St k).toNat) = true) → lvb v (T i) = true := by
  intro m
  induction m with
  | zero =>
    intro i hi hts hd
    have i0 : i = 0 := by omega
    subst i0
    by_cases r : Rs (gt (T 0)) = 0
    · by_cases l0 : L (gt (T 0)) = 0
      · exact hU v hv 0 hts l0 r
      · have lb := hT.2.2.2.1 0 hts
        have e := (hT.2.2.2.2.2.2.2 0 hts (by omega)).mp r
        have := hd (L (gt (T 0))).toNat (by omega) (by omega)
        rw [← e] at this
        exact this
    · rcases hT.2.2.2.2.2.2.1 0 hts with q | ⟨c, hm, e, ci, co, -⟩
      · exact absurd q r
      · obtain ⟨x, xi, xv⟩ := hS v hv c hm
        by_cases ex : x = T 0
        · rw [← ex]; exact xv
        · obtain ⟨j, hj, -⟩ := co x xi ex
          omega
  | succ m ih =>
    intro i hi hts hd
    by_cases r : Rs (gt (T i)) = 0
    · by_cases l0 : L (gt (T i)) = 0
      · exact hU v hv i hts l0 r
      · have lb := hT.2.2.2.1 i hts
        have e := (hT.2.2.2.2.2.2.2 i hts (by omega)).mp r
        have := hd (L (gt (T i))).toNat (by omega) (by omega)
        rw [← e, Int.toNat_natCast] at this
        exact this
    · rcases hT.2.2.2.2.2.2.1 i hts with q | ⟨c, hm, e, ci, co, -⟩
      · exact absurd q r
      · obtain ⟨x, xi, xv⟩ := hS v hv c hm
        by_cases ex : x = T i
        · rw [← ex]; exact xv
        · obtain ⟨j, hj, ej⟩ := co x xi ex
          have jt := ih j (by omega) (by omega) (fun k k1 k2 => hd k k1 (by have := TR_mono hT (Nat.le_of_lt hj) hts; omega))
          rw [ej, lvb_ng (hcl c hm x xi).1, xv] at jt
          cases jt
/-- facts hold in every model -/
theorem TR_fact {Gm : (Nat → Bool) → Prop} (hT : TRp s ts lv M cs V L Rs T St) (hcl : ∀ c ∈ cs, ∀ x, inC M c x → lit s x) (hS : SND Gm M cs) (hU : U0 Gm ts L Rs T) {v : Nat → Bool} (hv : Gm v) {i : Nat} (hi : i < ts) (h0 : L (gt (T i)) = 0) : lvb v (T i) = true :=
  TR_snd hT hcl hS hU hv i i (Nat.le_refl _) hi (fun k k1 k2 => by omega)
/-- a clause whose literals are all denied without a decision: no model -/
theorem no_model {Gm : (Nat → Bool) → Prop} {c : Nat} (hT : TRp s ts 0 M cs V L Rs T St) (hcl : ∀ c ∈ cs, ∀ x, inC M c x → lit s x) (hS : SND Gm M cs) (hU : U0 Gm ts L Rs T) (hm : c ∈ cs) (hd : ∀ x, inC M c x → V x.toNat = -1) (v : Nat → Bool) : ¬ Gm v := by
  intro hv
  obtain ⟨x, xi, xv⟩ := hS v hv c hm
  obtain ⟨i, hi, ei⟩ := TR_neg hT (hcl c hm x xi) (hd x xi)
  have lb := hT.2.2.2.1 i hi
  have := TR_fact hT hcl hS hU hv hi (by omega)
  rw [ei, lvb_ng (hcl c hm x xi).1, xv] at this
  cases this
end RuP
