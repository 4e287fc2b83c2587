/-! Masks of wishes; decisions are wishes -/
def mkm (P : Nat → Bool) : Nat → Nat
  | 0 => 0
  | n + 1 => mkm P n + if P n then 2 ^ n else 0
theorem mkm_lt {P : Nat → Bool} : ∀ n, mkm P n < 2 ^ n
  | 0 => show (0 : Nat) < 2 ^ 0 by decide
  | n + 1 => by
    have := mkm_lt (P := P) n
    show mkm P n + (if P n then 2 ^ n else 0) < 2 ^ (n + 1)
    rw [Nat.pow_succ]
    split <;> omega
theorem mkm_inj {P Q : Nat → Bool} : ∀ n, mkm P n = mkm Q n → ∀ i, i < n → P i = Q i
  | 0, _, i, hi => absurd hi (Nat.not_lt_zero _)
  | n + 1, h, i, hi => by
    have p := mkm_lt (P := P) n
    have q := mkm_lt (P := Q) n
    have h : mkm P n + (if P n then 2 ^ n else 0) = mkm Q n + (if Q n then 2 ^ n else 0) := h
    have e : P n = Q n ∧ mkm P n = mkm Q n := by
      cases hp : P n <;> cases hq : Q n <;> simp [hp, hq] at h ⊢
      · exact h
      · omega
      · omega
      · exact h
    by_cases c : i = n
    · rw [c]; exact e.1
    · exact mkm_inj n e.2 i (by omega)
/-- the far clauses, by their masks: each of them stands among the clauses -/
def FM (wc : Nat) (w M : Nat → Int) (cs : List Nat) (F : List Nat) : Prop := F.Nodup ∧ ∀ m ∈ F, ∃ P : Nat → Bool, m = mkm P wc ∧ ∃ c ∈ cs, 2 ≤ M c ∧ ∀ x, inC M c x ↔ ∃ i, i < wc ∧ P i = true ∧ x = ng (w i)
theorem FM_len {wc : Nat} {w M : Nat → Int} {cs F : List Nat} (hw : wc ≤ 12) (h : FM wc w M cs F) : F.length ≤ 4096 := by
  refine nd_len h.1 (fun m hm => ?_)
  obtain ⟨P, e, -⟩ := h.2 m hm
  have := mkm_lt (P := P) wc
  have : 2 ^ wc ≤ 2 ^ 12 := Nat.pow_le_pow_right (by decide) hw
  omega
theorem FM_keep {wc : Nat} {w M M' : Nat → Int} {cs cs' F : List Nat} (h : FM wc w M cs F) (hs : ∀ c ∈ cs, c ∈ cs' ∧ M' c = M c ∧ ∀ x, inC M' c x ↔ inC M c x) : FM wc w M' cs' F := by
  refine ⟨h.1, fun m hm => ?_⟩
  obtain ⟨P, e, c, hc, h2, h3⟩ := h.2 m hm
  obtain ⟨a, b, d⟩ := hs c hc
  exact ⟨P, e, c, a, by rw [b]; exact h2, fun x => (d x).trans (h3 x)⟩
/-- one far clause more: its mask is new -/
theorem FM_new {wc : Nat} {w M M' : Nat → Int} {cs cs' F : List Nat} {c' : Nat} (h : FM wc w M cs F) (hs : ∀ c ∈ cs, c ∈ cs' ∧ M' c = M c ∧ ∀ x, inC M' c x ↔ inC M c x) (hc' : c' ∈ cs') (h2 : 2 ≤ M' c') (hw : ∀ x, inC M' c' x → ∃ i, i < wc ∧ x = ng (w i)) (hn : ∀ a ∈ cs, 2 ≤ M a → ¬ ∀ x, inC M a x → inC M' c' x) : ∃ m, FM wc w M' cs' (m :: F) := by
  classical
  let P : Nat → Bool := fun i => decide (inC M' c' (ng (w i)))
  have k := FM_keep h hs
  refine ⟨mkm P wc, List.nodup_cons.mpr ⟨fun hm => ?_, h.1⟩, fun m hm => ?_⟩
  · obtain ⟨R, e, c, hc, g2, g3⟩ := h.2 _ hm
    have inj := mkm_inj wc e
    refine hn c hc g2 (fun x hx => ?_)
    obtain ⟨i, hi, r, ex⟩ := (g3 x).mp hx
    have := inj i hi
    rw [r] at this
    rw [ex]
    exact of_decide_eq_true this
  · rcases List.mem_cons.mp hm with e | hm
    · refine ⟨P, e, c', hc', h2, fun x => ⟨fun hx => ?_, fun ⟨i, hi, r, ex⟩ => ?_⟩⟩
      · obtain ⟨i, hi, ex⟩ := hw x hx
        exact ⟨i, hi, decide_eq_true (by rw [← ex]; exact hx), ex⟩
      · rw [ex]; exact of_decide_eq_true r
    · exact k.2 m hm
