/-! DECLARATIONS: the reference's tables -/
def MT (s L : Nat) (K P v : Nat → Int) (σ : q_H) : Prop :=
  ((s = 110 ∨ s = 116) ∧ q_r σ 94 32 = s ∧ q_r σ 94 33 = s + 1 ∧ q_r σ 94 34 = s + 2 ∧ q_r σ 94 35 = s + 3 ∧ q_r σ 94 36 = s + 4 ∧ q_r σ 94 37 = s + 5) ∧ L ≤ 4096 ∧
  (∀ i, i ≤ L → z σ 96 i = kmp (K i) ∧ z σ 97 i = P i ∧ (1 ≤ K i ∧ K i ≤ 47) ∧ kmp (K i) ≠ 0) ∧ (K L = 46 ∨ K L = 47) ∧ (∀ i, i < L → K i ≠ 46 ∧ K i ≠ 47) ∧ (∀ i j, i < j → j ≤ L → P i < P j) ∧
  (∀ i, i ≤ L → K i = 23 → z σ 98 i = v i ∧ (0 ≤ v i ∧ v i ≤ 255))
def NR (K v : Nat → Int) (σ : q_H) (i : Nat) : q_It :=
  if K i = 23 then (23, v i, lwd (v i)) else if lkM σ (q_l σ 99 i) = -1 then (23, 0, 1) else (if z σ 103 (lkM σ (q_l σ 99 i)).toNat = 1 then 24 else 25, z σ 104 (lkM σ (q_l σ 99 i)).toNat, z σ 105 (lkM σ (q_l σ 99 i)).toNat)
def BR (K : Nat → Int) (σ : q_H) (i : Nat) : Bool := decide (K i = 23 ∨ lkM σ (q_l σ 99 i) ≠ -1)
/-- the table's entries are as they must be -/
def TB (n : Nat) (σ : q_H) : Prop := z σ 94 17 = (n : Int) ∧ n ≤ 24 ∧ ∀ k, k < n → (z σ 103 k = 1 ∨ z σ 103 k = 0) ∧ (0 ≤ z σ 104 k ∧ z σ 104 k < 12) ∧ (1 ≤ z σ 105 k ∧ z σ 105 k ≤ 8)
theorem MC_R {s L n : Nat} {K P v : Nat → Int} {σ : q_H} (h : MT s L K P v σ) (g : TB n σ) : MC s L K P (NR K v σ) (BR K σ) σ := by
  obtain ⟨a, b, c, d, e, f, i⟩ := h
  obtain ⟨g1, g2, g3⟩ := g
  refine ⟨a, b, c, d, e, f, ⟨by omega, by omega⟩, fun j hj hk => ?_, fun j hj hk => ?_⟩
  · obtain ⟨i1, i2⟩ := i j hj hk
    unfold NR BR
    rw [if_pos hk, i1]
    exact ⟨rfl, i2, decide_eq_true (Or.inl hk)⟩
  · have n23 : ¬ K j = 23 := by omega
    have r := fnV_R (x := q_l σ 99 j) (g := q_l σ 102) (n := (z σ 94 17).toNat) 400 0
    unfold NR BR
    rw [if_neg n23]
    show _ ∨ _
    by_cases q : lkM σ (q_l σ 99 j) = -1
    · rw [if_pos q]
      exact Or.inl ⟨decide_eq_false (fun w => w.elim n23 (fun w => w q)), q, rfl⟩
    · rw [if_neg q]
      have r' : (0 : Int) ≤ lkM σ (q_l σ 99 j) ∧ lkM σ (q_l σ 99 j) < (n : Int) := by
        rcases r with r | r
        · exact absurd r q
        · have r2 : (((0 : Nat) : Int) ≤ lkM σ (q_l σ 99 j) ∧ lkM σ (q_l σ 99 j) < ((z σ 94 17).toNat : Int)) := ⟨r.1, r.2.1⟩
          omega
      obtain ⟨t1, t2, t3⟩ := g3 (lkM σ (q_l σ 99 j)).toNat (by omega)
      refine Or.inr ⟨decide_eq_true (Or.inr q), r'.1, t3, t2, ?_⟩
      rcases t1 with t1 | t1
      · rw [if_pos t1]; exact Or.inl ⟨t1, rfl⟩
      · rw [if_neg (by omega)]; exact Or.inr ⟨t1, rfl⟩
/-- what holds of DECLARATIONS that were read -/
def DP (K : Nat → Int) (C : Nat → Int64) (t : Nat) (D : q_Ds) : Prop :=
  (D.1.length ≤ bts D.1 ∧ bts D.1 ≤ 12) ∧ D.2.1.length ≤ 12 ∧ (∀ e, e ∈ D.1 ∨ e ∈ D.2.1 → (1 ≤ e.2 ∧ e.2 ≤ 8) ∧ K e.1 = 30 ∧ e.1 < t) ∧
  (∀ (i j : Nat) (e f : Nat × Nat), D.1[i]? = some e → D.1[j]? = some f → C e.1 = C f.1 → i = j) ∧ (∀ (i j : Nat) (e f : Nat × Nat), D.2.1[i]? = some e → D.2.1[j]? = some f → C e.1 = C f.1 → i = j) ∧ (∀ e f, e ∈ D.1 → f ∈ D.2.1 → C e.1 ≠ C f.1) ∧ ∀ x, D.2.2 = some x → x.2 < t
theorem DP_0 {K : Nat → Int} {C : Nat → Int64} {t : Nat} : DP K C t ([], [], none) :=
  ⟨⟨by decide, by decide⟩, by decide, (fun e h => by rcases h with h | h <;> cases h), (fun i j e f h => by simp at h), (fun i j e f h => by simp at h), (fun e f h => by cases h), (fun x h => by cases h)⟩
theorem inj_app {C : Nat → Int64} {l : List (Nat × Nat)} {a : Nat × Nat} (h : ∀ (i j : Nat) (e f : Nat × Nat), l[i]? = some e → l[j]? = some f → C e.1 = C f.1 → i = j) (g : ∀ e, e ∈ l → C e.1 ≠ C a.1) : ∀ (i j : Nat) (e f : Nat × Nat), (l ++ [a])[i]? = some e → (l ++ [a])[j]? = some f → C e.1 = C f.1 → i = j := fun i j e f q1 q2 q3 => by
  rcases app_get q1 with ⟨a1, b1⟩ | ⟨a1, b1⟩ <;> rcases app_get q2 with ⟨a2, b2⟩ | ⟨a2, b2⟩
  · exact h i j e f b1 b2 q3
  · rw [b2] at q3; exact absurd q3 (g e (List.mem_of_getElem? b1))
  · rw [b1] at q3; exact absurd q3.symm (g f (List.mem_of_getElem? b2))
  · omega
theorem DP_add {K v : Nat → Int} {C : Nat → Int64} {t : Nat} {D : q_Ds} (h : DP K C t D) (h1 : K (t + 1) = 30) : DP K C (t + 5) (dAdd K v C t D) := by
  obtain ⟨a, b, c, e, f, g, i⟩ := id h
  have nt : ∀ (k : Int) (y : Nat), y < t + 5 → DP K C (t + 5) (D.1, D.2.1, D.2.2.or (some (k, y))) := fun k y hy => by
    refine ⟨a, b, fun x hx => ?_, e, f, g, fun x hx => ?_⟩
    · obtain ⟨q1, q2, q3⟩ := c x hx
      exact ⟨q1, q2, by omega⟩
    · cases q : D.2.2 with
      | none =>
        have hx' : D.2.2.or (some (k, y)) = some x := hx
        rw [q] at hx'
        cases hx'
        exact hy
      | some x2 =>
        have hx' : D.2.2.or (some (k, y)) = some x := hx
        rw [q] at hx'
        cases hx'
        have := i x q
        omega
  have old : ∀ x, D.2.2 = some x → x.2 < t + 5 := fun x hx => by have := i x hx; omega
  unfold dAdd
  split
  · exact nt _ _ (by omega)
  · next nd =>
    have nd1 : ∀ x, x ∈ D.1 → C x.1 ≠ C (t + 1) := fun x hx q => nd (by rw [dupB_t.mpr ⟨x, hx, q⟩]; rfl)
    have nd2 : ∀ x, x ∈ D.2.1 → C x.1 ≠ C (t + 1) := fun x hx q => nd (by rw [dupB_t.mpr ⟨x, hx, q⟩]; exact Bool.or_true _)
    split
    · exact nt _ _ (by omega)
    · next hv =>
      split
      · split
        · exact nt _ _ (by omega)
        · next hb =>
          refine ⟨⟨?_, ?_⟩, b, fun x hx => ?_, inj_app e nd1, f, fun x y hx hy => ?_, old⟩
          · show (D.1 ++ [_]).length ≤ bts (D.1 ++ [_])
            rw [List.length_append, bts_app]
            show D.1.length + 1 ≤ bts D.1 + (v (t + 3)).toNat
            omega
          · show bts (D.1 ++ [_]) ≤ 12
            rw [bts_app]
            show bts D.1 + (v (t + 3)).toNat ≤ 12
            omega
          · have hx' : x ∈ D.1 ++ [(t + 1, (v (t + 3)).toNat)] ∨ x ∈ D.2.1 := hx
            rcases hx' with q | q
            · rcases List.mem_append.mp q with q | q
              · obtain ⟨q1, q2, q3⟩ := c x (Or.inl q)
                exact ⟨q1, q2, by omega⟩
              · rw [List.mem_singleton.mp q]
                exact ⟨⟨by show 1 ≤ (v (t + 3)).toNat; omega, by show (v (t + 3)).toNat ≤ 8; omega⟩, h1, by show t + 1 < t + 5; omega⟩
            · obtain ⟨q1, q2, q3⟩ := c x (Or.inr q)
              exact ⟨q1, q2, by omega⟩
          · rcases List.mem_append.mp hx with q | q
            · exact g x y q hy
            · rw [List.mem_singleton.mp q]; exact fun w => nd2 y hy w.symm
      · split
        · exact nt _ _ (by omega)
        · next hb =>
          refine ⟨a, ?_, fun x hx => ?_, e, inj_app f nd2, fun x y hx hy => ?_, old⟩
          · show (D.2.1 ++ [_]).length ≤ 12
            rw [List.length_append]
            show D.2.1.length + 1 ≤ 12
            omega
          · have hx' : x ∈ D.1 ∨ x ∈ D.2.1 ++ [(t + 1, (v (t + 3)).toNat)] := hx
            rcases hx' with q | q
            · obtain ⟨q1, q2, q3⟩ := c x (Or.inl q)
              exact ⟨q1, q2, by omega⟩
            · rcases List.mem_append.mp q with q | q
              · obtain ⟨q1, q2, q3⟩ := c x (Or.inr q)
                exact ⟨q1, q2, by omega⟩
              · rw [List.mem_singleton.mp q]
                exact ⟨⟨by show 1 ≤ (v (t + 3)).toNat; omega, by show (v (t + 3)).toNat ≤ 8; omega⟩, h1, by show t + 1 < t + 5; omega⟩
          · rcases List.mem_append.mp hy with q | q
            · exact g x y hx q
            · rw [List.mem_singleton.mp q]; exact fun w => nd1 x hx w
/-- what the reference's tables say of them -/
def DR (D : q_Ds) (σ : q_H) : Prop :=
  (z σ 94 17 = ((D.1.length + D.2.1.length : Nat) : Int) ∧ z σ 94 18 = (D.1.length : Int) ∧ z σ 94 19 = (D.2.1.length : Int) ∧ z σ 94 20 = (bts D.1 : Int)) ∧
  (∀ k, k < D.1.length + D.2.1.length → (z σ 103 k = 1 ∧ ∃ (j : Nat) (e : Nat × Nat), D.1[j]? = some e ∧ z σ 104 k = (j : Int) ∧ z σ 105 k = (e.2 : Int) ∧ q_l σ 102 k = q_l σ 99 e.1) ∨ (z σ 103 k = 0 ∧ ∃ (j : Nat) (e : Nat × Nat), D.2.1[j]? = some e ∧ z σ 104 k = (j : Int) ∧ z σ 105 k = (e.2 : Int) ∧ q_l σ 102 k = q_l σ 99 e.1)) ∧
  (∀ e, e ∈ D.1 ∨ e ∈ D.2.1 → ∃ k, k < D.1.length + D.2.1.length ∧ q_l σ 102 k = q_l σ 99 e.1) ∧ (∀ j e, D.1[j]? = some e → z σ 108 j = (e.2 : Int)) ∧ (∀ j e, D.2.1[j]? = some e → z σ 109 j = (e.2 : Int))
section RdP
variable {s L : Nat} {K P v : Nat → Int} {C : Nat → Int64} {σ : q_H} {D : q_Ds} {t : Nat}
theorem DR_TB (h : DR D σ) (g : DP K C t D) : TB (D.1.length + D.2.1.length) σ := by
  obtain ⟨⟨h17, -⟩, hk, -⟩ := h
  obtain ⟨⟨a, b⟩, c, d, -⟩ := g
  refine ⟨h17, by omega, fun k hkk => ?_⟩
  rcases hk k hkk with ⟨q, j, e, q1, q2, q3, -⟩ | ⟨q, j, e, q1, q2, q3, -⟩
  · obtain ⟨lt, -⟩ := List.getElem?_eq_some_iff.mp q1
    have w := d e (Or.inl (List.mem_of_getElem? q1))
    exact ⟨Or.inl q, ⟨by omega, by omega⟩, ⟨by omega, by omega⟩⟩
  · obtain ⟨lt, -⟩ := List.getElem?_eq_some_iff.mp q1
    have w := d e (Or.inr (List.mem_of_getElem? q1))
    exact ⟨Or.inr q, ⟨by omega, by omega⟩, ⟨by omega, by omega⟩⟩
/-- who is found -/
theorem DR_lk (h : DR D σ) (g : DP K C t D) (x : Int64) : (lkM σ x = -1 ∧ ∀ e, e ∈ D.1 ∨ e ∈ D.2.1 → q_l σ 99 e.1 ≠ x) ∨ (∃ k : Nat, k < D.1.length + D.2.1.length ∧ lkM σ x = (k : Int) ∧ q_l σ 102 k = x) := by
  obtain ⟨⟨h17, -⟩, -, he, -⟩ := h
  obtain ⟨⟨a, b⟩, c, -⟩ := g
  rcases fnV_spec (x := x) (g := q_l σ 102) (n := (z σ 94 17).toNat) 400 0 with ⟨q1, q2⟩ | ⟨j, q1, q2, q3, q4, q5, q6⟩
  · refine Or.inl ⟨q1, fun e hh w => ?_⟩
    obtain ⟨k, k1, k2⟩ := he e hh
    exact q2 k (by omega) (by omega) (by omega) (k2.trans w)
  · exact Or.inr ⟨j, by omega, q1, q5⟩
theorem DR_dup {y : Nat} (h : DR D σ) (g : DP K C t D) (hC : ∀ i j, K i = 30 → K j = 30 → i ≤ L → j ≤ L → (C i = C j ↔ q_l σ 99 i = q_l σ 99 j)) (hy : K y = 30 ∧ y ≤ L) (ht : t ≤ L) : lkM σ (q_l σ 99 y) = -1 ↔ (dupB C D.1 y || dupB C D.2.1 y) = false := by
  have iff : ∀ e, e ∈ D.1 ∨ e ∈ D.2.1 → (C e.1 = C y ↔ q_l σ 99 e.1 = q_l σ 99 y) := fun e he => by
    obtain ⟨-, q2, q3⟩ := g.2.2.1 e he
    exact hC _ _ q2 hy.1 (by omega) hy.2
  rw [Bool.or_eq_false_iff, ← Bool.not_eq_true, ← Bool.not_eq_true, dupB_t, dupB_t]
  rcases DR_lk h g (q_l σ 99 y) with ⟨q1, q2⟩ | ⟨k, q1, q2, q3⟩
  · exact ⟨fun _ => ⟨fun ⟨e, w1, w2⟩ => q2 e (Or.inl w1) ((iff e (Or.inl w1)).mp w2), fun ⟨e, w1, w2⟩ => q2 e (Or.inr w1) ((iff e (Or.inr w1)).mp w2)⟩, fun _ => q1⟩
  · refine ⟨fun w => absurd (q2.symm.trans w) (by omega), fun ⟨w1, w2⟩ => ?_⟩
    exfalso
    rcases h.2.1 k q1 with ⟨-, j, e, r1, -, -, r2⟩ | ⟨-, j, e, r1, -, -, r2⟩
    · have m := List.mem_of_getElem? r1
      exact w1 ⟨e, m, (iff e (Or.inl m)).mpr (r2.symm.trans q3)⟩
    · have m := List.mem_of_getElem? r1
      exact w2 ⟨e, m, (iff e (Or.inr m)).mpr (r2.symm.trans q3)⟩
end RdP
