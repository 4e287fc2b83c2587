/-! longs that hold WORK -/
theorem l_add {a b : Int64} {m n : Nat} (ha : a.toInt = (m : Int)) (hb : b.toInt = (n : Int)) (h : m + n < 1000000000000) : (a + b).toInt = ((m + n : Nat) : Int) := by
  rw [Int64.toInt_add, ha, hb]
  rw [Int.bmod_def]
  split <;> omega
theorem l_mul {a b : Int64} {m n : Nat} (ha : a.toInt = (m : Int)) (hb : b.toInt = (n : Int)) (h : m * n < 1000000000000) : (a * b).toInt = ((m * n : Nat) : Int) := by
  rw [Int64.toInt_mul, ha, hb, ← Int.natCast_mul]
  generalize m * n = k at h
  rw [Int.bmod_def]
  split <;> omega
theorem l_of {x : Int} (h : 0 ≤ x ∧ x < 100000000) : ((zI x).toInt64).toInt = ((x.toNat : Nat) : Int) := by
  rw [Int32.toInt_toInt64, zI_toInt ⟨by omega, by omega⟩]
  omega
theorem l_most {a : Int64} {m : Nat} (ha : a.toInt = (m : Int)) : (if 1000000 < a then (1000000 : Int64) else a).toInt = ((min m 1000000 : Nat) : Int) := by
  by_cases c : (1000000 : Int64) < a
  · rw [if_pos c]
    have := Int64.lt_iff_toInt_lt.mp c
    have e : (1000000 : Int64).toInt = 1000000 := by decide
    rw [ha, e] at this
    rw [e]; omega
  · rw [if_neg c]
    have e : (1000000 : Int64).toInt = 1000000 := by decide
    have : ¬ (1000000 : Int) < (m : Int) := fun q => c (Int64.lt_iff_toInt_lt.mpr (by rw [ha, e]; exact q))
    rw [ha]; omega
/-- all items are 1 to 8 wide -/
def wI (l : List q_It) : Prop := ∀ x, x ∈ l → 1 ≤ x.2.2 ∧ x.2.2 ≤ 8
theorem wI_app {a b : List q_It} : wI (a ++ b) ↔ wI a ∧ wI b := by
  unfold wI
  constructor
  · intro h; exact ⟨fun x hx => h x (List.mem_append.mpr (Or.inl hx)), fun x hx => h x (List.mem_append.mpr (Or.inr hx))⟩
  · intro h x hx
    rcases List.mem_append.mp hx with q | q
    · exact h.1 x q
    · exact h.2 x q
section WkP
variable {N : Nat} {So A Bc Cc Wd : Nat → Int}
theorem NEb_w {P : Nat → q_Ex → Prop} {n : Nat} {e : q_Ex} (h : NEb N So A Bc Cc Wd P n e) (hw : wI e.1) : 1 ≤ e.2.1 ∧ e.2.1 ≤ 8 := by
  obtain ⟨-, -, h | h | ⟨u, n1, e1, -, -, -, -, f⟩ | ⟨n1, n2, n3, e1, e2, e3, -, -, -, -, -, -, -, f⟩⟩ := h
  · exact hw (23, A n, e.2.1) (by rw [h.2.2]; simp)
  · rcases h.2.2 with q | q
    · exact hw (24, A n, e.2.1) (by rw [q.2]; simp)
    · exact hw (25, A n, e.2.1) (by rw [q.2]; simp)
  · subst f; exact hw (u, 0, uW u e1.2.1) (by unfold eU; simp)
  · subst f; exact hw (22, 0, max e2.2.1 e3.2.1) (by unfold eC; simp)
theorem NEs_w {P : Nat → q_Ex → Prop} : ∀ (m n : Nat) (e : q_Ex), NEs N So A Bc Cc Wd P m n e → wI e.1 → 1 ≤ e.2.1 ∧ e.2.1 ≤ 8
  | 0, _, _, h, hw => NEb_w h hw
  | m + 1, n, e, h, hw => by
    obtain ⟨-, -, u, n1, n2, e1, e2, -, -, -, -, -, -, f⟩ := h
    subst f; exact hw (u, 0, oW u e1.2.1 e2.2.1) (by unfold eB; simp)
theorem NE_w (k n : Nat) (e : q_Ex) (h : NE N So A Bc Cc Wd k n e) (hw : wI e.1) : 1 ≤ e.2.1 ∧ e.2.1 ≤ 8 := by
  cases k with
  | zero => exact False.elim h
  | succ k => obtain ⟨m, h⟩ := h; exact NEs_w m n e h hw
end WkP
