/-! an EXPR that stands in nodes is worth a number of its WIDTH -/
def vI (I U : Nat → Nat) (l : List q_It) : Prop := ∀ x, x ∈ l → (x.1 = 23 → 0 ≤ x.2.1 ∧ x.2.1.toNat < 2 ^ x.2.2.toNat) ∧ (x.1 = 24 → I x.2.1.toNat < 2 ^ x.2.2.toNat) ∧ (x.1 = 25 → U x.2.1.toNat < 2 ^ x.2.2.toNat)
section NvP
variable {I U : Nat → Nat} {N : Nat} {So A Bc Cc Wd : Nat → Int}
theorem vI_app {a b : List q_It} : vI I U (a ++ b) ↔ vI I U a ∧ vI I U b := by
  unfold vI
  constructor
  · intro h; exact ⟨fun x hx => h x (List.mem_append.mpr (Or.inl hx)), fun x hx => h x (List.mem_append.mpr (Or.inr hx))⟩
  · intro h x hx
    rcases List.mem_append.mp hx with q | q
    · exact h.1 x q
    · exact h.2 x q
theorem NEb_ev {P : Nat → q_Ex → Prop} (hP : ∀ n e, P n e → wI e.1 → vI I U e.1 → (1 ≤ e.2.1 ∧ e.2.1 ≤ 8) ∧ ∃ v, EV I U e.1 v ∧ v < 2 ^ e.2.1.toNat) {n : Nat} {e : q_Ex} (h : NEb N So A Bc Cc Wd P n e) (hw : wI e.1) (hv : vI I U e.1) : ∃ v, EV I U e.1 v ∧ v < 2 ^ e.2.1.toNat := by
  obtain ⟨-, -, h | h | ⟨u, n1, e1, hu, -, -, f, g⟩ | ⟨n1, n2, n3, e1, e2, e3, -, -, -, -, f1, f2, f3, g⟩⟩ := h
  · have e1 : e.1 = [(23, A n, e.2.1)] := by rw [h.2.2]
    rw [e1] at hv ⊢
    exact ⟨_, EV_num, ((hv _ (List.mem_singleton.mpr rfl)).1 rfl).2⟩
  · rcases h.2.2 with q | q
    · have e1 : e.1 = [(24, A n, e.2.1)] := by rw [q.2]
      rw [e1] at hv ⊢
      exact ⟨_, EV_inp, (hv _ (List.mem_singleton.mpr rfl)).2.1 rfl⟩
    · have e1 : e.1 = [(25, A n, e.2.1)] := by rw [q.2]
      rw [e1] at hv ⊢
      exact ⟨_, EV_var, (hv _ (List.mem_singleton.mpr rfl)).2.2 rfl⟩
  · subst g
    have w1 := (wI_app.mp hw).1
    have v1 := (vI_app.mp hv).1
    obtain ⟨b, x, x1, x2⟩ := hP n1 e1 f w1 v1
    exact ⟨_, EV_one x1 hu, op1_lt b x2⟩
  · subst g
    have w0 := wI_app.mp (wI_app.mp hw).1
    have v0 := vI_app.mp (vI_app.mp hv).1
    have w12 := wI_app.mp w0.1
    have v12 := vI_app.mp v0.1
    obtain ⟨b1, x, x1, x2⟩ := hP n1 e1 f1 w12.1 v12.1
    obtain ⟨b2, y, y1, y2⟩ := hP n2 e2 f2 w12.2 v12.2
    obtain ⟨b3, c, c1, c2⟩ := hP n3 e3 f3 w0.2 v0.2
    refine ⟨_, EV_cho x1 y1 c1, ?_⟩
    show (if x ≠ 0 then y else c) < 2 ^ (max e2.2.1 e3.2.1).toNat
    split
    · exact Nat.lt_of_lt_of_le y2 (Nat.pow_le_pow_right (by decide) (by omega))
    · exact Nat.lt_of_lt_of_le c2 (Nat.pow_le_pow_right (by decide) (by omega))
theorem NEs_ev {P : Nat → q_Ex → Prop} (hP : ∀ n e, P n e → wI e.1 → vI I U e.1 → (1 ≤ e.2.1 ∧ e.2.1 ≤ 8) ∧ ∃ v, EV I U e.1 v ∧ v < 2 ^ e.2.1.toNat) : ∀ (m n : Nat) (e : q_Ex), NEs N So A Bc Cc Wd P m n e → wI e.1 → vI I U e.1 → ∃ v, EV I U e.1 v ∧ v < 2 ^ e.2.1.toNat
  | 0, _, _, h, hw, hv => NEb_ev hP h hw hv
  | m + 1, n, e, h, hw, hv => by
    obtain ⟨-, -, u, n1, n2, e1, e2, hu, -, -, -, g1, g2, g⟩ := h
    subst g
    have w0 := wI_app.mp (wI_app.mp hw).1
    have v0 := vI_app.mp (vI_app.mp hv).1
    have b1 := NEs_w m n1 e1 g1 w0.1
    obtain ⟨x, x1, x2⟩ := NEs_ev hP m n1 e1 g1 w0.1 v0.1
    obtain ⟨b2, y, y1, y2⟩ := hP n2 e2 g2 w0.2 v0.2
    exact ⟨_, EV_two x1 y1 hu, op2_lt b1 b2 hu x2 y2⟩
theorem NE_ev : ∀ (k n : Nat) (e : q_Ex), NE N So A Bc Cc Wd k n e → wI e.1 → vI I U e.1 → (1 ≤ e.2.1 ∧ e.2.1 ≤ 8) ∧ ∃ v, EV I U e.1 v ∧ v < 2 ^ e.2.1.toNat
  | 0, _, _, h, _, _ => False.elim h
  | k + 1, n, e, h, hw, hv => by
    have b := NE_w (k + 1) n e h hw
    obtain ⟨m, h⟩ := h
    exact ⟨b, NEs_ev (fun n e q w v => NE_ev k n e q w v) m n e h hw hv⟩
end NvP
