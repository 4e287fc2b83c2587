/-! The reference builds -/
/-- its references: tables in use from s on, the others from u on -/
def RV (s u : Nat) (σ : q_H) : Prop := RQ s σ ∧ ((u = 110 ∨ u = 116) ∧ q_r σ 94 38 = u ∧ q_r σ 94 39 = u + 1 ∧ q_r σ 94 40 = u + 2 ∧ q_r σ 94 41 = u + 3 ∧ q_r σ 94 42 = u + 4 ∧ q_r σ 94 43 = u + 5) ∧ s ≠ u
/-- cells and fields that building changes -/
def SRb (u : Nat) : List Nat := [94, u, u + 1, u + 2, u + 3, u + 4, u + 5, 96, 97, 98, 99, 102, 103, 104, 105, 108, 109]
def R94 (o k : Nat) : Prop := o = 94 ∧ 32 ≤ k ∧ k ≤ 43
def KF : List Nat := [7, 8, 9, 10, 17, 18, 19, 20, 21, 44, 48, 49]
section RbP
variable {ω : q_W} {d s u : Nat} {σ : q_H}
theorem zr_if {σ : q_H} {o k x a j : Nat} : q_r (zr σ o k x) a j = if a = o ∧ j = k then x else q_r σ a j := by
  split
  · next c => rw [c.1, c.2, zr_s]
  · next c =>
    by_cases h : a = o
    · subst h; exact zr_k (fun e => c ⟨rfl, e⟩)
    · exact zr_o h
def swq9 (σ : q_H) (s u : Nat) : q_H := zr (zr (zr (zr (zr (zr (zr (zr (zr (zr (zr (zr σ 94 32 u) 94 38 s) 94 33 (u + 1)) 94 39 (s + 1)) 94 34 (u + 2)) 94 40 (s + 2)) 94 35 (u + 3)) 94 41 (s + 3)) 94 36 (u + 4)) 94 42 (s + 4)) 94 37 (u + 5)) 94 43 (s + 5)
def swr (s u k d : Nat) : Nat := if k = 43 then s + 5 else if k = 37 then u + 5 else if k = 42 then s + 4 else if k = 36 then u + 4 else if k = 41 then s + 3 else if k = 35 then u + 3 else if k = 40 then s + 2 else if k = 34 then u + 2 else if k = 39 then s + 1 else if k = 33 then u + 1 else if k = 38 then s else if k = 32 then u else d
theorem swq9_r (σ : q_H) (s u a j : Nat) : q_r (swq9 σ s u) a j = if a = 94 then swr s u j (q_r σ 94 j) else q_r σ a j := by
  unfold swq9 swr
  by_cases c : a = 94
  · subst c
    rw [if_pos rfl, zr_if, zr_if, zr_if, zr_if, zr_if, zr_if, zr_if, zr_if, zr_if, zr_if, zr_if, zr_if]
    simp only [true_and]
  · rw [if_neg c, zr_o c, zr_o c, zr_o c, zr_o c, zr_o c, zr_o c, zr_o c, zr_o c, zr_o c, zr_o c, zr_o c, zr_o c]
theorem swq9_E {σ : q_H} (hE : q_E σ) (s u : Nat) : q_E (swq9 σ s u) := zr_E (zr_E (zr_E (zr_E (zr_E (zr_E (zr_E (zr_E (zr_E (zr_E (zr_E (zr_E hE (by decide)) (by decide)) (by decide)) (by decide)) (by decide)) (by decide)) (by decide)) (by decide)) (by decide)) (by decide)) (by decide)) (by decide)
theorem swr_o {s u k d : Nat} (h : ¬ (32 ≤ k ∧ k ≤ 43)) : swr s u k d = d := by
  unfold swr
  rw [if_neg (by omega), if_neg (by omega), if_neg (by omega), if_neg (by omega), if_neg (by omega), if_neg (by omega), if_neg (by omega), if_neg (by omega), if_neg (by omega), if_neg (by omega), if_neg (by omega), if_neg (by omega)]
theorem zr_0 {σ : q_H} {o k x : Nat} : q_n (zr σ o k x) = q_n σ ∧ q_t (zr σ o k x) = q_t σ ∧ q_i (zr σ o k x) = q_i σ ∧ q_l (zr σ o k x) = q_l σ := ⟨rfl, rfl, rfl, rfl⟩
theorem zr_0t {σ τ : q_H} {o k x : Nat} (h : q_n τ = q_n σ ∧ q_t τ = q_t σ ∧ q_i τ = q_i σ ∧ q_l τ = q_l σ) : q_n (zr τ o k x) = q_n σ ∧ q_t (zr τ o k x) = q_t σ ∧ q_i (zr τ o k x) = q_i σ ∧ q_l (zr τ o k x) = q_l σ := h
theorem swq9_0 (σ : q_H) (s u : Nat) : q_n (swq9 σ s u) = q_n σ ∧ q_t (swq9 σ s u) = q_t σ ∧ q_i (swq9 σ s u) = q_i σ ∧ q_l (swq9 σ s u) = q_l σ := by
  unfold swq9
  exact zr_0t (zr_0t (zr_0t (zr_0t (zr_0t (zr_0t (zr_0t (zr_0t (zr_0t (zr_0t (zr_0t zr_0))))))))))
theorem swq9_V (h : RV s u σ) : RV u s (swq9 σ s u) := by
  obtain ⟨⟨⟨hs, -⟩, hE⟩, ⟨hu, -⟩, ne⟩ := h
  have f : ∀ j, q_r (swq9 σ s u) 94 j = swr s u j (q_r σ 94 j) := fun j => by rw [swq9_r, if_pos rfl]
  refine ⟨⟨⟨hu, ?_, ?_, ?_, ?_, ?_, ?_⟩, swq9_E hE s u⟩, ⟨hs, ?_, ?_, ?_, ?_, ?_, ?_⟩, fun e => ne e.symm⟩
  all_goals rw [f]; rfl
theorem swq9_o (σ : q_H) (s u o k : Nat) (hk : ¬ R94 o k) : q_r (swq9 σ s u) o k = q_r σ o k := by
  rw [swq9_r]
  by_cases c : o = 94
  · subst c
    rw [if_pos rfl]
    exact swr_o (fun q => hk ⟨rfl, q⟩)
  · rw [if_neg c]
theorem r_swap {Kk : q_H → Prop} (h : RV s u σ) (kk : ∀ τ, RV u s τ → q_n τ = q_n σ → q_t τ = q_t σ → q_i τ = q_i σ → q_l τ = q_l σ → (∀ o k, ¬ R94 o k → q_r τ o k = q_r σ o k) → Kk τ) : J ω m_M_swap d 0 0 0 0 0 [(0, .ref 94)] [] σ (q_kv Kk) := by
  obtain ⟨⟨⟨hs, r0, r1, r2, r3, r4, r5⟩, hE⟩, ⟨hu, u0, u1, u2, u3, u4, u5⟩, ne⟩ := id h
  have n := swq9_0 σ s u
  have F : Kk (swq9 σ s u) := kk _ (swq9_V h) n.1 n.2.1 n.2.2.1 n.2.2.2 (swq9_o σ s u)
  have G : q_kv Kk (.inl none) (swq9 σ s u) := ⟨rfl, F⟩
  exact b_M_swap_0 hs r0 r1 r2 r3 r4 r5 hu u0 u1 u2 u3 u4 u5 hE G
theorem RV_i {τ : q_H} (h : RV s u σ) (hr : q_r τ = q_r σ) (hE : q_E τ) : RV s u τ := by
  obtain ⟨⟨a, -⟩, b, c⟩ := h
  unfold RV RQ
  rw [hr]
  exact ⟨⟨a, hE⟩, b, c⟩
theorem m_no {Kk : Int → q_H → Prop} {x : Int} (hE : q_E σ) (kk : Kk 0 (zs σ 94 0 x)) : J ω m_M_no d 0 0 0 0 0 [(0, .ref 94), (1, .int (zI x))] [] σ (q_ki Kk) :=
  j_deep (Nat.zero_le d) (j_mono (fun r τ h => ⟨0, ⟨by decide, by decide⟩, h.1.trans (by rw [← zI_0]), by rw [h.2]; exact kk⟩) (c_M_no hE (zI x)))
/-- refused: back to the tables before -/
theorem r_refused {Kk : Int → q_H → Prop} {x y : Int} (hd : 2 ≤ d) (h : RV u s σ) (hx : inR x) (hy : inR y) (kk : ∀ τ, RV s u τ → frE [94] R94 σ τ → z τ 94 0 = 1 → z τ 94 2 = 0 → z τ 94 50 = x → z τ 94 51 = y → (∀ k, k ∉ [0, 2, 50, 51] → z τ 94 k = z σ 94 k) → Kk 0 τ) : J ω m_M_refused d 0 0 0 0 0 [(0, .ref 94), (1, .int (zI x)), (2, .int (zI y))] [] σ (q_ki Kk) := by
  obtain ⟨d, rfl⟩ : ∃ k, d = k + 1 := ⟨d - 1, by omega⟩
  obtain ⟨⟨⟨hs, r0, r1, r2, r3, r4, r5⟩, hE⟩, ⟨hu, u0, u1, u2, u3, u4, u5⟩, ne⟩ := id h
  have E1 : q_E (zs (zs σ 94 50 x) 94 51 y) := zs_E (zs_E hE)
  refine b_M_refused_0 hs r0 r1 r2 r3 r4 r5 hu u0 u1 u2 u3 u4 u5 hE (r_swap (RV_i h rfl E1) (fun τ hτ n1 n2 n3 n4 n5 => ?_))
  obtain ⟨⟨⟨hs', q0, q1, q2, q3, q4, q5⟩, hE2⟩, ⟨hu', v0, v1, v2, v3, v4, v5⟩, -⟩ := id hτ
  have E3 : q_E (zs τ 94 2 0) := zs_E hE2
  refine b_M_refused_14 hs' q0 q1 q2 q3 q4 q5 hu' v0 v1 v2 v3 v4 v5 hE2 (m_no E3 ?_)
  have zt' : ∀ o, z τ o = z (zs (zs σ 94 50 x) 94 51 y) o := fun o => funext fun k => by unfold z; rw [n3]
  refine b_M_refused_24 hs' q0 q1 q2 q3 q4 q5 hu' v0 v1 v2 v3 v4 v5 (zs_E E3) ⟨0, ⟨by decide, by decide⟩, rfl, kk _ (RV_i hτ rfl (zs_E E3)) ?_ (z_s ⟨by decide, by decide⟩) ?_ ?_ ?_ (fun k hk => ?_)⟩
  · refine ⟨n1, n2, fun o k hk => n5 o k hk, fun o ho => ?_⟩
    simp at ho
    refine ⟨?_, ?_⟩
    · funext j
      rw [qs_o ho, qs_o ho, n3, qs_o ho, qs_o ho]
    · show q_l τ o = q_l σ o
      rw [n4]; rfl
  · rw [z_k (by decide)]; exact z_s ⟨by decide, by decide⟩
  · rw [z_k (by decide), z_k (by decide), zt', z_k (by decide), z_s hx]
  · rw [z_k (by decide), z_k (by decide), zt', z_s hy]
  · simp at hk
    rw [z_k (by omega), z_k (by omega), zt', z_k (by omega), z_k (by omega)]
end RbP
