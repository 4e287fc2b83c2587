/-! Solver.replacement, Solver.visit -/
theorem nd_len {N : Nat} {L : List Nat} (h : L.Nodup) (hb : ∀ x ∈ L, x < N) : L.length ≤ N :=
  pigeon N L.length (fun i => if hi : i < L.length then L[i] else 0) (fun i hi => by
    show (if hi : i < L.length then L[i] else 0) < N
    rw [dif_pos hi]
    exact hb _ (List.getElem_mem hi)) (fun i j hij hj => by
    show (if hi : i < L.length then L[i] else 0) ≠ (if hi : j < L.length then L[j] else 0)
    rw [dif_pos (show i < L.length by omega), dif_pos hj]
    exact List.pairwise_iff_getElem.mp h i j (by omega) hj hij)
/-- where a watch is denied and that has been gone through, the other one holds, no later -/
def WQ (M V L T : Nat → Int) (cs : List Nat) (dn : Nat) : Prop := ∀ c ∈ cs, 2 ≤ M c → ∀ e, e ≤ 1 → ∀ i, i < dn → T i = ng (M (c + 3 + e)) → V (M (c + 3 + (1 - e))).toNat = 1 ∧ L (gt (M (c + 3 + (1 - e)))) ≤ L (gt (M (c + 3 + e)))
/-- what visiting keeps -/
def VK (cs : List Nat) (ts ts' lv : Nat) (σ τ : q_H) : Prop :=
  fr [70, 72, 73, 78, 79, 80, 81] σ τ ∧ (∀ k, k ≠ 6 → z τ 70 k = z σ 70 k) ∧ ts ≤ ts' ∧ (∀ i, i < ts → z τ 81 i = z σ 81 i) ∧ (∀ i, i < ts → z τ 79 (gt (z σ 81 i)) = z σ 79 (gt (z σ 81 i)) ∧ z τ 80 (gt (z σ 81 i)) = z σ 80 (gt (z σ 81 i))) ∧ (∀ i, ts ≤ i → i < ts' → z τ 79 (gt (z τ 81 i)) = (lv : Int) ∧ z τ 80 (gt (z τ 81 i)) ≠ 0) ∧ (∀ c ∈ cs, z τ 72 c = z σ 72 c ∧ ∀ x, inC (z τ 72) c x ↔ inC (z σ 72) c x)
section ViJ
variable {ω : q_W} {d s top ts lv : Nat} {cs : List Nat} {Ws : Nat → List Nat} {σ : q_H}
theorem VK_refl : VK cs ts ts lv σ σ := ⟨fr_refl, fun _ _ => rfl, Nat.le_refl _, fun _ _ => rfl, fun _ _ => ⟨rfl, rfl⟩, fun i h1 h2 => absurd h2 (by omega), fun _ _ => ⟨rfl, fun _ => Iff.rfl⟩⟩
theorem s_replacement {K : Int → q_H → Prop} {c : Nat} (hE : q_E σ) (hs : s ≤ 10240) (hx : CX s top cs Ws σ) (hm : c ∈ cs) (h2 : 2 ≤ z σ 72 c) (k0 : (∀ i : Nat, 2 ≤ i → (i : Int) < z σ 72 c → z σ 78 (z σ 72 (c + 3 + i)).toNat = -1) → K 0 σ)
    (k1 : ∀ κ : Nat, 2 ≤ κ → (κ : Int) < z σ 72 c → z σ 78 (z σ 72 (c + 3 + κ)).toNat ≠ -1 → K ((c + 3 + κ : Nat) : Int) σ) : J ω m_So_replacement d 0 0 0 0 0 [(0, .ref 70), (1, .int (zI (c : Int)))] [] σ (q_ki K) := by
  obtain ⟨ht, ht1, hcl, hwl⟩ := id hx
  obtain ⟨a1, a2, a3, a4, a5, a6⟩ := hcl.1 c hm
  have l : ∀ (m i : Nat), z σ 72 c ≤ (i : Int) + m → 2 ≤ i → (i : Int) ≤ z σ 72 c → (∀ j : Nat, 2 ≤ j → j < i → z σ 78 (z σ 72 (c + 3 + j)).toNat = -1) → J ω m_So_replacement d 0 0 0 0 20 [(0, .ref 70), (2, .int (zI ((c : Int) + 3 + z σ 72 c))), (3, .int (zI ((c : Int) + 3 + (i : Int))))] [] σ (q_ki K) := by
    intro m
    induction m with
    | zero =>
      intro i h1 h3 h4 h5
      exact b_So_replacement_20 hE ⟨⟨by omega, by omega⟩, ⟨by omega, by omega⟩, fun _ => ⟨0, ⟨by decide, by decide⟩, rfl, k0 (fun j h6 h7 => h5 j h6 (by omega))⟩, fun c => absurd c (by omega)⟩
    | succ m ih =>
      intro i h1 h3 h4 h5
      refine b_So_replacement_20 hE ?_
      rw [show ((c : Int) + 3 + (i : Int)).toNat = c + 3 + i by omega]
      refine ⟨⟨by omega, by omega⟩, ⟨by omega, by omega⟩, fun cc => ⟨0, ⟨by decide, by decide⟩, rfl, k0 (fun j h6 h7 => h5 j h6 (by omega))⟩, fun cc => ?_⟩
      have hl := a4 i (by omega)
      have hl1 := hl.2
      refine ⟨⟨by omega, by omega⟩, ⟨hl.1, by omega⟩, fun cv => ?_, fun cv => ⟨(c : Int) + 3 + (i : Int), ⟨by omega, by omega⟩, rfl, ?_⟩⟩
      · rw [show (c : Int) + 3 + (i : Int) + 1 = (c : Int) + 3 + ((i + 1 : Nat) : Int) by omega]
        refine ih (i + 1) (by omega) (by omega) (by omega) (fun j h6 h7 => ?_)
        by_cases e : j = i
        · subst e; exact cv
        · exact h5 j h6 (by omega)
      · have := k1 i h3 (by omega) cv
        rw [show ((c + 3 + i : Nat) : Int) = (c : Int) + 3 + (i : Int) by omega] at this
        exact this
  refine b_So_replacement_0 hE ?_
  rw [Int.toNat_natCast]
  refine ⟨⟨by omega, by omega⟩, ?_⟩
  have := l (z σ 72 c).toNat 2 (by omega) (Nat.le_refl _) h2 (fun j h6 h7 => absurd h7 (by omega))
  rw [show (c : Int) + 5 = (c : Int) + 3 + ((2 : Nat) : Int) by omega]
  exact this
end ViJ
section ViP
variable {s ts lv : Nat} {M : Nat → Int} {cs : List Nat} {V L Rs T St : Nat → Int}
/-- what has a value is of another gate than what gets one -/
theorem AS_o {o q : Int} (h : TRp s ts lv M cs V L Rs T St) (lo : lit s o) (v0 : V o.toNat = 0) (lq : lit s q) (vq : V q.toNat ≠ 0) : gt q ≠ gt o ∧ up (up V o.toNat 1) (ng o).toNat (-1) q.toNat = V q.toNat := by
  have n0 := TR_fr h lo v0
  have h1 := lo.1
  have h2 := lq.1
  have h3 := (ng_lit lo).1
  have e1 : q ≠ o := fun e => by rw [e] at vq; exact vq v0
  have e2 : q ≠ ng o := fun e => by rw [e] at vq; exact vq n0
  refine ⟨fun e => ?_, by rw [up_n (by omega), up_n (by omega)]⟩
  have : q / 2 = o / 2 := by unfold gt at e; omega
  rcases ng_or this with e3 | e3
  · exact e1 e3
  · exact e2 e3
theorem WQ_assign {o : Int} {dn top : Nat} (h : TRp s ts lv M cs V L Rs T St) (hcl : CLp M top s cs) (lo : lit s o) (v0 : V o.toNat = 0) (hdn : dn ≤ ts) (hq : WQ M V L T cs dn) : WQ M (up (up V o.toNat 1) (ng o).toNat (-1)) (up L (gt o) (lv : Int)) (up T ts o) cs dn := by
  intro c hc h2 e he i hi ei
  rw [up_n (by omega)] at ei
  obtain ⟨q1, q2⟩ := hq c hc h2 e he i hi ei
  have l1 := (hcl.1 c hc).2.2.2.1 (1 - e) (by omega)
  have l2 := (hcl.1 c hc).2.2.2.1 e (by omega)
  have v2 : V (M (c + 3 + e)).toNat ≠ 0 := by
    have := (h.1 i (by omega)).2.2
    rw [ei, ng_ng] at this
    omega
  obtain ⟨g1, g2⟩ := AS_o h lo v0 l1 (by omega)
  obtain ⟨g3, -⟩ := AS_o h lo v0 l2 v2
  rw [g2, up_n g1, up_n g3]
  exact ⟨q1, q2⟩
end ViP
