/-! MODELS AND INPUTS: each model has INPUTS, all INPUTS have a model, the least model the least INPUTS -/
section MiP
variable {p s s0 wc : Nat} {σ : q_H} {u v : Nat → Bool}
theorem iW_b (gp : GP p σ) : iN p σ ≤ 12 ∧ (∀ i, i < iN p σ → 1 ≤ iW p σ i ∧ iW p σ i ≤ 8) ∧ ∀ n, n ≤ iN p σ → (smn (iW p σ) n : Int) = sm (z σ (p + 1)) n := by
  obtain ⟨⟨w1, w2, w3, w4⟩, ⟨b1, b2, b3⟩, -⟩ := gp
  have h : ∀ i, i < iN p σ → 1 ≤ iW p σ i ∧ iW p σ i ≤ 8 := fun i hi => by
    unfold iN at hi
    have := w3 i (by omega)
    unfold iW
    omega
  refine ⟨by unfold iN; omega, h, fun n => ?_⟩
  induction n with
  | zero => intro _; rfl
  | succ n ih =>
    intro hn
    have e := ih (by omega)
    have := h n (by omega)
    show ((smn (iW p σ) n + iW p σ n : Nat) : Int) = sm (z σ (p + 1)) n + z σ (p + 1) n
    unfold iW at this ⊢
    unfold iW at e
    omega
theorem INP_at (gp : GP p σ) (hi : INP p σ s0) {i b : Nat} (h1 : i < iN p σ) (h2 : b < iW p σ i) : z σ 61 (8 * i + b) = 2 * ((1 + smn (iW p σ) i + b : Nat) : Int) := by
  have e := (iW_b gp).2.2 i (by omega)
  rw [hi.2.1 i b (by unfold iN at h1; omega) (by unfold iW at h2; omega)]
  omega
theorem INP_no (hi : INP p σ s0) {i b : Nat} (h12 : i < 12) (h8 : b < 8) (h : ¬ (i < iN p σ ∧ b < iW p σ i)) : z σ 61 (8 * i + b) = 1 :=
  hi.2.2 i b h12 h8 (fun q => h ⟨by unfold iN; omega, by unfold iW; omega⟩)
theorem IvN_w (gp : GP p σ) (hi : INP p σ s0) (v0 : v 0 = true) {i : Nat} (h : i < iN p σ) : IvN σ v i = nV v (fun j => z σ 61 (8 * i + j)) (iW p σ i) := by
  have b := iW_b gp
  have wi := b.2.1 i h
  unfold IvN
  rw [if_pos (by omega)]
  exact nV_w v0 (w := iW p σ i) (fun j h1 h2 => INP_no hi (by omega) h2 (fun q => by omega)) 8 (by omega) (by omega)
theorem IvN_lt (gp : GP p σ) (hi : INP p σ s0) (v0 : v 0 = true) {i : Nat} (h : i < iN p σ) : IvN σ v i < 2 ^ iW p σ i := by
  rw [IvN_w gp hi v0 h]; exact nV_lt _
theorem IvN_ge (hi : INP p σ s0) (v0 : v 0 = true) {i : Nat} (h : iN p σ ≤ i) : IvN σ v i = 0 := by
  unfold IvN
  by_cases c : i < 12
  · rw [if_pos c]; exact nV_1 v0 8 (fun j hj => INP_no hi c hj (fun q => by omega))
  · rw [if_neg c]
/-- the INPUTS of a model, by their number -/
theorem IvN_spr (gp : GP p σ) (hi : INP p σ s0) (v0 : v 0 = true) : IvN σ v = spr (iW p σ) (iN p σ) (cod (iW p σ) (IvN σ v) (iN p σ)) := by
  funext i
  by_cases c : i < iN p σ
  · rw [spr_cod _ (fun i hi' => IvN_lt gp hi v0 hi') i c]
  · rw [spr_ge _ _ _ (by omega), IvN_ge hi v0 (by omega)]
theorem IvN_cod (gp : GP p σ) (hi : INP p σ s0) (v0 : v 0 = true) : cod (iW p σ) (IvN σ v) (iN p σ) < 2 ^ smn (iW p σ) (iN p σ) := cod_bd _ (fun i hi' => IvN_lt gp hi v0 hi')
/-- all INPUTS have a model -/
theorem IvN_all (gp : GP p σ) (hi : INP p σ s0) (hci : CI s σ) (hlf : ∀ j : Nat, j < 96 → 2 ≤ z σ 61 j → z σ 51 (gt (z σ 61 j)) = 0) (t : Nat) : ∃ v, CSv s σ v ∧ IvN σ v = spr (iW p σ) (iN p σ) t := by
  have v0 : vbn (iW p σ) (spr (iW p σ) (iN p σ) t) (iN p σ) 0 = true := vbn_0 _
  have cv := CSv_ex (v := vbn (iW p σ) (spr (iW p σ) (iN p σ) t) (iN p σ)) hci v0
  refine ⟨_, cv, ?_⟩
  funext i
  have b := iW_b gp
  by_cases c : i < iN p σ
  · have wi := b.2.1 i c
    rw [IvN_w gp hi cv.1 c]
    refine nV_eq (spr_lt _ _ _ c) (fun j hj => ?_)
    have e := INP_at gp hi c hj
    have lf := hlf (8 * i + j) (by omega) (by rw [e]; omega)
    rw [e] at lf
    show lvb _ (z σ 61 (8 * i + j)) = _
    rw [e, lvb_g, exv_no (Or.inr (by
      rw [show gt (2 * ((1 + smn (iW p σ) i + j : Nat) : Int)) = 1 + smn (iW p σ) i + j by unfold gt; omega] at lf
      exact lf))]
    exact vbn_at _ i j c hj
  · rw [spr_ge _ _ _ (by omega), IvN_ge hi cv.1 (by omega)]
/-- the wishes: INPUTS from the first on, each from its highest bit on, with 0 before 1 -/
def WSH (p wc : Nat) (σ : q_H) : Prop := wc = smn (iW p σ) (iN p σ) ∧ ∀ i b : Nat, i < iN p σ → b < iW p σ i → z σ 83 (smn (iW p σ) i + (iW p σ i - 1 - b)) = ng (z σ 61 (8 * i + b))
theorem smn_at {w : Nat → Nat} : ∀ n k, k < smn w n → ∃ i b, i < n ∧ b < w i ∧ k = smn w i + (w i - 1 - b)
  | 0, k, h => absurd h (by show ¬ k < 0; omega)
  | n + 1, k, h => by
    have h' : k < smn w n + w n := h
    by_cases c : k < smn w n
    · obtain ⟨i, b, h1, h2, h3⟩ := smn_at n k c
      exact ⟨i, b, by omega, h2, h3⟩
    · exact ⟨n, w n - 1 - (k - smn w n), by omega, by omega, by omega⟩
theorem FND_least {D : (Nat → Bool) → Prop} (gp : GP p σ) (hi : INP p σ s0) (hw : WSH p wc σ) (hf : FND s wc D σ u) (cv : CSv s σ v) (dv : D v) : cod (iW p σ) (IvN σ u) (iN p σ) ≤ cod (iW p σ) (IvN σ v) (iN p σ) := by
  obtain ⟨cu, du, -, hL⟩ := hf
  apply Decidable.byContradiction
  intro hn
  have l0 : ∀ i b, i < iN p σ → b < iW p σ i → 0 ≤ z σ 61 (8 * i + b) := fun i b h1 h2 => by rw [INP_at gp hi h1 h2]; omega
  obtain ⟨i, i1, i2, i3⟩ := cod_less _ (fun i hi' => IvN_lt gp hi cv.1 hi') (fun i hi' => IvN_lt gp hi cu.1 hi') (show cod (iW p σ) (IvN σ v) (iN p σ) < cod (iW p σ) (IvN σ u) (iN p σ) by omega)
  have i2' := i2
  rw [IvN_w gp hi cv.1 i1, IvN_w gp hi cu.1 i1] at i2'
  obtain ⟨b, b1, b2, b3, b4⟩ := nV_less _ i2'
  have sb := smn_mono (w := iW p σ) (iN p σ - (i + 1)) (i + 1)
  rw [show i + 1 + (iN p σ - (i + 1)) = iN p σ by omega] at sb
  have se : smn (iW p σ) (i + 1) = smn (iW p σ) i + iW p σ i := rfl
  have k := hL v cv dv (smn (iW p σ) i + (iW p σ i - 1 - b)) (by rw [hw.1]; omega) (by rw [hw.2 i b i1 b1, lvb_ng (l0 i b i1 b1)]; show (!lvb u (z σ 61 (8 * i + b))) = false; rw [b3]; rfl) (fun j hj hju => ?_)
  · rw [hw.2 i b i1 b1, lvb_ng (l0 i b i1 b1)] at k
    have b2' : lvb v (z σ 61 (8 * i + b)) = false := b2
    rw [b2'] at k
    cases k
  · obtain ⟨i', b', h1, h2, h3⟩ := smn_at (w := iW p σ) (iN p σ) j (by omega)
    rw [h3, hw.2 i' b' h1 h2, lvb_ng (l0 i' b' h1 h2)] at hju ⊢
    have eq : lvb v (z σ 61 (8 * i' + b')) = lvb u (z σ 61 (8 * i' + b')) := by
      by_cases c : i' < i
      · have e := i3 i' c
        rw [IvN_w gp hi cv.1 h1, IvN_w gp hi cu.1 h1] at e
        have t1 := nV_tb (v := v) (f := fun j => z σ 61 (8 * i' + j)) (iW p σ i') b' h2
        have t2 := nV_tb (v := u) (f := fun j => z σ 61 (8 * i' + j)) (iW p σ i') b' h2
        rw [e] at t1
        exact t1.symm.trans t2
      · have ei : i' = i := by
          apply Decidable.byContradiction
          intro q
          have m := smn_mono (w := iW p σ) (i' - (i + 1)) (i + 1)
          rw [show i + 1 + (i' - (i + 1)) = i' by omega] at m
          omega
        subst ei
        exact b4 b' (by omega) h2
    rw [eq]; exact hju
end MiP
