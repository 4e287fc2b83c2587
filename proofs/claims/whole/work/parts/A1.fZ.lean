/-! The class reads an EXPR: reduce, operand, follow, expression -/
section FzJ
variable {ω : q_W} {d T p : Nat} {σ0 σ : q_H} {P : Nat → Int} {fb wb : Int} {t D k : Nat} {S W : List Int} {its : List q_It} {f : Option Nat}
/-- how many items apply makes -/
theorem app_len (s : Int) (r : q_Rd) : (app s r).2.2.2.length ≤ r.2.2.2.length + 1 ∧ (app s r).2.1 = r.2.1 := by
  unfold app
  split
  · split
    · exact ⟨by simp, rfl⟩
    · exact ⟨by omega, rfl⟩
  · split
    · split
      · exact ⟨by simp, rfl⟩
      · exact ⟨by omega, rfl⟩
    · split
      · exact ⟨by simp, rfl⟩
      · exact ⟨by omega, rfl⟩
theorem red_len (l : Nat) : ∀ (S : List Int) (r : q_Rd), (red l S r).2.2.2.2.length + (red l S r).1.length ≤ r.2.2.2.length + S.length ∧ (red l S r).1.length ≤ S.length
  | [], r => ⟨Nat.le_refl _, Nat.le_refl _⟩
  | s :: S, r => by
    unfold red
    split
    · have h := red_len l S (app s (if 19 ≤ s then dwn r else r))
      have a := (app_len s (if 19 ≤ s then dwn r else r)).1
      have b : (if 19 ≤ s then dwn r else r).2.2.2.length = r.2.2.2.length := by split <;> rfl
      rw [List.length_cons]
      omega
    · exact ⟨Nat.le_refl _, Nat.le_refl _⟩
theorem redC_len : ∀ (S : List Int) (r : q_Rd), (redC S r).2.2.2.2.length + (redC S r).1.length ≤ r.2.2.2.length + S.length ∧ (redC S r).1.length ≤ S.length
  | [], r => ⟨Nat.le_refl _, Nat.le_refl _⟩
  | s :: S, r => by
    unfold redC
    split
    · have h := redC_len S (dwn (app 22 r))
      have a := (app_len 22 r).1
      have b : (dwn (app 22 r)).2.2.2.length = (app 22 r).2.2.2.length := rfl
      rw [List.length_cons]
      omega
    · exact ⟨Nat.le_refl _, Nat.le_refl _⟩
/-- behind reducing: the DEPTH is enough for what waits -/
theorem red_dpt (l : Nat) : ∀ (S : List Int) (r : q_Rd), dpt S ≤ r.2.1 → dpt (red l S r).1 ≤ (red l S r).2.2.1
  | [], r, h => h
  | s :: S, r, h => by
    have h : (if 19 ≤ s then 1 else 0) + dpt S ≤ r.2.1 := h
    unfold red
    split
    · refine red_dpt l S _ ?_
      rw [(app_len s _).2]
      by_cases c : 19 ≤ s
      · rw [if_pos c] at h ⊢
        show dpt S ≤ r.2.1 - 1
        omega
      · rw [if_neg c] at h ⊢
        omega
    · exact h
theorem redC_dpt : ∀ (S : List Int) (r : q_Rd), dpt S ≤ r.2.1 → dpt (redC S r).1 ≤ (redC S r).2.2.1
  | [], r, h => h
  | s :: S, r, h => by
    have h : (if 19 ≤ s then 1 else 0) + dpt S ≤ r.2.1 := h
    unfold redC
    split
    · next c =>
      refine redC_dpt S _ ?_
      show dpt S ≤ (app 22 r).2.1 - 1
      rw [(app_len 22 r).2]
      rw [if_pos (by omega)] at h
      omega
    · exact h
theorem red_in (l : Nat) : ∀ (S : List Int) (r : q_Rd), ∀ x ∈ (red l S r).1, x ∈ S
  | [], r, x, h => h
  | s :: S, r, x, h => by
    unfold red at h
    split at h
    · exact List.mem_cons_of_mem _ (red_in l S _ x h)
    · exact h
theorem redC_in : ∀ (S : List Int) (r : q_Rd), ∀ x ∈ (redC S r).1, x ∈ S
  | [], r, x, h => h
  | s :: S, r, x, h => by
    unfold redC at h
    split at h
    · exact List.mem_cons_of_mem _ (redC_in S _ x h)
    · exact h
theorem FX_47 {s : Int} {r : q_Rd} (h : FX T p P fb wb σ0 (t, s :: S, r, f) σ) : 1 ≤ s ∧ s ≤ 47 := by
  have b1 := h.2.2.1.1
  dsimp only at b1
  rw [List.length_cons] at b1
  have := h.1.2.2.2.2.2.2.2.2.1.2.2 S.length (by omega)
  rw [h.2.2.1.2.1] at this
  exact this
theorem f_reduce {K : q_H → Prop} {l : Nat} (hd : 2 ≤ d) (hp : p = 16 ∨ p = 29) (hl : l ≤ 11) : ∀ (S : List Int) (r : q_Rd) (σ : q_H), FX T p P fb wb σ0 (t, S, r, f) σ → dpt S ≤ r.2.1 → r.2.1 ≤ 1000 → r.2.2.2.length + S.length ≤ 4096 → (∀ τ, FX T p P fb wb σ0 (t, (red l S r).1, (red l S r).2, f) τ → K τ) → J ω m_Pa_reduce d 0 0 0 0 0 [(0, .ref 8), (1, .int (zI (l : Int)))] [] σ (q_kv K) := by
  obtain ⟨d, rfl⟩ : ∃ k, d = k + 1 := ⟨d - 1, by omega⟩
  intro S
  induction S with
  | nil =>
    intro r σ h h1 hD hi kk
    have b1 := h.2.2.1.1
    exact b_Pa_reduce_0 hp h.1.1.2.1 h.1.1.2.2 h.1.1.1 ⟨fun _ => ⟨rfl, kk σ h⟩, fun c => absurd c (by rw [b1]; simp)⟩
  | cons s S ih =>
    intro r σ h h1 hD hi kk
    have b1 := h.2.2.1.1
    dsimp only at b1
    rw [List.length_cons] at b1 hi
    have hs := FX_47 h
    have h1 : (if 19 ≤ s then 1 else 0) + dpt S ≤ r.2.1 := h1
    refine b_Pa_reduce_0 hp h.1.1.2.1 h.1.1.2.2 h.1.1.1 ⟨fun c => absurd c (by omega), fun _ => f_topSign hp h (b_Pa_reduce_11 hp h.1.1.2.1 h.1.1.2.2 h.1.1.1 ⟨⟨by simp; omega, by simp; omega⟩, fun c => ⟨rfl, kk σ ?_⟩, fun c => ?_⟩)⟩
    · have c : s > 21 := c
      unfold red; rw [if_neg (by omega)]; exact h
    · have c : s ≤ 21 := c
      have es := tS (x := s) ⟨hs.1, c⟩
      refine f_topSign hp h (b_Pa_reduce_23 hp h.1.1.2.1 h.1.1.2.2 h.1.1.1 ?_)
      rw [List.headD_cons, es]
      have sb : stg s ≤ 11 := by
        unfold stg
        split
        · omega
        · have := sgL_le s; omega
      refine ⟨⟨by omega, by omega⟩, ⟨by omega, by omega⟩, fun c2 => ⟨rfl, kk σ ?_⟩, fun c2 => ?_⟩
      · unfold red; rw [if_neg (by omega)]; exact h
      · have er : red l (s :: S) r = red l S (app s (if 19 ≤ s then dwn r else r)) := by
          conv => lhs; unfold red
          rw [if_pos ⟨hs.1, c, by omega⟩]
        rw [er] at kk
        -- behind the DEPTH
        have go : ∀ (r2 : q_Rd) (ρ : q_H), r2 = (if 19 ≤ s then dwn r else r) → FX T p P fb wb σ0 (t, s :: S, r2, f) ρ → J ω m_Pa_reduce (d + 1) 0 0 0 0 47 [(0, .ref 8), (1, .int (zI (l : Int)))] [] ρ (q_kv K) := by
          intro r2 ρ e2 hρ
          have il : r2.2.2.2.length = r.2.2.2.length := by rw [e2]; split <;> rfl
          have dl : dpt S ≤ r2.2.1 ∧ r2.2.1 ≤ 1000 := by
            rw [e2]
            by_cases q : 19 ≤ s
            · rw [if_pos q] at h1 ⊢
              show dpt S ≤ r.2.1 - 1 ∧ r.2.1 - 1 ≤ 1000
              omega
            · rw [if_neg q] at h1 ⊢
              omega
          refine b_Pa_reduce_47 hp hρ.1.1.2.1 hρ.1.1.2.2 hρ.1.1.1 (f_topSign hp hρ (b_Pa_reduce_52 hp hρ.1.1.2.1 hρ.1.1.2.2 hρ.1.1.1 ?_))
          rw [List.headD_cons]
          obtain ⟨W2, D2, k2, its2⟩ := r2
          refine f_apply (by omega) hp hρ ⟨hs.1, by omega⟩ (by dsimp only at il; omega) (fun τ hτ => ?_)
          have a := app_len s (W2, D2, k2, its2)
          refine b_Pa_reduce_55 hp hτ.1.1.2.1 hτ.1.1.2.2 hτ.1.1.1 (ih (app s (W2, D2, k2, its2)) _ (FX_pop hp hτ) (by rw [a.2]; exact dl.1) (by rw [a.2]; exact dl.2) ?_ ?_)
          · have := a.1; dsimp only at this il; omega
          · rw [e2]; exact kk
        refine f_topSign hp h (b_Pa_reduce_32 hp h.1.1.2.1 h.1.1.2.2 h.1.1.1 ?_)
        rw [List.headD_cons]
        refine ⟨⟨by omega, by omega⟩, fun q => go r σ (by rw [if_neg (by omega)]) h, fun q => ?_⟩
        rw [if_pos q] at h1
        have e13 : z σ 8 13 = (r.2.1 : Int) := h.2.2.2.2.1
        rw [e13, show (r.2.1 : Int) - 1 = ((r.2.1 - 1 : Nat) : Int) by omega]
        exact go (dwn r) _ (by rw [if_pos q]) (FX_13 hp h ⟨by omega, by omega⟩)
theorem f_redC {K : q_H → Prop} (hd : 2 ≤ d) (hp : p = 16 ∨ p = 29) : ∀ (S : List Int) (r : q_Rd) (σ : q_H), FX T p P fb wb σ0 (t, S, r, f) σ → dpt S ≤ r.2.1 → r.2.1 ≤ 1000 → r.2.2.2.length + S.length ≤ 4096 → (∀ τ, FX T p P fb wb σ0 (t, (redC S r).1, (redC S r).2, f) τ → K τ) → J ω m_Pa_reduceChoices d 0 0 0 0 0 [(0, .ref 8)] [] σ (q_kv K) := by
  obtain ⟨d, rfl⟩ : ∃ k, d = k + 1 := ⟨d - 1, by omega⟩
  intro S
  induction S with
  | nil =>
    intro r σ h h1 hD hi kk
    have b1 := h.2.2.1.1
    exact b_Pa_reduceChoices_0 hp h.1.1.2.1 h.1.1.2.2 h.1.1.1 ⟨fun _ => ⟨rfl, kk σ h⟩, fun c => absurd c (by rw [b1]; simp)⟩
  | cons s S ih =>
    intro r σ h h1 hD hi kk
    have b1 := h.2.2.1.1
    dsimp only at b1
    rw [List.length_cons] at b1 hi
    have hs := FX_47 h
    have h1 : (if 19 ≤ s then 1 else 0) + dpt S ≤ r.2.1 := h1
    refine b_Pa_reduceChoices_0 hp h.1.1.2.1 h.1.1.2.2 h.1.1.1 ⟨fun c => absurd c (by omega), fun _ => f_topSign hp h (b_Pa_reduceChoices_11 hp h.1.1.2.1 h.1.1.2.2 h.1.1.1 ?_)⟩
    rw [List.headD_cons]
    refine ⟨⟨by omega, by omega⟩, fun c => ⟨rfl, kk σ ?_⟩, fun c => ?_⟩
    · unfold redC; rw [if_neg c]; exact h
    · have er : redC (s :: S) r = redC S (dwn (app 22 r)) := by
        conv => lhs; unfold redC
        rw [if_pos c]
      rw [er] at kk
      rw [if_pos (by omega)] at h1
      obtain ⟨W2, D2, k2, its2⟩ := r
      refine f_apply (by omega) hp h ⟨by decide, by decide⟩ (by dsimp only at hi; omega) (fun τ hτ => ?_)
      have a := app_len 22 (W2, D2, k2, its2)
      have hp2 := FX_pop hp hτ
      have e13 : z τ 8 13 = ((app 22 (W2, D2, k2, its2)).2.1 : Int) := hτ.2.2.2.2.1
      have u13 : z (zs τ 8 10 (z τ 8 10 - 1)) 8 13 = ((app 22 (W2, D2, k2, its2)).2.1 : Int) := by rw [z_k (by decide)]; exact e13
      refine b_Pa_reduceChoices_22 hp hτ.1.1.2.1 hτ.1.1.2.2 hτ.1.1.1 ?_
      rw [e13, a.2]
      dsimp only at h1 hD hi ⊢
      have F := FX_13 (e := D2 - 1) hp hp2 ⟨by omega, by omega⟩
      rw [show ((D2 - 1 : Nat) : Int) = (D2 : Int) - 1 by omega] at F
      have ed : (app 22 (W2, D2, k2, its2)).2.1 - 1 = D2 - 1 := by rw [a.2]
      refine ih (dwn (app 22 (W2, D2, k2, its2))) _ ?_ ?_ ?_ ?_ kk
      · unfold dwn; rw [ed]; exact F
      · show dpt S ≤ (app 22 (W2, D2, k2, its2)).2.1 - 1
        rw [ed]; omega
      · show (app 22 (W2, D2, k2, its2)).2.1 - 1 ≤ 1000
        rw [ed]; omega
      · show (app 22 (W2, D2, k2, its2)).2.2.2.length + S.length ≤ 4096
        have := a.1; dsimp only at this; omega
end FzJ
