/-! The class builds: the two ends -/
/-- behind a good build -/
def HG (p q V : Nat) (S : List q_St) (σ ρ : q_H) : Prop :=
  q_r ρ 1 2 = q ∧ q_r ρ 1 3 = p ∧ z ρ 1 4 = 1 ∧ (∀ k, k ≠ 4 → z ρ 1 k = z σ 1 k) ∧ z ρ 2 2 = 0 ∧ (∀ j, j < 12 → z ρ 42 j = 0) ∧ z ρ 43 0 = 0 ∧ z ρ 43 1 = -1 ∧ (∀ j, j < 12 → z ρ 44 j = 0) ∧ z ρ 47 5 = 0 ∧ (∀ k, k ≠ 5 → z ρ 47 k = z σ 47 k) ∧ z ρ 50 8 = z σ 50 8 ∧ ∃ s1, QS q s1 s1 ρ ∧ HI s1 ρ ∧ ENs V (z ρ (q + 3)) S ρ s1
def Sg : List Nat := [1, 2, 42, 43, 44, 47] ++ SEi
theorem mem_Sg1 : ∀ x ∈ [1, 2, 42, 43, 44, 47], x ∈ Sg := fun x hx => by unfold Sg; simp only [List.mem_append]; exact Or.inl hx
theorem mem_Sg2 : ∀ x ∈ SEi, x ∈ Sg := fun x hx => by unfold Sg; simp only [List.mem_append]; exact Or.inr hx
theorem nin_Sg {o : Nat} (h : (2 < o ∧ o < 42) ∨ o = 45 ∨ o = 46 ∨ 70 ≤ o) : o ∉ Sg := by
  unfold Sg SEi SEn
  simp
  omega
section HcP
variable {ω : q_W} {d p q T : Nat} {τ : q_H} {Q : q_R → q_H → Prop}
theorem sE_nin {o : Nat} (h : o < 48 ∨ 70 ≤ o) : o ∉ SEi := by
  unfold SEi SEn
  simp
  omega
theorem h_good (hd : 9 ≤ d) (hp : p = 16 ∨ p = 29) (hq : q = 16 ∨ q = 29) (r12 : q_r τ 1 2 = p) (r13 : q_r τ 1 3 = q) (hE : q_E τ) (h9 : z τ q 9 = 0) (gp : GP q τ) {V w a1 : Nat} {S : List q_St} {WI : Nat → Int} (ps : PS2 q WI V S τ) (hV : V ≤ 12) (h4 : z τ q 4 = (V : Int)) (h7 : z τ q 7 = (a1 : Int)) (hWI : ∀ i, i < 12 → WI i ≤ 8 → (i : Int) < z τ q 0 ∧ WI i = z τ (q + 1) i) (ts : TS V (fun e => PE (cI WI (z τ (q + 3)) V) e ∧ hB e.1 0 = some 1) true 0 0 0 0 S w a1) (hw : w ≤ 1500)
    (kk : ∀ ρ, HG p q V S τ ρ → q_E ρ → frE Sg Rb τ ρ → (∀ o, q ≤ o → o ≤ q + 12 → z ρ o = z τ o) → (∀ k, k ≠ 2 → z ρ 2 k = z τ 2 k) → Q (.inl (some (.int (zI (z τ q 7))))) ρ) : J ω m_H_build (d + 1) 1 6 0 0 54 [(0, .ref 1)] [] τ Q := by
  have R0 : inR 0 := ⟨by decide, by decide⟩
  have R1 : inR 1 := ⟨by decide, by decide⟩
  refine b_H_build_54 (mc := 0) (ms := 0) hp r12 hq r13 hE ⟨fun _ => ?_, fun c => absurd h9 c⟩
  have E1 : q_E (zfl (zs (zr (zr (zs τ 2 2 0) 1 2 q) 1 3 p) 1 4 1) 42 12 0) := zfl_E (zs_E (zr_E (zr_E (zs_E hE) (by decide)) (by decide)))
  refine m_forget (m := 43) (by omega) (Or.inl rfl) E1 ?_
  have A1 : ∀ o, o ≠ 2 → o ≠ 1 → o ≠ 42 → o ≠ 43 → o ≠ 44 → z (zs (zs (zfl (zfl (zs (zr (zr (zs τ 2 2 0) 1 2 q) 1 3 p) 1 4 1) 42 12 0) (43 + 1) 12 0) 43 0 0) 43 1 (-1)) o = z τ o := fun o h2 h1 h42 h43 h44 => by
    rw [z_oF h43, z_oF h43]
    funext k
    rw [z_fl_o h44, z_fl_o h42, z_o h1]
    show z (zs τ 2 2 0) o k = _
    rw [z_o h2]
  have A2 : ∀ k, z (zs (zs (zfl (zfl (zs (zr (zr (zs τ 2 2 0) 1 2 q) 1 3 p) 1 4 1) 42 12 0) (43 + 1) 12 0) 43 0 0) 43 1 (-1)) 2 k = if k = 2 then 0 else z τ 2 k := fun k => by
    rw [z_o (by decide), z_o (by decide), z_fl_o (by decide), z_fl_o (by decide), z_o (by decide)]
    show z (zs τ 2 2 0) 2 k = _
    rw [z_if R0]; simp only [true_and]
  have A3 : ∀ k, z (zs (zs (zfl (zfl (zs (zr (zr (zs τ 2 2 0) 1 2 q) 1 3 p) 1 4 1) 42 12 0) (43 + 1) 12 0) 43 0 0) 43 1 (-1)) 1 k = if k = 4 then 1 else z τ 1 k := fun k => by
    rw [z_o (by decide), z_o (by decide), z_fl_o (by decide), z_fl_o (by decide), z_if R1]
    simp only [true_and]
    split
    · rfl
    · show z (zs τ 2 2 0) 1 k = _
      rw [z_o (by decide)]
  have A4 : ∀ j, j < 12 → z (zs (zs (zfl (zfl (zs (zr (zr (zs τ 2 2 0) 1 2 q) 1 3 p) 1 4 1) 42 12 0) (43 + 1) 12 0) 43 0 0) 43 1 (-1)) 42 j = 0 := fun j hj => by
    rw [z_o (by decide), z_o (by decide), z_fl_o (by decide)]; exact z_fl R0 hj
  have A5 : ∀ j, j < 12 → z (zs (zs (zfl (zfl (zs (zr (zr (zs τ 2 2 0) 1 2 q) 1 3 p) 1 4 1) 42 12 0) (43 + 1) 12 0) 43 0 0) 43 1 (-1)) 44 j = 0 := fun j hj => by
    rw [z_o (by decide), z_o (by decide)]; exact z_fl R0 hj
  have A6 : z (zs (zs (zfl (zfl (zs (zr (zr (zs τ 2 2 0) 1 2 q) 1 3 p) 1 4 1) 42 12 0) (43 + 1) 12 0) 43 0 0) 43 1 (-1)) 43 0 = 0 := by rw [z_k (by decide), z_s R0]
  have A7 : z (zs (zs (zfl (zfl (zs (zr (zr (zs τ 2 2 0) 1 2 q) 1 3 p) 1 4 1) 42 12 0) (43 + 1) 12 0) 43 0 0) 43 1 (-1)) 43 1 = -1 := z_s ⟨by decide, by decide⟩
  have A8 : q_r (zs (zs (zfl (zfl (zs (zr (zr (zs τ 2 2 0) 1 2 q) 1 3 p) 1 4 1) 42 12 0) (43 + 1) 12 0) 43 0 0) 43 1 (-1)) 1 2 = q ∧ q_r (zs (zs (zfl (zfl (zs (zr (zr (zs τ 2 2 0) 1 2 q) 1 3 p) 1 4 1) 42 12 0) (43 + 1) 12 0) 43 0 0) 43 1 (-1)) 1 3 = p := ⟨by show q_r (zr (zr (zs τ 2 2 0) 1 2 q) 1 3 p) 1 2 = q; rw [zr_k (by decide), zr_s], zr_s⟩
  have A9 : frE Sg Rb τ (zs (zs (zfl (zfl (zs (zr (zr (zs τ 2 2 0) 1 2 q) 1 3 p) 1 4 1) 42 12 0) (43 + 1) 12 0) 43 0 0) 43 1 (-1)) := by
    refine ⟨rfl, rfl, fun o k hk => ?_, fun o ho => ?_⟩
    · show q_r (zr (zr (zs τ 2 2 0) 1 2 q) 1 3 p) o k = q_r τ o k
      by_cases c : o = 1
      · subst c
        rw [zr_k (fun e => hk (Or.inr (Or.inl ⟨rfl, Or.inr e⟩))), zr_k (fun e => hk (Or.inr (Or.inl ⟨rfl, Or.inl e⟩)))]; rfl
      · rw [zr_o c, zr_o c]; rfl
    · have h1 : o ≠ 1 := fun e => ho (e ▸ mem_Sg1 1 (by simp))
      have h2 : o ≠ 2 := fun e => ho (e ▸ mem_Sg1 2 (by simp))
      have h42 : o ≠ 42 := fun e => ho (e ▸ mem_Sg1 42 (by simp))
      have h43 : o ≠ 43 := fun e => ho (e ▸ mem_Sg1 43 (by simp))
      have h44 : o ≠ 43 + 1 := fun e => ho (e ▸ mem_Sg1 44 (by simp))
      refine ⟨?_, rfl⟩
      funext j
      rw [qs_o h43, qs_o h43, zfl_o h44, zfl_o h42, qs_o h1]
      show q_i (zs τ 2 2 0) o j = _
      rw [qs_o h2]
  have E2 : q_E (zs (zs (zfl (zfl (zs (zr (zr (zs τ 2 2 0) 1 2 q) 1 3 p) 1 4 1) 42 12 0) (43 + 1) 12 0) 43 0 0) 43 1 (-1)) := zs_E (zs_E (zfl_E E1))
  generalize zs (zs (zfl (zfl (zs (zr (zr (zs τ 2 2 0) 1 2 q) 1 3 p) 1 4 1) 42 12 0) (43 + 1) 12 0) 43 0 0) 43 1 (-1) = τ1 at *
  refine b_H_build_140 (mc := 0) (ms := 0) hq A8.1 hp A8.2 E2 (b0_In_study_0 hq E2 ⟨rfl, ?_⟩)
  have E3 : q_E (zs (zr τ1 47 2 q) 47 5 0) := zs_E (zr_E E2 (by decide))
  have B1 : ∀ o, o ≠ 47 → z (zs (zr τ1 47 2 q) 47 5 0) o = z τ1 o := fun o h => by rw [z_oF h]; rfl
  have B2 : ∀ k, z (zs (zr τ1 47 2 q) 47 5 0) 47 k = if k = 5 then 0 else z τ1 47 k := fun k => by
    rw [z_if R0]; simp only [true_and]; rfl
  have B3 : q_r (zs (zr τ1 47 2 q) 47 5 0) 47 2 = q := zr_s
  have B4 : frE Sg Rb τ1 (zs (zr τ1 47 2 q) 47 5 0) := by
    refine ⟨rfl, rfl, fun o k hk => ?_, fun o ho => ⟨?_, rfl⟩⟩
    · show q_r (zr τ1 47 2 q) o k = _
      by_cases c : o = 47
      · subst c
        exact zr_k (fun e => hk (Or.inr (Or.inr (Or.inl ⟨rfl, e⟩))))
      · exact zr_o c
    · have h47 : o ≠ 47 := fun e => ho (e ▸ mem_Sg1 47 (by simp))
      funext j
      rw [qs_o h47]; rfl
  have B5 : ∀ o k, o ≠ 47 → q_r (zs (zr τ1 47 2 q) 47 5 0) o k = q_r τ1 o k := fun o k h => zr_o h
  generalize zs (zr τ1 47 2 q) 47 5 0 = τ2 at *
  have C12 : q_r τ2 1 2 = q ∧ q_r τ2 1 3 = p := ⟨by rw [B5 1 2 (by decide)]; exact A8.1, by rw [B5 1 3 (by decide)]; exact A8.2⟩
  have pz : ∀ o, q ≤ o → o ≤ q + 12 → z τ2 o = z τ o := fun o h1 h2 => by rw [B1 o (by omega), A1 o (by omega) (by omega) (by omega) (by omega) (by omega)]
  have gp2 : GP q τ2 := GP_cong gp pz
  refine b_H_build_151 (mc := 0) (ms := 0) hq C12.1 hp C12.2 E3 (k_encode hd hq E3 (PS2_cong ps pz) hV (by rw [pz q (by omega) (by omega)]; exact h4) (by rw [pz q (by omega) (by omega)]; exact h7) (by rw [pz q (by omega) (by omega), pz (q + 1) (by omega) (by omega)]; exact hWI) (by rw [pz (q + 3) (by omega) (by omega)]; exact ts) hw (fun ρ s1 Eρ Fρ r481 hnd hinp h487 hlost henc => ?_))
  have rρ : ∀ o k, o ≠ 48 → q_r ρ o k = q_r τ2 o k := fun o k h => by rw [fr_r Fρ, zr_o h]
  have zρ : ∀ o, (o < 48 ∨ 70 ≤ o) → z ρ o = z τ2 o := fun o h => by rw [fr_zF Fρ (sE_nin h)]; rfl
  have D12 : q_r ρ 1 2 = q ∧ q_r ρ 1 3 = p := ⟨by rw [rρ 1 2 (by decide)]; exact C12.1, by rw [rρ 1 3 (by decide)]; exact C12.2⟩
  have q7 : z ρ q 7 = z τ q 7 := by rw [zρ q (by omega), pz q (by omega) (by omega)]
  have pρ : ∀ o, q ≤ o → o ≤ q + 12 → z ρ o = z τ o := fun o h1 h2 => by rw [zρ o (by omega), pz o h1 h2]
  have gpρ : GP q ρ := GP_cong gp pρ
  refine b_H_build_165 (mc := 0) (ms := 0) hq D12.1 hp D12.2 Eρ ?_
  rw [q7]
  obtain ⟨hci, h6162, h63, l4, l6⟩ := id hnd
  have s1p : 1 ≤ s1 := by
    have := l4
    unfold lit at this
    omega
  have F48 : frE Sg Rb τ2 ρ := by
    refine ⟨Fρ.1, Fρ.2.1, fun o k hk => ?_, fun o ho => ?_⟩
    · rw [fr_r Fρ]
      by_cases c : o = 48
      · subst c
        exact zr_k (fun e => hk (Or.inr (Or.inr (Or.inr ⟨rfl, e⟩))))
      · exact zr_o c
    · exact Fρ.2.2.2 o (fun hc => ho (mem_Sg2 o hc))
  refine kk ρ ⟨D12.1, D12.2, ?_, fun k hk => ?_, ?_, fun j hj => ?_, ?_, ?_, fun j hj => ?_, ?_, fun k hk => ?_, ?_, s1, ⟨⟨Eρ, ?_, r481⟩, gpρ, hci, ⟨s1p, Nat.le_refl _⟩, h487, fun j hj => (h6162 j hj).2, h63, l4, l6, hinp⟩, henc.1, ?_⟩ Eρ (frE_trans (frE_trans A9 B4) F48) pρ (fun k hk => ?_)
  · rw [zρ 1 (by decide), B1 1 (by decide), A3]; rfl
  · rw [zρ 1 (by decide), B1 1 (by decide), A3, if_neg hk]
  · rw [zρ 2 (by decide), B1 2 (by decide), A2]; rfl
  · rw [zρ 42 (by decide), B1 42 (by decide)]; exact A4 j hj
  · rw [zρ 43 (by decide), B1 43 (by decide)]; exact A6
  · rw [zρ 43 (by decide), B1 43 (by decide)]; exact A7
  · rw [zρ 44 (by decide), B1 44 (by decide)]; exact A5 j hj
  · rw [zρ 47 (by decide), B2]; rfl
  · rw [zρ 47 (by decide), B2, if_neg hk, A1 47 (by decide) (by decide) (by decide) (by decide) (by decide)]
  · rw [hlost, B1 50 (by decide), A1 50 (by decide) (by decide) (by decide) (by decide) (by decide)]
  · rw [rρ 47 2 (by decide)]; exact B3
  · rw [zρ (q + 3) (by omega)]; exact henc.2
  · rw [zρ 2 (by decide), B1 2 (by decide), A2, if_neg hk]
/-- refused -/
theorem h_bad (hd : 5 ≤ d) (hp : p = 16 ∨ p = 29) (hq : q = 16 ∨ q = 29) (r12 : q_r τ 1 2 = p) (r13 : q_r τ 1 3 = q) (hE : q_E τ) (hn : q_n τ < 900000) (h9 : z τ q 9 ≠ 0)
    (kk : Q (.inr (q_n τ + 1)) (q_add (zs (zs (zs τ 2 2 0) 1 5 (z τ q 9)) 1 6 (z τ q 10)) (5, 2))) : J ω m_H_build (d + 1) 1 6 0 0 54 [(0, .ref 1)] [] τ Q :=
  b_H_build_54 (mc := 0) (ms := 0) hp r12 hq r13 hE ⟨fun c => absurd c h9, fun _ => ⟨hn, by omega, kk⟩⟩
end HcP
