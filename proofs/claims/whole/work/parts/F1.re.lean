/-! The reference reads a DECLARATION as pD does -/
def SD (s : Nat) : List Nat := [94, s, s + 1, s + 2, s + 3, s + 4, s + 5, 102, 103, 104, 105, 108, 109]
def WE (s : Nat) (σ00 τ : q_H) : Prop := q_E τ ∧ fr (SD s) σ00 τ ∧ ∀ k, k ∉ [8, 9, 10, 17, 18, 19, 20, 21, 44, 48, 49] → z τ 94 k = z σ00 94 k
def RD (s L : Nat) (K P v : Nat → Int) (C : Nat → Int64) (σ00 σ : q_H) (t : Nat) (D : q_Ds) : Prop :=
  WE s σ00 σ ∧ MT s L K P v σ ∧ DP K C t D ∧ DR D σ ∧ (∀ i j, K i = 30 → K j = 30 → i ≤ L → j ≤ L → (C i = C j ↔ q_l σ 99 i = q_l σ 99 j)) ∧ RT s L K P (NR K v σ) (BR K σ) σ σ t 0 0 D.2.2 0
theorem get_l {α : Type} {l : List α} {a e : α} {j : Nat} (h : l[j]? = some e) : (l ++ [a])[j]? = some e := by
  obtain ⟨lt, -⟩ := List.getElem?_eq_some_iff.mp h
  rw [List.getElem?_append_left lt]; exact h
theorem get_e {α : Type} {l : List α} {a : α} : (l ++ [a])[l.length]? = some a := by
  rw [List.getElem?_append_right (Nat.le_refl _), Nat.sub_self]; rfl
section ReP
variable {ω : q_W} {d s L : Nat} {K P v : Nat → Int} {N : Nat → q_It} {B : Nat → Bool} {C : Nat → Int64} {σ00 σ τ π : q_H} {D : q_Ds} {t : Nat}
theorem RT_base {F : Option (Int × Nat)} (hm : MC s L K P N B σ) (hE : q_E σ) (h8 : z σ 94 8 = (t : Int)) (hL : t ≤ L) (h9 : z σ 94 9 = 0) (h44 : z σ 94 44 = 0) (hF : FB P F (z σ 94 48) (z σ 94 49)) (hx : ∀ y, F = some y → y.2 < t) (h21 : z σ 94 21 = 0) : RT s L K P N B σ σ t 0 0 F 0 := by
  have mono := hm.2.2.2.2.2.1
  refine ⟨⟨⟨hm, hE, fr_refl, fun _ _ => rfl⟩, ⟨h8, hL⟩, h9, ⟨h44, by omega⟩, FA_self, fun q i h1 h2 => ?_, fun x q => by cases q⟩, hF, hx, h21, by omega⟩
  cases F with
  | none => exact absurd hF q
  | some y =>
    have a : z σ 94 49 = P y.2 := hF.2.2
    have b := hx y rfl
    rw [a]
    exact Int.le_of_lt (mono y.2 i (by omega) h2)
theorem DR_addI {y w : Nat} {F : Option (Int × Nat)} (h : DR D τ) (c17 : z π 94 17 = ((D.1.length + D.2.1.length : Nat) : Int) + 1) (c18 : z π 94 18 = (D.1.length : Int) + 1) (c19 : z π 94 19 = z τ 94 19) (c20 : z π 94 20 = (bts D.1 : Int) + (w : Int)) (t103 : z π 103 = up (z τ 103) (D.1.length + D.2.1.length) 1) (t104 : z π 104 = up (z τ 104) (D.1.length + D.2.1.length) (D.1.length : Int)) (t105 : z π 105 = up (z τ 105) (D.1.length + D.2.1.length) (w : Int)) (l102 : q_l π 102 = q_row (q_l τ 102) (D.1.length + D.2.1.length) (q_l τ 99 y)) (l99 : q_l π 99 = q_l τ 99) (t108 : z π 108 = up (z τ 108) D.1.length (w : Int)) (t109 : z π 109 = z τ 109) : DR (D.1 ++ [(y, w)], D.2.1, F) π := by
  obtain ⟨⟨h17, h18, h19, h20⟩, hk, he, hi, hv⟩ := h
  have ln : (D.1 ++ [(y, w)]).length = D.1.length + 1 := by rw [List.length_append]; rfl
  refine ⟨⟨?_, ?_, by rw [c19]; exact h19, ?_⟩, fun k hkk => ?_, fun e hee => ?_, fun j e q => ?_, fun j e q => by rw [t109]; exact hv j e q⟩
  · rw [c17]; show _ = (((D.1 ++ [(y, w)]).length + D.2.1.length : Nat) : Int); rw [ln]; omega
  · rw [c18]; show _ = (((D.1 ++ [(y, w)]).length : Nat) : Int); rw [ln]; omega
  · rw [c20]; show _ = ((bts (D.1 ++ [(y, w)]) : Nat) : Int); rw [bts_app]; rfl
  · have hkk' : k < (D.1 ++ [(y, w)]).length + D.2.1.length := hkk
    rw [ln] at hkk'
    rw [t103, t104, t105, l102, l99]
    by_cases c : k = D.1.length + D.2.1.length
    · rw [c, up_s, up_s, up_s, q_row_s]
      exact Or.inl ⟨rfl, D.1.length, (y, w), get_e, rfl, rfl, rfl⟩
    · rw [up_n c, up_n c, up_n c, q_row_n _ _ c]
      rcases hk k (by omega) with ⟨q, j, e, q1, q2⟩ | ⟨q, j, e, q1, q2⟩
      · exact Or.inl ⟨q, j, e, get_l q1, q2⟩
      · exact Or.inr ⟨q, j, e, q1, q2⟩
  · rw [l102, l99]
    have old : e ∈ D.1 ∨ e ∈ D.2.1 → ∃ k, k < (D.1 ++ [(y, w)]).length + D.2.1.length ∧ q_row (q_l τ 102) (D.1.length + D.2.1.length) (q_l τ 99 y) k = q_l τ 99 e.1 := fun q => by
      obtain ⟨k, k1, k2⟩ := he e q
      exact ⟨k, by rw [ln]; omega, by rw [q_row_n _ _ (by omega)]; exact k2⟩
    have hee' : e ∈ D.1 ++ [(y, w)] ∨ e ∈ D.2.1 := hee
    rcases hee' with q | q
    · rcases List.mem_append.mp q with q | q
      · exact old (Or.inl q)
      · rw [List.mem_singleton.mp q]
        exact ⟨D.1.length + D.2.1.length, by show _ < (D.1 ++ [(y, w)]).length + D.2.1.length; rw [ln]; omega, q_row_s _ _ _⟩
    · exact old (Or.inr q)
  · rw [t108]
    rcases app_get q with ⟨a, b⟩ | ⟨a, b⟩
    · rw [up_n (by omega)]; exact hi j e b
    · rw [a, b, up_s]
theorem DR_addV {y w : Nat} {F : Option (Int × Nat)} (h : DR D τ) (c17 : z π 94 17 = ((D.1.length + D.2.1.length : Nat) : Int) + 1) (c18 : z π 94 18 = z τ 94 18) (c19 : z π 94 19 = (D.2.1.length : Int) + 1) (c20 : z π 94 20 = z τ 94 20) (t103 : z π 103 = up (z τ 103) (D.1.length + D.2.1.length) 0) (t104 : z π 104 = up (z τ 104) (D.1.length + D.2.1.length) (D.2.1.length : Int)) (t105 : z π 105 = up (z τ 105) (D.1.length + D.2.1.length) (w : Int)) (l102 : q_l π 102 = q_row (q_l τ 102) (D.1.length + D.2.1.length) (q_l τ 99 y)) (l99 : q_l π 99 = q_l τ 99) (t108 : z π 108 = z τ 108) (t109 : z π 109 = up (z τ 109) D.2.1.length (w : Int)) : DR (D.1, D.2.1 ++ [(y, w)], F) π := by
  obtain ⟨⟨h17, h18, h19, h20⟩, hk, he, hi, hv⟩ := h
  have ln : (D.2.1 ++ [(y, w)]).length = D.2.1.length + 1 := by rw [List.length_append]; rfl
  refine ⟨⟨?_, by rw [c18]; exact h18, ?_, by rw [c20]; exact h20⟩, fun k hkk => ?_, fun e hee => ?_, fun j e q => by rw [t108]; exact hi j e q, fun j e q => ?_⟩
  · rw [c17]; show _ = ((D.1.length + (D.2.1 ++ [(y, w)]).length : Nat) : Int); rw [ln]; omega
  · rw [c19]; show _ = (((D.2.1 ++ [(y, w)]).length : Nat) : Int); rw [ln]; omega
  · have hkk' : k < D.1.length + (D.2.1 ++ [(y, w)]).length := hkk
    rw [ln] at hkk'
    rw [t103, t104, t105, l102, l99]
    by_cases c : k = D.1.length + D.2.1.length
    · rw [c, up_s, up_s, up_s, q_row_s]
      exact Or.inr ⟨rfl, D.2.1.length, (y, w), get_e, rfl, rfl, rfl⟩
    · rw [up_n c, up_n c, up_n c, q_row_n _ _ c]
      rcases hk k (by omega) with ⟨q, j, e, q1, q2⟩ | ⟨q, j, e, q1, q2⟩
      · exact Or.inl ⟨q, j, e, q1, q2⟩
      · exact Or.inr ⟨q, j, e, get_l q1, q2⟩
  · rw [l102, l99]
    have old : e ∈ D.1 ∨ e ∈ D.2.1 → ∃ k, k < D.1.length + (D.2.1 ++ [(y, w)]).length ∧ q_row (q_l τ 102) (D.1.length + D.2.1.length) (q_l τ 99 y) k = q_l τ 99 e.1 := fun q => by
      obtain ⟨k, k1, k2⟩ := he e q
      exact ⟨k, by rw [ln]; omega, by rw [q_row_n _ _ (by omega)]; exact k2⟩
    have hee' : e ∈ D.1 ∨ e ∈ D.2.1 ++ [(y, w)] := hee
    rcases hee' with q | q
    · exact old (Or.inl q)
    · rcases List.mem_append.mp q with q | q
      · exact old (Or.inr q)
      · rw [List.mem_singleton.mp q]
        exact ⟨D.1.length + D.2.1.length, by show _ < D.1.length + (D.2.1 ++ [(y, w)]).length; rw [ln]; omega, q_row_s _ _ _⟩
  · rw [t109]
    rcases app_get q with ⟨a, b⟩ | ⟨a, b⟩
    · rw [up_n (by omega)]; exact hv j e b
    · rw [a, b, up_s]
theorem WE_MB (h : WE s σ00 σ) (g : MB s L K P N B σ τ) : WE s σ00 τ := by
  obtain ⟨a, b, c⟩ := h
  obtain ⟨-, e, f, i⟩ := g
  refine ⟨e, fr_trans b (fr_mono f (fun x hx => ?_)), fun k hk => (i k (fun q => hk ?_)).trans (c k hk)⟩
  · unfold SM at hx; unfold SD
    simp at hx ⊢
    omega
  · simp at q ⊢
    omega
theorem MT_cong (h : MT s L K P v σ) (hr : q_r τ = q_r σ) (h6 : z τ 96 = z σ 96) (h7 : z τ 97 = z σ 97) (h8 : z τ 98 = z σ 98) : MT s L K P v τ := by
  unfold MT
  rw [hr, h6, h7, h8]
  exact h
/-- rebased at τ; its tables are σ's -/
theorem RD_same {F : Option (Int × Nat)} {t' : Nat} {D' : q_Ds} (h : RD s L K P v C σ00 σ t D) (g : RT s L K P (NR K v σ) (BR K σ) σ τ t' 0 0 F 0) (hD : D' = (D.1, D.2.1, F)) (hP : DP K C t' D') : RD s L K P v C σ00 τ t' D' := by
  subst hD
  obtain ⟨hw, hm, hp, hr, hC, -⟩ := h
  obtain ⟨⟨hb, ⟨g8, gL⟩, g9, ⟨g44, -⟩, -, -, -⟩, gF, gx, g21, -⟩ := id g
  have o := fun a (ha : 95 ≤ a ∧ a ≤ 109) => MB_z (o := a) hb ha
  have k94 := hb.2.2.2
  have hm' : MT s L K P v τ := MT_cong hm hb.2.2.1.2.2.1 (o 96 ⟨by decide, by decide⟩).1 (o 97 ⟨by decide, by decide⟩).1 (o 98 ⟨by decide, by decide⟩).1
  have hr' : DR (D.1, D.2.1, F) τ := by
    unfold DR at hr ⊢
    rw [(o 102 ⟨by decide, by decide⟩).2, (o 99 ⟨by decide, by decide⟩).2, (o 103 ⟨by decide, by decide⟩).1, (o 104 ⟨by decide, by decide⟩).1, (o 105 ⟨by decide, by decide⟩).1, (o 108 ⟨by decide, by decide⟩).1, (o 109 ⟨by decide, by decide⟩).1, k94 17 (by decide), k94 18 (by decide), k94 19 (by decide), k94 20 (by decide)]
    exact hr
  exact ⟨WE_MB hw hb, hm', hP, hr', by rw [(o 99 ⟨by decide, by decide⟩).2]; exact hC, RT_base (MC_R hm' (DR_TB hr' hP)) hb.2.1 g8 gL g9 g44 gF gx g21⟩
/-- the table has grown -/
theorem RD_new {t' : Nat} {D' : q_Ds} (h : RD s L K P v C σ00 σ t D) (g : RT s L K P (NR K v σ) (BR K σ) σ τ t' 0 0 D.2.2 0) (hF : D'.2.2 = D.2.2) (hP : DP K C t' D') (hr : DR D' π) (fp : fr [94, 102, 103, 104, 105, 108, 109] τ π) (kp : ∀ k, k ∉ [17, 18, 19, 20] → z π 94 k = z τ 94 k) : RD s L K P v C σ00 π t' D' := by
  obtain ⟨hw, hm, hp, -, hC, -⟩ := h
  obtain ⟨⟨hb, ⟨g8, gL⟩, g9, ⟨g44, -⟩, -, -, -⟩, gF, gx, g21, -⟩ := id g
  have o := fun a (ha : 95 ≤ a ∧ a ≤ 109) => MB_z (o := a) hb ha
  have z6 : z π 96 = z σ 96 := (fr_zF fp (by decide)).trans (o 96 ⟨by decide, by decide⟩).1
  have z7 : z π 97 = z σ 97 := (fr_zF fp (by decide)).trans (o 97 ⟨by decide, by decide⟩).1
  have z8 : z π 98 = z σ 98 := (fr_zF fp (by decide)).trans (o 98 ⟨by decide, by decide⟩).1
  have l9 : q_l π 99 = q_l σ 99 := ((fp.2.2.2 99 (by decide)).2).trans (o 99 ⟨by decide, by decide⟩).2
  have hm' : MT s L K P v π := MT_cong hm (fp.2.2.1.trans hb.2.2.1.2.2.1) z6 z7 z8
  obtain ⟨w1, w2, w3⟩ := WE_MB hw hb
  refine ⟨⟨fr_E fp w1, fr_trans w2 (fr_mono fp (fun x hx => ?_)), fun k hk => (kp k (fun q => hk ?_)).trans (w3 k hk)⟩, hm', hP, hr, by rw [l9]; exact hC, ?_⟩
  · unfold SD; simp at hx ⊢; omega
  · simp at q ⊢; omega
  · rw [hF]
    exact RT_base (MC_R hm' (DR_TB hr hP)) (fr_E fp w1) ((kp 8 (by decide)).trans g8) gL ((kp 9 (by decide)).trans g9) ((kp 44 (by decide)).trans g44) (by rw [kp 48 (by decide), kp 49 (by decide)]; exact gF) gx ((kp 21 (by decide)).trans g21)
end ReP
