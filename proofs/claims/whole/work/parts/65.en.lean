/-! THE ENCODER, safety -/
def SEn : List Nat := [48, 50, 51, 52, 53, 54, 55, 56, 57, 58, 59, 60, 62, 63, 64, 65, 66, 67, 68, 69]
/-- while a PROGRAM is encoded: fm frames are open; R: the first row holds literals -/
def NX (p fm : Nat) (R : Prop) (σ0 σ : q_H) (s : Nat) : Prop :=
  (q_E σ ∧ q_r σ 48 1 = p) ∧ GP p σ ∧ CI s σ ∧ (∀ j, j < 96 → lit s (z σ 61 j) ∧ lit s (z σ 62 j)) ∧ (∀ j, j < 512 → lit s (z σ 63 j)) ∧ lit s (z σ 48 4) ∧ (z σ 48 12 = (fm : Int) ∧ fm ≤ 32) ∧ (∀ j, j < 96 * fm → lit s (z σ 64 j)) ∧ (∀ j, j < fm → lit s (z σ 65 j) ∧ lit s (z σ 66 j) ∧ lit s (z σ 67 j)) ∧ (0 ≤ z σ 48 15 ∧ z σ 48 15 ≤ 32) ∧ (R → ∀ j, j < 8 → lit s (z σ 58 j)) ∧ fr SEn σ0 σ
section EnP
variable {ω : q_W} {d p fm s : Nat} {R : Prop} {σ σ0 : q_H}
theorem NX_CE {τ : q_H} {s' : Nat} (hp : p = 16 ∨ p = 29) (h : NX p fm R σ0 σ s) (g : CE s s' σ τ) : NX p fm R σ0 τ s' := by
  obtain ⟨⟨hE, r1⟩, gp, hc, a1, a2, a3, a4, a5, a6, a7, a8, f⟩ := h
  obtain ⟨gf, gc, gs, -⟩ := g
  have o : ∀ a, a ∉ [50, 51, 52, 53, 54, 55, 56, 57] → z τ a = z σ a := fun a h => fr_zF gf h
  refine ⟨⟨fr_E gf hE, by rw [fr_r gf]; exact r1⟩, GP_fr gp gf (by simp; omega), gc, ?_, ?_, ?_, ?_, ?_, ?_, ?_, ?_, fr_trans f (fr_mono gf (by unfold SEn; simp))⟩
  · intro j hj; rw [o 61 (by decide), o 62 (by decide)]; exact ⟨lit_m (a1 j hj).1 gs, lit_m (a1 j hj).2 gs⟩
  · intro j hj; rw [o 63 (by decide)]; exact lit_m (a2 j hj) gs
  · rw [o 48 (by decide)]; exact lit_m a3 gs
  · rw [o 48 (by decide)]; exact a4
  · intro j hj; rw [o 64 (by decide)]; exact lit_m (a5 j hj) gs
  · intro j hj; rw [o 65 (by decide), o 66 (by decide), o 67 (by decide)]; exact ⟨lit_m (a6 j hj).1 gs, lit_m (a6 j hj).2.1 gs, lit_m (a6 j hj).2.2 gs⟩
  · rw [o 48 (by decide)]; exact a7
  · intro hR j hj; rw [o 58 (by decide)]; exact lit_m (a8 hR j hj) gs
/-- after words were worked out -/
theorem NX_WS {τ : q_H} {s' n : Nat} {R' : Prop} (hp : p = 16 ∨ p = 29) (h : NX p fm R σ0 σ s) (g : WS n σ s τ s') (hR : R' → 8 ≤ n) : NX p fm R' σ0 τ s' := by
  obtain ⟨⟨hE, r1⟩, gp, hc, a1, a2, a3, a4, a5, a6, a7, a8, f⟩ := h
  obtain ⟨gE, gc, gl, gf, gs⟩ := g
  have o : ∀ a, a ∉ SWo → z τ a = z σ a := fun a h => fr_zF gf h
  refine ⟨⟨gE, by rw [fr_r gf]; exact r1⟩, GP_fr gp gf (by unfold SWo; simp; omega), gc, ?_, ?_, ?_, ?_, ?_, ?_, ?_, ?_, fr_trans f (fr_mono gf (by unfold SEn SWo; simp))⟩
  · intro j hj; rw [o 61 (by decide), o 62 (by decide)]; exact ⟨lit_m (a1 j hj).1 gs, lit_m (a1 j hj).2 gs⟩
  · intro j hj; rw [o 63 (by decide)]; exact lit_m (a2 j hj) gs
  · rw [o 48 (by decide)]; exact lit_m a3 gs
  · rw [o 48 (by decide)]; exact a4
  · intro j hj; rw [o 64 (by decide)]; exact lit_m (a5 j hj) gs
  · intro j hj; rw [o 65 (by decide), o 66 (by decide), o 67 (by decide)]; exact ⟨lit_m (a6 j hj).1 gs, lit_m (a6 j hj).2.1 gs, lit_m (a6 j hj).2.2 gs⟩
  · rw [o 48 (by decide)]; exact a7
  · intro hR' j hj; exact gl j (by have := hR hR'; omega)
theorem NX_w {o k : Nat} {e : Int} (hp : p = 16 ∨ p = 29) (h : NX p fm R σ0 σ s) (ho : o = 48 ∨ (62 ≤ o ∧ o ≤ 69)) (hk : o = 48 → k ≠ 12) (hl : (62 ≤ o ∧ o ≤ 67) ∨ (o = 48 ∧ k = 4) → lit s e) (h15 : o = 48 → k = 15 → 0 ≤ e ∧ e ≤ 32) : NX p fm R σ0 (zs σ o k e) s := by
  obtain ⟨⟨hE, r1⟩, gp, ⟨hc1, hc2⟩, a1, a2, a3, a4, a5, a6, a7, a8, f⟩ := h
  have q : ∀ a, a ≠ o → z (zs σ o k e) a = z σ a := fun a h => z_oF h
  have L : ∀ a j, (62 ≤ a ∧ a ≤ 67) → lit s (z σ a j) → lit s (z (zs σ o k e) a j) := by
    intro a j ha hj
    by_cases c : a = o
    · have he := hl (Or.inl (by omega))
      rw [z_if (lit_R hc2.1.2 he)]
      split
      · exact he
      · exact hj
    · rw [q a c]; exact hj
  have F : ∀ j, j ≠ k → z (zs σ o k e) 48 j = z σ 48 j := by
    intro j hj
    exact z_k hj
  refine ⟨⟨zs_E hE, r1⟩, GP_fr (S := [o]) gp (fr_s fr_refl (by simp)) (by simp; omega), ⟨?_, ?_⟩, ?_, ?_, ?_, ?_, ?_, ?_, ?_, ?_, fr_s f (by unfold SEn; simp; omega)⟩
  · rw [q 50 (by omega)]; exact hc1
  · rw [q 51 (by omega), q 52 (by omega), q 53 (by omega), q 54 (by omega), q 55 (by omega), q 56 (by omega), q 57 (by omega)]; exact hc2
  · intro j hj; rw [q 61 (by omega)]; exact ⟨(a1 j hj).1, L 62 j (by decide) (a1 j hj).2⟩
  · intro j hj; exact L 63 j (by decide) (a2 j hj)
  · by_cases c : o = 48 ∧ k = 4
    · have he := hl (Or.inr c)
      rw [c.1, c.2, z_s (lit_R hc2.1.2 he)]; exact he
    · by_cases c2 : o = 48
      · rw [F 4 (by omega)]; exact a3
      · rw [q 48 (by omega)]; exact a3
  · by_cases c2 : o = 48
    · rw [F 12 (by have := hk c2; omega)]; exact a4
    · rw [q 48 (by omega)]; exact a4
  · intro j hj; exact L 64 j (by decide) (a5 j hj)
  · intro j hj; exact ⟨L 65 j (by decide) (a6 j hj).1, L 66 j (by decide) (a6 j hj).2.1, L 67 j (by decide) (a6 j hj).2.2⟩
  · by_cases c2 : o = 48
    · by_cases c3 : k = 15
      · have := h15 c2 c3
        rw [c2, c3, z_s ⟨by omega, by omega⟩]; exact this
      · rw [F 15 (by omega)]; exact a7
    · rw [q 48 (by omega)]; exact a7
  · intro hR j hj; rw [q 58 (by omega)]; exact a8 hR j hj
theorem NX_s (h : NX p fm R σ0 σ s) : 1 ≤ s ∧ s ≤ 10240 := h.2.2.1.2.1
theorem NX_E (h : NX p fm R σ0 σ s) : q_E σ := h.1.1
theorem n_and {K : Int → q_H → Prop} {x1 x2 : Int} (hd : 1 ≤ d) (hp : p = 16 ∨ p = 29) (h : NX p fm R σ0 σ s) (h1 : lit s x1) (h2 : lit s x2) (kk : ∀ v τ s', NX p fm R σ0 τ s' → s ≤ s' → lit s' v → (∀ a, 58 ≤ a ∨ a = 48 → z τ a = z σ a) → K v τ) : J ω m_Ci_and d 0 0 0 0 0 [(0, .ref 50), (1, .int (zI x1)), (2, .int (zI x2))] [] σ (q_ki K) :=
  c_Ci_and hd h.1.1 h.2.2.1 h1 h2 (fun v τ s' ht hv => kk v τ s' (NX_CE hp h ht) ht.2.2.1 hv (fun a ha => fr_zF ht.1 (by simp; omega)))
theorem n_or {K : Int → q_H → Prop} {x1 x2 : Int} (hd : 2 ≤ d) (hp : p = 16 ∨ p = 29) (h : NX p fm R σ0 σ s) (h1 : lit s x1) (h2 : lit s x2) (kk : ∀ v τ s', NX p fm R σ0 τ s' → s ≤ s' → lit s' v → (∀ a, 58 ≤ a ∨ a = 48 → z τ a = z σ a) → K v τ) : J ω m_Ci_or d 0 0 0 0 0 [(0, .ref 50), (1, .int (zI x1)), (2, .int (zI x2))] [] σ (q_ki K) :=
  c_Ci_or hd h.1.1 h.2.2.1 h1 h2 (fun v τ s' ht hv => kk v τ s' (NX_CE hp h ht) ht.2.2.1 hv (fun a ha => fr_zF ht.1 (by simp; omega)))
theorem n_pick {K : Int → q_H → Prop} {x1 x2 x3 : Int} (hd : 2 ≤ d) (hp : p = 16 ∨ p = 29) (h : NX p fm R σ0 σ s) (h1 : lit s x1) (h2 : lit s x2) (h3 : lit s x3) (kk : ∀ v τ s', NX p fm R σ0 τ s' → s ≤ s' → lit s' v → (∀ a, 58 ≤ a ∨ a = 48 → z τ a = z σ a) → K v τ) : J ω m_Ci_pick d 0 0 0 0 0 [(0, .ref 50), (1, .int (zI x1)), (2, .int (zI x2)), (3, .int (zI x3))] [] σ (q_ki K) :=
  c_Ci_pick hd h.1.1 h.2.2.1 h1 h2 h3 (fun v τ s' ht hv => kk v τ s' (NX_CE hp h ht) ht.2.2.1 hv (fun a ha => fr_zF ht.1 (by simp; omega)))
theorem n_truth {K : Int → q_H → Prop} (hd : 3 ≤ d) (hp : p = 16 ∨ p = 29) (h : NX p fm R σ0 σ s) (hR : R) (kk : ∀ v τ s', NX p fm R σ0 τ s' → s ≤ s' → lit s' v → z τ 48 = z σ 48 → K v τ) : J ω m_Wo_truth d 0 0 0 0 0 [(0, .ref 49), (1, .int (zI 0))] [] σ (q_ki K) :=
  w_truth (a := 0) (n := 8) hd (by decide) (by decide) ⟨h.1.1, h.2.2.1, h.2.2.2.2.2.2.2.2.2.2.1 hR, fr_refl, Nat.le_refl _⟩ (fun v τ s' ht hs hv => kk v τ s' (NX_WS hp h ht (fun _ => Nat.le_refl _)) hs hv (fr_zF ht.2.2.2.1 (by decide)))
theorem n_claim {K : q_H → Prop} {x1 x2 : Int} (hd : 3 ≤ d) (hp : p = 16 ∨ p = 29) (h : NX p fm R σ0 σ s) (h1 : 0 ≤ x1 ∧ x1 < 512) (h2 : lit s x2) (kk : ∀ τ s', NX p fm R σ0 τ s' → K τ) : J ω m_En_claim d 0 0 0 0 0 [(0, .ref 48), (1, .int (zI x1)), (2, .int (zI x2))] [] σ (q_kv K) := by
  obtain ⟨d, rfl⟩ : ∃ k, d = k + 1 := ⟨d - 1, by omega⟩
  refine b_En_claim_0 hp h.1.2 h.1.1 (n_and (by omega) hp h h.2.2.2.2.2.1 (lit_x (NX_s h).2 h2).1 (fun v τ t ht hs hv _ => b_En_claim_17 hp ht.1.2 ht.1.1 ⟨h1, n_or (by omega) hp ht (ht.2.2.2.2.1 _ (by omega)) hv (fun v2 τ2 t2 ht2 hs2 hv2 _ => b_En_claim_40 hp ht2.1.2 ht2.1.1 ⟨h1, ?_⟩)⟩))
  have hw := NX_w (o := 63) (k := x1.toNat) hp ht2 (Or.inr (by decide)) (fun c => absurd c (by decide)) (fun _ => hv2) (fun c => absurd c (by decide))
  have e4 : z (zs τ2 63 x1.toNat v2) 48 4 = z τ2 48 4 := z_o (by decide)
  exact n_and (by omega) hp hw (e4 ▸ ht2.2.2.2.2.2.1) (lit_m h2 (by omega)) (fun v3 τ3 t3 ht3 hs3 hv3 _ => b_En_claim_57 hp ht3.1.2 ht3.1.1 ⟨rfl, kk _ t3 (NX_w hp ht3 (Or.inl rfl) (fun _ => by decide) (fun _ => hv3) (fun _ c => absurd c (by decide)))⟩)
theorem n_deny {K : q_H → Prop} {x1 : Int} (hd : 2 ≤ d) (hp : p = 16 ∨ p = 29) (h : NX p fm R σ0 σ s) (h1 : lit s x1) (kk : ∀ τ s', NX p fm R σ0 τ s' → K τ) : J ω m_En_deny d 0 0 0 0 0 [(0, .ref 48), (1, .int (zI x1))] [] σ (q_kv K) := by
  obtain ⟨d, rfl⟩ : ∃ k, d = k + 1 := ⟨d - 1, by omega⟩
  have g41 : ∀ τ, NX p fm R σ0 τ s → z τ 48 15 < 32 → J ω m_En_deny (d + 1) 0 0 0 0 41 [(0, .ref 48), (1, .int (zI x1))] [] τ (q_kv K) := by
    intro τ ht h32
    have a7 := ht.2.2.2.2.2.2.2.2.2.1
    have w1 := NX_w (o := 69) (k := (z τ 48 15).toNat) (e := x1) hp ht (Or.inr (by decide)) (fun c => absurd c (by omega)) (fun c => absurd c (by omega)) (fun c => absurd c (by omega))
    have w2 := NX_w (o := 48) (k := 15) (e := z τ 48 15 + 1) hp w1 (Or.inl rfl) (fun _ => by decide) (fun c => absurd c (by decide)) (fun _ _ => ⟨by omega, by omega⟩)
    have e4 : z (zs (zs τ 69 (z τ 48 15).toNat x1) 48 15 (z τ 48 15 + 1)) 48 4 = z τ 48 4 := by rw [z_k (by decide), z_o (by decide)]
    refine b_En_deny_41 hp ht.1.2 ht.1.1 ⟨⟨a7.1, h32⟩, n_and (by omega) hp w2 (e4 ▸ ht.2.2.2.2.2.1) (lit_x (NX_s ht).2 h1).1 (fun v3 τ3 t3 ht3 hs3 hv3 _ => b_En_deny_79 hp ht3.1.2 ht3.1.1 ⟨rfl, kk _ t3 (NX_w hp ht3 (Or.inl rfl) (fun _ => by decide) (fun _ => hv3) (fun _ c => absurd c (by decide)))⟩)⟩
  have a7 := h.2.2.2.2.2.2.2.2.2.1
  have l : ∀ (k i : Nat), 32 ≤ i + k → i ≤ 32 → J ω m_En_deny (d + 1) 0 0 0 0 2 [(0, .ref 48), (1, .int (zI x1)), (2, .int (zI (i : Int)))] [] σ (q_kv K) := by
    intro k
    have out : ∀ i : Nat, q_imp (z σ 48 15 ≠ 32) (J ω m_En_deny (d + 1) 0 0 0 0 41 [(0, .ref 48), (1, .int (zI x1))] [] σ (q_kv K)) ∧ q_imp (z σ 48 15 = 32) (J ω m_En_deny (d + 1) 0 0 0 0 41 [(0, .ref 48), (1, .int (zI x1))] [] (zs σ 48 15 0) (q_kv K)) := fun i => ⟨fun c => g41 σ h (by omega), fun c => g41 _ (NX_w hp h (Or.inl rfl) (fun _ => by decide) (fun c => absurd c (by decide)) (fun _ _ => by decide)) (by rw [z_s ⟨by decide, by decide⟩]; decide)⟩
    induction k with
    | zero =>
      intro i hi h32
      exact b_En_deny_2 hp h.1.2 h.1.1 ⟨⟨by omega, by omega⟩, fun _ => out i, fun c => absurd c (by omega)⟩
    | succ k ih =>
      intro i hi h32
      exact b_En_deny_2 hp h.1.2 h.1.1 ⟨⟨by omega, by omega⟩, fun _ => out i, fun c => ⟨⟨by omega, by omega⟩, lit_R (NX_s h).2 h1, fun _ => ih (i + 1) (by omega) (by omega), fun _ => ⟨rfl, kk σ s h⟩⟩⟩
  exact b_En_deny_0 hp h.1.2 h.1.1 (l 32 0 (by decide) (by decide))
theorem n_fork {K : q_H → Prop} {x1 : Int} (hd : 2 ≤ d) (hp : p = 16 ∨ p = 29) (h : NX p fm R σ0 σ s) (hf : fm ≤ 31) (h1 : lit s x1) (kk : ∀ τ s', NX p (fm + 1) R σ0 τ s' → K τ) : J ω m_En_fork d 0 0 0 0 0 [(0, .ref 48), (1, .int (zI x1))] [] σ (q_kv K) := by
  obtain ⟨d, rfl⟩ : ∃ k, d = k + 1 := ⟨d - 1, by omega⟩
  obtain ⟨⟨hE, r1⟩, gp, hc, a1, a2, a3, a4, a5, a6, a7, a8, f⟩ := id h
  refine b_En_fork_0 hp r1 hE ?_
  rw [a4.1, show ((fm : Int) * 96).toNat = 96 * fm by omega]
  have e : ∀ a, a ≠ 64 → z (zcp σ 62 0 64 (96 * fm) 96) a = z σ a := fun a ha => funext fun j => z_cp_o ha
  have l64 : ∀ j, j < 96 * (fm + 1) → lit s (z (zcp σ 62 0 64 (96 * fm) 96) 64 j) := by
    intro j hj
    by_cases c : 96 * fm ≤ j ∧ j < 96 * fm + 96
    · rw [z_cp_in c]; exact (a1 _ (by omega)).2
    · rw [z_cp_out c]; exact a5 j (by omega)
  have w0 : NX p fm R σ0 (zcp σ 62 0 64 (96 * fm) 96) s := by
    refine ⟨⟨zcp_E hE, r1⟩, GP_cong gp (fun o _ _ => e o (by omega)), ⟨?_, ?_⟩, ?_, ?_, ?_, ?_, fun j hj => l64 j (by omega), ?_, ?_, ?_, fr_c f (by unfold SEn; simp)⟩
    · rw [e 50 (by decide)]; exact hc.1
    · rw [e 51 (by decide), e 52 (by decide), e 53 (by decide), e 54 (by decide), e 55 (by decide), e 56 (by decide), e 57 (by decide)]; exact hc.2
    · rw [e 61 (by decide), e 62 (by decide)]; exact a1
    · rw [e 63 (by decide)]; exact a2
    · rw [e 48 (by decide)]; exact a3
    · rw [e 48 (by decide)]; exact a4
    · rw [e 65 (by decide), e 66 (by decide), e 67 (by decide)]; exact a6
    · rw [e 48 (by decide)]; exact a7
    · rw [e 58 (by decide)]; exact a8
  refine ⟨⟨by omega, by omega, by omega, by omega, by omega⟩, n_and (by omega) hp w0 a3 (lit_x (NX_s h).2 h1).1 (fun v τ t ht hs hv o1 => ?_)⟩
  have t12 := ht.2.2.2.2.2.2.1.1
  have t4 := ht.2.2.2.2.2.1
  refine b_En_fork_46 hp ht.1.2 ht.1.1 ?_
  rw [t12, Int.toNat_natCast]
  have w1 := NX_w (o := 65) (k := fm) (e := v) hp ht (Or.inr (by decide)) (fun c => absurd c (by decide)) (fun _ => hv) (fun c => absurd c (by decide))
  have w2 := NX_w (o := 66) (k := fm) (e := z τ 48 4) hp w1 (Or.inr (by decide)) (fun c => absurd c (by decide)) (fun _ => t4) (fun c => absurd c (by decide))
  have w3 := NX_w (o := 67) (k := fm) (e := x1) hp w2 (Or.inr (by decide)) (fun c => absurd c (by decide)) (fun _ => lit_m h1 hs) (fun c => absurd c (by decide))
  have hR := (NX_s ht).2
  have q65 : z (zs (zs (zs τ 65 fm v) 66 fm (z τ 48 4)) 67 fm x1) 65 fm = v := by rw [z_o (by decide), z_o (by decide), z_s (lit_R hR hv)]
  have q66 : z (zs (zs (zs τ 65 fm v) 66 fm (z τ 48 4)) 67 fm x1) 66 fm = z τ 48 4 := by rw [z_o (by decide), z_s (z_R _ _ _)]
  have q67 : z (zs (zs (zs τ 65 fm v) 66 fm (z τ 48 4)) 67 fm x1) 67 fm = x1 := z_s (lit_R (NX_s h).2 h1)
  have q64 : z (zs (zs (zs τ 65 fm v) 66 fm (z τ 48 4)) 67 fm x1) 64 = z (zcp σ 62 0 64 (96 * fm) 96) 64 := by rw [z_oF (by decide), z_oF (by decide), z_oF (by decide), o1 64 (by decide)]
  have q4 : z (zs (zs (zs τ 65 fm v) 66 fm (z τ 48 4)) 67 fm x1) 48 4 = z τ 48 4 := by rw [z_o (by decide), z_o (by decide), z_o (by decide)]
  refine ⟨⟨by omega, by omega⟩, ⟨by omega, by omega⟩, n_and (by omega) hp w3 (q4 ▸ t4) (lit_m h1 hs) (fun v2 τ2 t2 ht2 hs2 hv2 o2 => b_En_fork_86 hp ht2.1.2 ht2.1.1 ⟨rfl, kk _ t2 ?_⟩)⟩
  obtain ⟨⟨bE, br⟩, bgp, bc, b1, b2, b3, b4, b5, b6, b7, b8, bf⟩ := id ht2
  rw [b4.1]
  have u : ∀ a, a ≠ 48 → z (zs (zs (zs τ2 48 4 v2) 48 12 ((fm : Int) + 1)) 48 15 0) a = z τ2 a := fun a h => by rw [z_oF h, z_oF h, z_oF h]
  refine ⟨⟨zs_E (zs_E (zs_E bE)), br⟩, GP_cong bgp (fun o _ _ => u o (by omega)), ⟨?_, ?_⟩, ?_, ?_, ?_, ⟨?_, by omega⟩, ?_, ?_, ?_, ?_, fr_s (fr_s (fr_s bf (by unfold SEn; simp)) (by unfold SEn; simp)) (by unfold SEn; simp)⟩
  · rw [u 50 (by decide)]; exact bc.1
  · rw [u 51 (by decide), u 52 (by decide), u 53 (by decide), u 54 (by decide), u 55 (by decide), u 56 (by decide), u 57 (by decide)]; exact bc.2
  · rw [u 61 (by decide), u 62 (by decide)]; exact b1
  · rw [u 63 (by decide)]; exact b2
  · rw [z_k (by decide), z_k (by decide), z_s (lit_R (NX_s ht2).2 hv2)]; exact hv2
  · rw [z_k (by decide), z_s ⟨by omega, by omega⟩]; omega
  · intro j hj; rw [u 64 (by decide), o2 64 (by decide), q64]; exact lit_m (l64 j hj) (by omega)
  · intro j hj
    rw [u 65 (by decide), u 66 (by decide), u 67 (by decide)]
    by_cases c : j = fm
    · subst c
      rw [o2 65 (by decide), o2 66 (by decide), o2 67 (by decide), q65, q66, q67]
      exact ⟨lit_m hv hs2, lit_m t4 hs2, lit_m h1 (by omega)⟩
    · exact b6 j (by omega)
  · rw [z_s ⟨by decide, by decide⟩]; decide
  · rw [u 58 (by decide)]; exact b8
end EnP
