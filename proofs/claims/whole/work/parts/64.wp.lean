/-! WORDS, safety: multiply, divide, shift, and who calls them -/
section WpJ
variable {ω : q_W} {d s n s0 : Nat} {σ σ0 : q_H}
/-- a copy into the rows of bits -/
theorem WS_cp {o sp dp m : Nat} (h : WS n σ0 s0 σ s) (ho : ∀ j, sp ≤ j → j < sp + m → lit s (z σ o j)) : WS n σ0 s0 (zcp σ o sp 58 dp m) s := by
  obtain ⟨hE, ⟨hc1, hc2⟩, hl, f, hs⟩ := h
  have e : ∀ a, a ≠ 58 → z (zcp σ o sp 58 dp m) a = z σ a := fun a ha => funext fun j => z_cp_o ha
  refine ⟨zcp_E hE, ⟨?_, ?_⟩, fun j hj => ?_, fr_c f (by unfold SWo; simp), hs⟩
  · rw [e 50 (by decide)]; exact hc1
  · rw [e 51 (by decide), e 52 (by decide), e 53 (by decide), e 54 (by decide), e 55 (by decide), e 56 (by decide), e 57 (by decide)]; exact hc2
  · by_cases c : dp ≤ j ∧ j < dp + m
    · rw [z_cp_in c]; exact ho _ (by omega) (by omega)
    · rw [z_cp_out c]; exact hl j hj
theorem w_load {K : q_H → Prop} {a b x3 : Nat} (hd : 1 ≤ d) (hb : b = 61 ∨ b = 62) (ha : a + 8 ≤ 3200) (h3 : x3 + 8 ≤ 96) (h : WS n σ0 s0 σ s) (hl : ∀ j, j < 96 → lit s (z σ b j)) (kk : ∀ τ, WS n σ0 s0 τ s → (∀ i, a ≤ i → i < a + 8 → lit s (z τ 58 i)) → K τ) : J ω m_Wo_load d 0 0 0 0 0 [(0, .ref 49), (1, .int (zI (a : Int))), (2, .ref b), (3, .int (zI (x3 : Int)))] [] σ (q_kv K) := by
  obtain ⟨d, rfl⟩ : ∃ k, d = k + 1 := ⟨d - 1, by omega⟩
  refine b_Wo_load_0 hb h.1 ⟨⟨by omega, by omega, by omega, by omega, by omega⟩, rfl, ?_⟩
  rw [Int.toNat_natCast, Int.toNat_natCast]
  refine kk _ (WS_cp h (fun j _ h2 => hl j (by omega))) (fun i h1 h2 => ?_)
  rw [z_cp_in ⟨h1, h2⟩]; exact hl _ (by omega)
theorem w_multiply {K : q_H → Prop} {a b : Nat} {x3 : Int} (hd : 3 ≤ d) (hn : n ≤ 3200) (ha : a + 8 ≤ n) (hb : b + 8 ≤ n) (h3 : 0 ≤ x3 ∧ x3 ≤ 8) (h : WS n σ0 s0 σ s) (kk : ∀ τ s', WS n σ0 s0 τ s' → K τ) : J ω m_Wo_multiply d 0 0 0 0 0 [(0, .ref 49), (1, .int (zI (a : Int))), (2, .int (zI (b : Int))), (3, .int (zI x3))] [] σ (q_kv K) := by
  obtain ⟨d, rfl⟩ : ∃ k, d = k + 1 := ⟨d - 1, by omega⟩
  have l : ∀ (m : Nat) (r : Nat) (ρ : q_H) (t : Nat), 8 ≤ r + m → r ≤ 8 → WS n σ0 s0 ρ t → (∀ j, j < 8 → lit t (z ρ 59 j)) → J ω m_Wo_multiply (d + 1) 0 0 0 0 11 [(0, .ref 49), (1, .int (zI (a : Int))), (2, .int (zI (b : Int))), (3, .int (zI x3)), (4, .int (zI (r : Int)))] [] ρ (q_kv K) := by
    intro m
    induction m with
    | zero =>
      intro r ρ t hr h8 hw hl
      refine b_Wo_multiply_11 hw.1 ⟨⟨by omega, by omega⟩, ⟨by omega, by omega⟩, fun _ => ⟨⟨by omega, by omega, by omega, by omega, by omega⟩, rfl, kk _ t (WS_cp hw (fun j _ h2 => hl j (by omega)))⟩, fun c => absurd c (by omega)⟩
    | succ m ih =>
      intro r ρ t hr h8 hw hl
      have l2 : ∀ (k i : Nat) (x5 : Int) (ρ : q_H) (t : Nat), 8 ≤ i + k → i ≤ 8 → r ≤ i → (r : Int) < x3 → WS n σ0 s0 ρ t → lit t x5 → (∀ j, j < 8 → lit t (z ρ 59 j)) → J ω m_Wo_multiply (d + 1) 0 0 0 0 24 [(0, .ref 49), (1, .int (zI (a : Int))), (2, .int (zI (b : Int))), (3, .int (zI x3)), (4, .int (zI (r : Int))), (5, .int (zI x5)), (6, .int (zI (i : Int)))] [] ρ (q_kv K) := by
        intro k
        induction k with
        | zero =>
          intro i x5 ρ t hi h8 hri hr3 hw hx hl
          exact b_Wo_multiply_24 hw.1 ⟨⟨by omega, by omega⟩, ⟨by omega, by omega⟩, fun _ => ih (r + 1) ρ t (by omega) (by omega) hw hl, fun c => absurd c (by omega)⟩
        | succ k ih2 =>
          intro i x5 ρ t hi h8 hri hr3 hw hx hl
          refine b_Wo_multiply_24 hw.1 ⟨⟨by omega, by omega⟩, ⟨by omega, by omega⟩, fun _ => ih (r + 1) ρ t (by omega) (by omega) hw hl, fun c => ?_⟩
          rw [Int.toNat_natCast]
          refine ⟨⟨by omega, by omega⟩, ⟨by omega, by omega⟩, ⟨by omega, by omega⟩, w_and (by omega) hw (WS_at hw (by omega) (by omega)) (WS_at hw (by omega) (by omega)) (fun v τ s1 ht hs hv kp => b_Wo_multiply_73 ht.1 (w_xor (by omega) ht (lit_m (hl i (by omega)) hs) hv (fun v2 τ2 s2 ht2 hs2 hv2 kp2 => b_Wo_multiply_76 ht2.1 (w_xor (by omega) ht2 hv2 (lit_m hx (by omega)) (fun v3 τ3 s3 ht3 hs3 hv3 kp3 => b_Wo_multiply_95 ht3.1 ⟨⟨by omega, by omega⟩, ?_⟩)))))⟩
          rw [Int.toNat_natCast]
          refine w_pick (by omega) (WS_sc (Or.inl rfl) ht3) (lit_m hv2 hs3) (lit_m hx (by omega)) (lit_m (hl i (by omega)) (by omega)) (fun v4 τ4 s4 ht4 hs4 hv4 kp4 => b_Wo_multiply_109 ht4.1 (ih2 (i + 1) v4 τ4 s4 (by omega) (by omega) (by omega) hr3 ht4 hv4 (fun j hj => ?_)))
          rw [kp4.1, z_if (lit_R (WS_s ht3).2 hv3)]
          split
          · exact lit_m hv3 hs4
          · rw [kp3.1, kp2.1, kp.1]; exact lit_m (hl j hj) (by omega)
      exact b_Wo_multiply_11 hw.1 ⟨⟨by omega, by omega⟩, ⟨by omega, by omega⟩, fun _ => ⟨⟨by omega, by omega, by omega, by omega, by omega⟩, rfl, kk _ t (WS_cp hw (fun j _ h2 => hl j (by omega)))⟩, fun c => l2 8 r 1 ρ t (by omega) h8 (Nat.le_refl _) c hw (lit_1 hw) hl⟩
  have fw : WS n σ0 s0 (zfl σ 59 8 1) s := by
    obtain ⟨hE, ⟨hc1, hc2⟩, hl, f, hs⟩ := id h
    have e : ∀ a, a ≠ 59 → z (zfl σ 59 8 1) a = z σ a := fun a ha => funext fun j => z_fl_o ha
    refine ⟨zfl_E hE, ⟨?_, ?_⟩, fun j hj => ?_, fr_f f (by unfold SWo; simp), hs⟩
    · rw [e 50 (by decide)]; exact hc1
    · rw [e 51 (by decide), e 52 (by decide), e 53 (by decide), e 54 (by decide), e 55 (by decide), e 56 (by decide), e 57 (by decide)]; exact hc2
    · rw [e 58 (by decide)]; exact hl j hj
  exact b_Wo_multiply_0 h.1 (l 8 0 _ s (by decide) (by decide) fw (fun j hj => by rw [z_fl ⟨by decide, by decide⟩ hj]; exact lit_1 h))
theorem w_shift {K : q_H → Prop} {a b : Nat} {x1 x4 : Int} (hd : 3 ≤ d) (hn : n ≤ 3200) (ha : a + 8 ≤ n) (hb : b + 8 ≤ n) (i1 : inR x1) (h4 : 0 ≤ x4 ∧ x4 ≤ 8) (h : WS n σ0 s0 σ s) (kk : ∀ τ s', WS n σ0 s0 τ s' → K τ) : J ω m_Wo_shift d 0 0 0 0 0 [(0, .ref 49), (1, .int (zI x1)), (2, .int (zI (a : Int))), (3, .int (zI (b : Int))), (4, .int (zI x4))] [] σ (q_kv K) := by
  obtain ⟨d, rfl⟩ : ∃ k, d = k + 1 := ⟨d - 1, by omega⟩
  have e8 : ∀ (k i : Nat) (x5 : Int) (ρ : q_H) (t : Nat), 8 ≤ i + k → i ≤ 8 → WS n σ0 s0 ρ t → lit t x5 → J ω m_Wo_shift (d + 1) 0 0 0 0 168 [(0, .ref 49), (2, .int (zI (a : Int))), (4, .int (zI x4)), (5, .int (zI x5)), (6, .int (zI (i : Int)))] [] ρ (q_kv K) := by
    intro k
    induction k with
    | zero =>
      intro i x5 ρ t hi h8 hw hx
      exact b_Wo_shift_168 hw.1 ⟨⟨by omega, by omega⟩, ⟨by omega, by omega⟩, fun _ => ⟨rfl, kk ρ t hw⟩, fun c => absurd c (by omega)⟩
    | succ k ih =>
      intro i x5 ρ t hi h8 hw hx
      exact b_Wo_shift_168 hw.1 ⟨⟨by omega, by omega⟩, ⟨by omega, by omega⟩, fun _ => ⟨rfl, kk ρ t hw⟩, fun c => ⟨⟨by omega, by omega⟩, w_and (by omega) hw (WS_at hw (by omega) (by omega)) (lit_x (WS_s hw).2 hx).1 (fun v τ s' ht hs hv _ => b_Wo_shift_203 ht.1 ⟨⟨by omega, by omega⟩, ih (i + 1) x5 _ s' (by omega) (by omega) (WS_58 ht hv) (lit_m hx hs)⟩)⟩⟩
  have l : ∀ (m g : Nat) (x5 : Int) (ρ : q_H) (t : Nat), 8 ≤ g + m → g ≤ 8 → WS n σ0 s0 ρ t → lit t x5 → J ω m_Wo_shift (d + 1) 0 0 0 0 6 [(0, .ref 49), (1, .int (zI x1)), (2, .int (zI (a : Int))), (3, .int (zI (b : Int))), (4, .int (zI x4)), (5, .int (zI x5)), (6, .int (zI (g : Int)))] [] ρ (q_kv K) := by
    intro m
    induction m with
    | zero =>
      intro g x5 ρ t hg h8 hw hx
      exact b_Wo_shift_6 hw.1 ⟨⟨by omega, by omega⟩, fun _ => e8 8 0 x5 ρ t (by decide) (by decide) hw hx, fun c => absurd c (by omega)⟩
    | succ m ih =>
      intro g x5 ρ t hg h8 hw hx
      refine b_Wo_shift_6 hw.1 ⟨⟨by omega, by omega⟩, fun _ => e8 8 0 x5 ρ t (by decide) (by decide) hw hx, fun c => ?_⟩
      have lb := WS_at hw (e := (b : Int) + g) (by omega) (by omega)
      have hsh : 1 ≤ zShl 1 (g : Int) ∧ zShl 1 (g : Int) ≤ 128 := by
        rw [zShl_1 g (by omega)]
        have : ∀ g : Nat, g < 8 → (1 : Int) ≤ 2 ^ g ∧ (2 : Int) ^ g ≤ 128 := by decide
        exact this g (by omega)
      have l3 : ∀ (x8 : Int), lit t x8 → ∀ (k i : Nat) (ρ : q_H) (t' : Nat), 8 ≤ i + k → i ≤ 8 → (i : Int) ≤ x4 → t ≤ t' → WS n σ0 s0 ρ t' → (∀ j, j < i → lit t' (z ρ 59 j)) → J ω m_Wo_shift (d + 1) 0 0 0 0 56 [(0, .ref 49), (1, .int (zI x1)), (2, .int (zI (a : Int))), (3, .int (zI (b : Int))), (4, .int (zI x4)), (5, .int (zI x5)), (6, .int (zI (g : Int))), (7, .int (zI (zShl 1 (g : Int)))), (8, .int (zI x8)), (9, .int (zI (i : Int)))] [] ρ (q_kv K) := by
        intro x8 hx8 k
        have fin : ∀ (i : Nat) (ρ : q_H) (t' : Nat), x4 ≤ (i : Int) → t ≤ t' → WS n σ0 s0 ρ t' → (∀ j, j < i → lit t' (z ρ 59 j)) → J ω m_Wo_shift (d + 1) 0 0 0 0 6 [(0, .ref 49), (1, .int (zI x1)), (2, .int (zI (a : Int))), (3, .int (zI (b : Int))), (4, .int (zI x4)), (5, .int (zI x5)), (6, .int (zI ((g : Int) + 1)))] [] (zcp ρ 59 0 58 (a : Int).toNat x4.toNat) (q_kv K) :=
          fun i ρ t' hi htt hw hl => ih (g + 1) x5 _ t' (by omega) (by omega) (WS_cp hw (fun j _ h2 => hl j (by omega))) (lit_m hx htt)
        induction k with
        | zero =>
          intro i ρ t' hi h8 hi4 htt hw hl
          exact b_Wo_shift_56 hw.1 ⟨⟨by omega, by omega⟩, ⟨by omega, by omega⟩, fun c => ⟨⟨by omega, by omega, by omega, by omega, by omega⟩, fin i ρ t' c htt hw hl⟩, fun c => absurd c (by omega)⟩
        | succ k ih2 =>
          intro i ρ t' hi h8 hi4 htt hw hl
          refine b_Wo_shift_56 hw.1 ⟨⟨by omega, by omega⟩, ⟨by omega, by omega⟩, fun c => ⟨⟨by omega, by omega, by omega, by omega, by omega⟩, fin i ρ t' c htt hw hl⟩, fun c => ?_⟩
          have g109 : ∀ y0 : Int, lit t' y0 → J ω m_Wo_shift (d + 1) 0 0 0 0 109 [(0, .ref 49), (1, .int (zI x1)), (2, .int (zI (a : Int))), (3, .int (zI (b : Int))), (4, .int (zI x4)), (5, .int (zI x5)), (6, .int (zI (g : Int))), (7, .int (zI (zShl 1 (g : Int)))), (8, .int (zI x8)), (9, .int (zI (i : Int)))] [.int (zI y0)] ρ (q_kv K) := by
            intro y0 hy
            refine b_Wo_shift_109 hw.1 ⟨⟨by omega, by omega⟩, w_pick (by omega) hw (lit_m hx8 htt) hy (WS_at hw (by omega) (by omega)) (fun v τ s' ht hs hv kp => b_Wo_shift_137 ht.1 ⟨⟨by omega, by omega⟩, ?_⟩)⟩
            rw [Int.toNat_natCast]
            refine ih2 (i + 1) _ s' (by omega) (by omega) (by omega) (by omega) (WS_sc (Or.inl rfl) ht) (fun j hj => ?_)
            rw [z_if (lit_R (WS_s ht).2 hv)]
            split
            · exact hv
            · rw [kp.1]; exact lit_m (hl j (by omega)) hs
          have g82 : ∀ y0 : Int, inR y0 → J ω m_Wo_shift (d + 1) 0 0 0 0 82 [(0, .ref 49), (1, .int (zI x1)), (2, .int (zI (a : Int))), (3, .int (zI (b : Int))), (4, .int (zI x4)), (5, .int (zI x5)), (6, .int (zI (g : Int))), (7, .int (zI (zShl 1 (g : Int)))), (8, .int (zI x8)), (9, .int (zI (i : Int)))] [.int (zI y0)] ρ (q_kv K) := by
            intro y0 hy
            exact b_Wo_shift_82 hw.1 ⟨hy, fun _ => g109 1 (lit_1 hw), fun c0 => ⟨⟨by omega, by omega⟩, fun _ => g109 1 (lit_1 hw), fun c1 => ⟨⟨by omega, by omega⟩, g109 _ (WS_at hw (by omega) (by omega))⟩⟩⟩
          exact ⟨i1, fun _ => g82 _ ⟨by omega, by omega⟩, fun _ => g82 _ ⟨by omega, by omega⟩⟩
      exact ⟨⟨by omega, by omega⟩, ⟨by omega, by omega⟩, fun _ => l3 _ lb 8 0 ρ t (by decide) (by decide) h4.1 (Nat.le_refl _) hw (fun j hj => absurd hj (Nat.not_lt_zero _)), fun _ => w_or (by omega) hw hx lb (fun v τ s' ht hs hv _ => b_Wo_shift_48 ht.1 (ih (g + 1) v τ s' (by omega) (by omega) ht hv))⟩
  exact b_Wo_shift_0 h.1 (l 8 0 1 σ s (by decide) (by decide) h (lit_1 h))
theorem w_divide {K : q_H → Prop} {a b : Nat} {x1 x4 : Int} (hd : 3 ≤ d) (hn : n ≤ 3200) (ha : a + 8 ≤ n) (hb : b + 8 ≤ n) (i1 : inR x1) (h4 : 0 ≤ x4 ∧ x4 ≤ 8) (h : WS n σ0 s0 σ s) (kk : ∀ τ s', WS n σ0 s0 τ s' → K τ) : J ω m_Wo_divide d 0 0 0 0 0 [(0, .ref 49), (1, .int (zI x1)), (2, .int (zI (a : Int))), (3, .int (zI (b : Int))), (4, .int (zI x4))] [] σ (q_kv K) := by
  obtain ⟨d, rfl⟩ : ∃ k, d = k + 1 := ⟨d - 1, by omega⟩
  have l : ∀ (m : Nat) (x5 : Int) (ρ : q_H) (t : Nat), x5 < (m : Int) → -1 ≤ x5 → x5 < x4 → WS n σ0 s0 ρ t → (∀ j : Nat, (j : Int) < x4 - 1 - x5 → lit t (z ρ 59 j)) → J ω m_Wo_divide (d + 1) 0 0 0 0 6 [(0, .ref 49), (1, .int (zI x1)), (2, .int (zI (a : Int))), (3, .int (zI (b : Int))), (4, .int (zI x4)), (5, .int (zI x5))] [] ρ (q_kv K) := by
    intro m
    have out : ∀ (x5 : Int) (ρ : q_H) (t : Nat), x5 < 0 → -1 ≤ x5 → WS n σ0 s0 ρ t → (∀ j : Nat, (j : Int) < x4 - 1 - x5 → lit t (z ρ 59 j)) → inR x1 ∧ q_imp (x1 ≠ 18) (q_kv K (.inl none) ρ) ∧ q_imp (x1 = 18) (((0 : Int) ≤ 0 ∧ (0 : Int) ≤ (a : Int) ∧ (0 : Int) ≤ x4 ∧ (0 : Int) + x4 ≤ ((8 : Nat) : Int) ∧ ((a : Int) : Int) + x4 ≤ ((3200 : Nat) : Int)) ∧ q_kv K (.inl none) (zcp ρ 59 0 58 (a : Int).toNat x4.toNat)) :=
      fun x5 ρ t h5 h5' hw hl => ⟨i1, fun _ => ⟨rfl, kk ρ t hw⟩, fun _ => ⟨⟨by omega, by omega, by omega, by omega, by omega⟩, rfl, kk _ t (WS_cp hw (fun j _ h2 => hl j (by omega)))⟩⟩
    induction m with
    | zero =>
      intro x5 ρ t hm h5 h54 hw hl
      exact b_Wo_divide_6 hw.1 ⟨⟨by omega, by omega⟩, fun c => out x5 ρ t c h5 hw hl, fun c => absurd c (by omega)⟩
    | succ m ih =>
      intro x5 ρ t hm h5 h54 hw hl
      refine b_Wo_divide_6 hw.1 ⟨⟨by omega, by omega⟩, fun c => out x5 ρ t c h5 hw hl, fun c => ⟨by decide, ⟨by omega, by omega⟩, ?_⟩⟩
      have lv := WS_at hw (e := (a : Int) + x5) (by omega) (by omega)
      -- the rest of the row
      have g158 : ∀ (k i : Nat) (x7 : Int) (ρ : q_H) (t : Nat), 8 ≤ i + k → i ≤ 8 → (i : Int) ≤ x4 - x5 → WS n σ0 s0 ρ t → lit t x7 → (∀ j : Nat, (j : Int) < x4 - x5 → lit t (z ρ 59 j) ∧ lit t (z ρ 60 j)) → J ω m_Wo_divide (d + 1) 0 0 0 0 158 [(0, .ref 49), (1, .int (zI x1)), (2, .int (zI (a : Int))), (3, .int (zI (b : Int))), (4, .int (zI x4)), (5, .int (zI x5)), (6, .int (zI (x4 - x5))), (7, .int (zI x7)), (8, .int (zI (i : Int)))] [] ρ (q_kv K) := by
        intro k
        have nx : ∀ (x7 : Int) (ρ : q_H) (t : Nat), WS n σ0 s0 ρ t → lit t x7 → (∀ j : Nat, (j : Int) < x4 - x5 → lit t (z ρ 59 j) ∧ lit t (z ρ 60 j)) → J ω m_Wo_divide (d + 1) 0 0 0 0 6 [(0, .ref 49), (1, .int (zI x1)), (2, .int (zI (a : Int))), (3, .int (zI (b : Int))), (4, .int (zI x4)), (5, .int (zI (x5 - 1)))] [] (zs ρ 58 ((a : Int) + x5).toNat x7) (q_kv K) := by
          intro x7 ρ t hw hx hl
          refine ih (x5 - 1) _ t (by omega) (by omega) (by omega) (WS_58 hw hx) (fun j hj => ?_)
          rw [z_o (by decide)]; exact (hl j (by omega)).1
        induction k with
        | zero =>
          intro i x7 ρ t hi h8 hi6 hw hx hl
          exact b_Wo_divide_158 hw.1 ⟨⟨by omega, by omega⟩, ⟨by omega, by omega⟩, fun _ => ⟨⟨by omega, by omega⟩, nx x7 ρ t hw hx hl⟩, fun c => absurd c (by omega)⟩
        | succ k ih2 =>
          intro i x7 ρ t hi h8 hi6 hw hx hl
          refine b_Wo_divide_158 hw.1 ⟨⟨by omega, by omega⟩, ⟨by omega, by omega⟩, fun _ => ⟨⟨by omega, by omega⟩, nx x7 ρ t hw hx hl⟩, fun c => ?_⟩
          rw [Int.toNat_natCast]
          refine ⟨⟨by omega, by omega⟩, w_pick (by omega) hw hx (hl i c).2 (hl i c).1 (fun v τ s' ht hs hv kp => b_Wo_divide_194 ht.1 ⟨⟨by omega, by omega⟩, ?_⟩)⟩
          rw [Int.toNat_natCast]
          refine ih2 (i + 1) x7 _ s' (by omega) (by omega) (by omega) (WS_sc (Or.inl rfl) ht) (lit_m hx hs) (fun j hj => ⟨?_, ?_⟩)
          · rw [z_if (lit_R (WS_s ht).2 hv)]
            split
            · exact hv
            · rw [kp.1]; exact lit_m (hl j hj).1 hs
          · rw [z_o (by decide), kp.2]; exact lit_m (hl j hj).2 hs
      have g54 : ∀ (k i : Nat) (x7 : Int) (ρ : q_H) (t : Nat), 8 ≤ i + k → i ≤ 8 → (i : Int) ≤ x4 - x5 → WS n σ0 s0 ρ t → lit t x7 → (∀ j : Nat, (j : Int) < x4 - x5 → lit t (z ρ 59 j)) → (∀ j : Nat, j < i → lit t (z ρ 60 j)) → J ω m_Wo_divide (d + 1) 0 0 0 0 54 [(0, .ref 49), (1, .int (zI x1)), (2, .int (zI (a : Int))), (3, .int (zI (b : Int))), (4, .int (zI x4)), (5, .int (zI x5)), (6, .int (zI (x4 - x5))), (7, .int (zI x7)), (8, .int (zI (i : Int)))] [] ρ (q_kv K) := by
        intro k
        have nx : ∀ (i : Nat) (x7 : Int) (ρ : q_H) (t : Nat), (x4 - x5) ≤ (i : Int) → WS n σ0 s0 ρ t → lit t x7 → (∀ j : Nat, (j : Int) < x4 - x5 → lit t (z ρ 59 j)) → (∀ j : Nat, j < i → lit t (z ρ 60 j)) → J ω m_Wo_none d 0 0 0 0 0 [(0, .ref 49), (1, .int (zI ((b : Int) + (x4 - x5)))), (2, .int (zI (x4 - (x4 - x5))))] [] ρ (q_ki (fun v τ => J ω m_Wo_divide (d + 1) 0 0 0 0 150 [(0, .ref 49), (1, .int (zI x1)), (2, .int (zI (a : Int))), (3, .int (zI (b : Int))), (4, .int (zI x4)), (5, .int (zI x5)), (6, .int (zI (x4 - x5)))] [.int (zI v), .int (zI x7), .ref 50] τ (q_kv K))) := by
          intro i x7 ρ t hi hw hx hl hl2
          refine w_none (by omega) hn (by omega) ⟨by omega, by omega⟩ (by omega) hw (fun v τ s' ht hs hv kp => b_Wo_divide_150 ht.1 (w_and (by omega) ht (lit_m hx hs) hv (fun v2 τ2 s2 ht2 hs2 hv2 kp2 => b_Wo_divide_153 ht2.1 (g158 8 0 v2 τ2 s2 (by decide) (by decide) (by omega) ht2 hv2 (fun j hj => ⟨?_, ?_⟩)))))
          · rw [kp2.1, kp.1]; exact lit_m (hl j hj) (by omega)
          · rw [kp2.2, kp.2]; exact lit_m (hl2 j (by omega)) (by omega)
        induction k with
        | zero =>
          intro i x7 ρ t hi h8 hi6 hw hx hl hl2
          exact b_Wo_divide_54 hw.1 ⟨⟨by omega, by omega⟩, ⟨by omega, by omega⟩, fun c => nx i x7 ρ t c hw hx hl hl2, fun c => absurd c (by omega)⟩
        | succ k ih2 =>
          intro i x7 ρ t hi h8 hi6 hw hx hl hl2
          refine b_Wo_divide_54 hw.1 ⟨⟨by omega, by omega⟩, ⟨by omega, by omega⟩, fun c => nx i x7 ρ t c hw hx hl hl2, fun c => ?_⟩
          rw [Int.toNat_natCast]
          refine ⟨⟨by omega, by omega⟩, ⟨by omega, by omega⟩, w_xor (by omega) hw (hl i c) (lit_x (WS_s hw).2 (WS_at hw (e := (b : Int) + i) (by omega) (by omega))).1 (fun v τ s1 ht hs hv kp => b_Wo_divide_90 ht.1 (w_xor (by omega) ht hv (lit_m hx hs) (fun v2 τ2 s2 ht2 hs2 hv2 kp2 => b_Wo_divide_109 ht2.1 ⟨⟨by omega, by omega⟩, ?_⟩)))⟩
          rw [Int.toNat_natCast]
          refine w_pick (by omega) (WS_sc (Or.inr rfl) ht2) (lit_m hv hs2) (lit_m hx (by omega)) (lit_m (hl i c) (by omega)) (fun v3 τ3 s3 ht3 hs3 hv3 kp3 => b_Wo_divide_123 ht3.1 (ih2 (i + 1) v3 τ3 s3 (by omega) (by omega) (by omega) ht3 hv3 (fun j hj => ?_) (fun j hj => ?_)))
          · rw [kp3.1, z_o (by decide), kp2.1, kp.1]; exact lit_m (hl j hj) (by omega)
          · rw [kp3.2, z_if (lit_R (WS_s ht2).2 hv2)]
            split
            · exact lit_m hv2 hs3
            · rw [kp2.2, kp.2]; exact lit_m (hl2 j (by omega)) (by omega)
      -- the row comes down
      have w1 : WS n σ0 s0 (zcp ρ 59 0 59 1 7) t := by
        obtain ⟨hE, ⟨hc1, hc2⟩, hl0, f, hs⟩ := id hw
        have e : ∀ a, a ≠ 59 → z (zcp ρ 59 0 59 1 7) a = z ρ a := fun a ha => funext fun j => z_cp_o ha
        refine ⟨zcp_E hE, ⟨?_, ?_⟩, fun j hj => ?_, fr_c f (by unfold SWo; simp), hs⟩
        · rw [e 50 (by decide)]; exact hc1
        · rw [e 51 (by decide), e 52 (by decide), e 53 (by decide), e 54 (by decide), e 55 (by decide), e 56 (by decide), e 57 (by decide)]; exact hc2
        · rw [e 58 (by decide)]; exact hl0 j hj
      refine g54 8 0 0 _ t (by decide) (by decide) (by omega) (WS_sc (Or.inl rfl) w1) (lit_0 hw) (fun j hj => ?_) (fun j hj => absurd hj (Nat.not_lt_zero _))
      rw [z_if (lit_R (WS_s hw).2 lv)]
      split
      · exact lv
      · next hne =>
        rw [z_cp_in (by omega)]
        exact hl _ (by omega)
  exact b_Wo_divide_0 h.1 (l 8 (x4 - 1) σ s (by omega) (by omega) (by omega) h (fun j hj => absurd hj (by omega)))
theorem w_arithmetic {K : q_H → Prop} {a b : Nat} {x1 x4 : Int} (hd : 4 ≤ d) (hn : n ≤ 3200) (ha : a + 8 ≤ n) (hb : b + 8 ≤ n) (i1 : inR x1) (h4 : 0 ≤ x4 ∧ x4 ≤ 8) (h : WS n σ0 s0 σ s) (kk : ∀ τ s', WS n σ0 s0 τ s' → K τ) : J ω m_Wo_arithmetic d 0 0 0 0 0 [(0, .ref 49), (1, .int (zI x1)), (2, .int (zI (a : Int))), (3, .int (zI (b : Int))), (4, .int (zI x4))] [] σ (q_kv K) := by
  obtain ⟨d, rfl⟩ : ∃ k, d = k + 1 := ⟨d - 1, by omega⟩
  exact b_Wo_arithmetic_0 h.1 ⟨i1, fun _ => w_shift (by omega) hn ha hb i1 h4 h (fun τ s' ht => b_Wo_arithmetic_45 ht.1 ⟨rfl, kk τ s' ht⟩), fun _ => w_sum (by omega) hn ha hb h4 (Or.inr rfl) h (fun τ s' ht => b_Wo_arithmetic_57 ht.1 ⟨rfl, kk τ s' ht⟩), fun _ => w_sum (by omega) hn ha hb h4 (Or.inl rfl) h (fun τ s' ht => b_Wo_arithmetic_69 ht.1 ⟨rfl, kk τ s' ht⟩), fun _ => w_multiply (by omega) hn ha hb h4 h (fun τ s' ht => b_Wo_arithmetic_80 ht.1 ⟨rfl, kk τ s' ht⟩), fun _ => w_divide (by omega) hn ha hb i1 h4 h (fun τ s' ht => b_Wo_arithmetic_92 ht.1 ⟨rfl, kk τ s' ht⟩)⟩
theorem w_logic {K : q_H → Prop} {a b : Nat} {x1 : Int} (hd : 4 ≤ d) (hn : n ≤ 3200) (ha : a + 8 ≤ n) (hb : b + 8 ≤ n) (i1 : inR x1) (h : WS n σ0 s0 σ s) (kk : ∀ τ s', WS n σ0 s0 τ s' → K τ) : J ω m_Wo_logic d 0 0 0 0 0 [(0, .ref 49), (1, .int (zI x1)), (2, .int (zI (a : Int))), (3, .int (zI (b : Int)))] [] σ (q_kv K) := by
  obtain ⟨d, rfl⟩ : ∃ k, d = k + 1 := ⟨d - 1, by omega⟩
  have ha2 : a + 8 ≤ 3200 := by omega
  exact b_Wo_logic_0 h.1 ⟨i1,
    fun _ => w_truth (by omega) hn ha h (fun v τ s1 ht hs hv => b_Wo_logic_71 ht.1 (w_truth (by omega) hn hb ht (fun v2 τ2 s2 ht2 hs2 hv2 => b_Wo_logic_76 ht2.1 (w_or (by omega) ht2 (lit_m hv hs2) hv2 (fun v3 τ3 s3 ht3 hs3 hv3 _ => b_Wo_logic_79 ht3.1 (w_leave (by omega) ha2 ht3 hv3 (fun ρ hr => b_Wo_logic_82 hr.1 ⟨rfl, kk ρ s3 hr⟩))))))),
    fun _ => w_truth (by omega) hn ha h (fun v τ s1 ht hs hv => b_Wo_logic_96 ht.1 (w_truth (by omega) hn hb ht (fun v2 τ2 s2 ht2 hs2 hv2 => b_Wo_logic_101 ht2.1 (w_and (by omega) ht2 (lit_m hv hs2) hv2 (fun v3 τ3 s3 ht3 hs3 hv3 _ => b_Wo_logic_104 ht3.1 (w_leave (by omega) ha2 ht3 hv3 (fun ρ hr => b_Wo_logic_107 hr.1 ⟨rfl, kk ρ s3 hr⟩))))))),
    fun _ => w_same (by omega) hn ha hb h (fun v τ s1 ht hv => b_Wo_logic_118 ht.1 (w_leave (by omega) ha2 ht hv (fun ρ hr => b_Wo_logic_121 hr.1 ⟨rfl, kk ρ s1 hr⟩))),
    fun _ => w_same (by omega) hn ha hb h (fun v τ s1 ht hv => b_Wo_logic_132 ht.1 (w_leave (by omega) ha2 ht (lit_x (WS_s ht).2 hv).1 (fun ρ hr => b_Wo_logic_137 hr.1 ⟨rfl, kk ρ s1 hr⟩))),
    fun _ => w_below (by omega) hn ha hb h (fun v τ s1 ht hv => b_Wo_logic_148 ht.1 (w_leave (by omega) ha2 ht hv (fun ρ hr => b_Wo_logic_151 hr.1 ⟨rfl, kk ρ s1 hr⟩))),
    fun _ => w_below (by omega) hn hb ha h (fun v τ s1 ht hv => b_Wo_logic_162 ht.1 (w_leave (by omega) ha2 ht (lit_x (WS_s ht).2 hv).1 (fun ρ hr => b_Wo_logic_167 hr.1 ⟨rfl, kk ρ s1 hr⟩))),
    fun _ => w_below (by omega) hn hb ha h (fun v τ s1 ht hv => b_Wo_logic_178 ht.1 (w_leave (by omega) ha2 ht hv (fun ρ hr => b_Wo_logic_181 hr.1 ⟨rfl, kk ρ s1 hr⟩))),
    fun _ => w_below (by omega) hn ha hb h (fun v τ s1 ht hv => b_Wo_logic_192 ht.1 (w_leave (by omega) ha2 ht (lit_x (WS_s ht).2 hv).1 (fun ρ hr => b_Wo_logic_197 hr.1 ⟨rfl, kk ρ s1 hr⟩))),
    fun _ => w_bitwise (by omega) hn ha hb i1 h (fun τ s1 ht => b_Wo_logic_207 ht.1 ⟨rfl, kk τ s1 ht⟩)⟩
end WpJ
