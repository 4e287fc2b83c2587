/-! THE REFERENCE answers from its tables -/
def TB1 (p V : Nat) (S : List q_St) (σ τ : q_H) : Prop := ∀ t, t < 2 ^ smn (iW p σ) (iN p σ) → z τ 122 t = (rnT p S σ t).1 ∧ z τ 131 t = (rnT p S σ t).2.1 ∧ ((rnT p S σ t).1 = 0 → ∀ v, v < V → zAnd (z τ 124 (12 * t + v)) 255 = (((rnT p S σ t).2.2 v : Nat) : Int))
def MQa (p V : Nat) (S : List q_St) (y x : Int) (σ τ : q_H) : Prop :=
  fr [94, 122, 123, 124, 125, 128, 130, 131] σ τ ∧ (∀ k, k ∉ [0, 55, 61, 62] → z τ 94 k = z σ 94 k) ∧ z τ 94 0 = y ∧ z τ 94 62 = x ∧ z τ 94 55 = 1 ∧ n16 (z τ 125) ∧ TB1 p V S σ τ
def MWT (p : Nat) (S : List q_St) (Pr : q_Sp → Prop) (b x : Int) (σ : q_H) : Prop :=
  (b = 0 ∧ x = -1 ∧ ∀ t, t < 2 ^ smn (iW p σ) (iN p σ) → ¬ Pr (rnT p S σ t)) ∨ (b = 1 ∧ ∃ t : Nat, x = (t : Int) ∧ t < 2 ^ smn (iW p σ) (iN p σ) ∧ Pr (rnT p S σ t) ∧ ∀ t', t' < t → ¬ Pr (rnT p S σ t'))
/-- behind `questions` -/
def M1q (p s V : Nat) (S : List q_St) (σ τ : q_H) : Prop :=
  RQ s τ ∧ fr [94, 122, 123, 124, 125, 128, 130, 131] σ τ ∧ (∀ k, k ≠ 55 → k ≠ 61 → z τ 94 k = z σ 94 k) ∧ n16 (z τ 125) ∧ z τ 94 55 = 1 ∧ TB1 p V S σ τ
def RF (p s V : Nat) (WI : Nat → Int) (Nt : Nat → q_It) (S : List q_St) (w : Nat) (σ : q_H) : Prop :=
  RPg p s V WI Nt S w σ ∧ z σ 94 31 ≠ 0 ∧ z σ 94 27 = (V : Int) ∧ TBq p V S σ
theorem zA255 {x : Int} : 0 ≤ zAnd x 255 ∧ zAnd x 255 < 256 := by
  have e := zAnd_mod (v := x) (k := 8) (by decide)
  have e1 : ((2 ^ 8 - 1 : Nat) : Int) = 255 := by decide
  have e2 : ((2 ^ 8 : Nat) : Int) = 256 := by decide
  rw [e1, e2] at e
  rw [e]
  omega
section RfJ
variable {ω : q_W} {d p s V w : Nat} {WI : Nat → Int} {Nt : Nat → q_It} {S : List q_St} {σ τ : q_H} {K : Int → q_H → Prop} {x x1 x2 : Int}
theorem RQ_f {F : List Nat} (h : RQ s σ) (f : fr F σ τ) : RQ s τ := by
  obtain ⟨⟨hs, r0, r1, r2, r3, r4, r5⟩, hE⟩ := h
  exact ⟨⟨hs, by rw [fr_r f]; exact r0, by rw [fr_r f]; exact r1, by rw [fr_r f]; exact r2, by rw [fr_r f]; exact r3, by rw [fr_r f]; exact r4, by rw [fr_r f]; exact r5⟩, fr_E f hE⟩
theorem m_q (hd : 870 ≤ d) (hp : p = 16 ∨ p = 29) (h : RF p s V WI Nt S w σ) (kk : ∀ τ, M1q p s V S σ τ → K 1 τ) : J ω m_M_questions d 0 0 0 0 0 [(0, .ref 94)] [] σ (q_ki K) :=
  k_questions hd hp h.1 h.2.1 h.2.2.1 h.2.2.2 (fun τ f k n h55 T => kk τ ⟨RQ_f h.1.1 f, f, k, n, h55, T⟩)
theorem M1_B (h : RF p s V WI Nt S w σ) (g : M1q p s V S σ τ) : ∃ B : Nat, B = 2 ^ smn (iW p σ) (iN p σ) ∧ zShl 1 (z τ 94 29) = (B : Int) ∧ B ≤ 4096 := by
  obtain ⟨-, -, -, w4, w5⟩ := h.1.2.2.2.2.2.2.2.2.1
  have b12 : 2 ^ smn (iW p σ) (iN p σ) ≤ 2 ^ 12 := Nat.pow_le_pow_right (by decide) w5
  refine ⟨_, rfl, ?_, by omega⟩
  rw [g.2.2.1 29 (by decide) (by decide), w4, zShl_1 _ (by omega)]
  simp
theorem M1_ask (g : M1q p s V S σ τ) (hx : inR x) : MQa p V S 0 x σ (zs (zs τ 94 0 0) 94 62 x) := by
  obtain ⟨-, f, k, n, h55, T⟩ := g
  refine ⟨fr_s (fr_s f (by simp)) (by simp), fun j hj => ?_, by rw [z_k (by decide)]; exact z_s ⟨by decide, by decide⟩, z_s hx, by rw [z_k (by decide), z_k (by decide)]; exact h55, by rw [z_oF (by decide), z_oF (by decide)]; exact n, ?_⟩
  · simp only [List.mem_cons, List.not_mem_nil, or_false, not_or] at hj
    rw [z_k hj.2.2.2, z_k hj.1]
    exact k j hj.2.1 hj.2.2.1
  · unfold TB1
    rw [z_oF (by decide), z_oF (by decide), z_oF (by decide), z_oF (by decide), z_oF (by decide), z_oF (by decide)]
    exact T
theorem M1_no (g : M1q p s V S σ τ) : MQa p V S 2 (z σ 94 62) σ (zs τ 94 0 2) := by
  obtain ⟨-, f, k, n, h55, T⟩ := g
  refine ⟨fr_s f (by simp), fun j hj => ?_, z_s ⟨by decide, by decide⟩, by rw [z_k (by decide)]; exact k 62 (by decide) (by decide), by rw [z_k (by decide)]; exact h55, by rw [z_oF (by decide)]; exact n, ?_⟩
  · simp only [List.mem_cons, List.not_mem_nil, or_false, not_or] at hj
    rw [z_k hj.1]
    exact k j hj.2.1 hj.2.2.1
  · unfold TB1
    rw [z_oF (by decide), z_oF (by decide), z_oF (by decide)]
    exact T
theorem m_asked (hR : RQ s σ) (hx : inR x) (k1 : 0 ≤ x → K 1 (zs (zs σ 94 0 0) 94 62 x)) (k0 : x < 0 → K 0 (zs (zs σ 94 0 0) 94 62 x)) : J ω m_M_asked d 0 0 0 0 0 [(0, .ref 94), (1, .int (zI x))] [] σ (q_ki K) := by
  obtain ⟨⟨hs, r0, r1, r2, r3, r4, r5⟩, hE⟩ := hR
  exact b_M_asked_0 hs r0 r1 r2 r3 r4 r5 hE ⟨hx, fun c => ⟨1, ⟨by decide, by decide⟩, rfl, k1 c⟩, fun c => ⟨0, ⟨by decide, by decide⟩, rfl, k0 c⟩⟩
theorem m_valueAt {t v : Nat} (hR : RQ s σ) (ht : t < 4096) (hv : v < 12) (k : K (zAnd (z σ 124 (12 * t + v)) 255) σ) : J ω m_M_valueAt d 0 0 0 0 0 [(0, .ref 94), (1, .int (zI (t : Int))), (2, .int (zI (v : Int)))] [] σ (q_ki K) := by
  obtain ⟨⟨hs, r0, r1, r2, r3, r4, r5⟩, hE⟩ := hR
  refine b_M_valueAt_0 hs r0 r1 r2 r3 r4 r5 hE ⟨⟨by omega, by omega⟩, ?_⟩
  rw [show (12 * (t : Int) + (v : Int)).toNat = 12 * t + v by omega]
  have := zA255 (x := z σ 124 (12 * t + v))
  exact ⟨_, ⟨by omega, by omega⟩, rfl, k⟩
theorem m_isVar (hR : RQ s σ) (hx : inR x) (h27 : z σ 94 27 = (V : Int)) (k1 : 0 ≤ x → x < (V : Int) → K 1 σ) (k0 : ¬ (0 ≤ x ∧ x < (V : Int)) → K 0 σ) : J ω m_M_isVar d 0 0 0 0 0 [(0, .ref 94), (1, .int (zI x))] [] σ (q_ki K) := by
  obtain ⟨⟨hs, r0, r1, r2, r3, r4, r5⟩, hE⟩ := hR
  refine b_M_isVar_0 hs r0 r1 r2 r3 r4 r5 hE ?_
  rw [h27]
  exact ⟨hx, fun c => ⟨0, ⟨by decide, by decide⟩, rfl, k0 (by omega)⟩, fun c => ⟨fun c1 => ⟨0, ⟨by decide, by decide⟩, rfl, k0 (by omega)⟩, fun c1 => ⟨1, ⟨by decide, by decide⟩, rfl, k1 c c1⟩⟩⟩
theorem m_fails (hd : 871 ≤ d) (hp : p = 16 ∨ p = 29) (h : RF p s V WI Nt S w σ) (kk : ∀ b x τ, MQa p V S 0 x σ τ → MWT p S (fun y => y.1 = 1) b x σ → K b τ) : J ω m_M_fails d 0 0 0 0 0 [(0, .ref 94)] [] σ (q_ki K) := by
  obtain ⟨d, rfl⟩ : ∃ k, d = k + 1 := ⟨d - 1, by omega⟩
  obtain ⟨⟨hs, r0, r1, r2, r3, r4, r5⟩, hE⟩ := id h.1.1
  refine b_M_fails_0 hs r0 r1 r2 r3 r4 r5 hE (m_q (by omega) hp h (fun τ hτ => ?_))
  obtain ⟨⟨-, q0, q1, q2, q3, q4, q5⟩, Eτ⟩ := id hτ.1
  obtain ⟨B, hB, eS, b12⟩ := M1_B h hτ
  have T := hτ.2.2.2.2.2
  have fin : ∀ bb x, MWT p S (fun y => y.1 = 1) bb x σ → inR x → K bb (zs (zs τ 94 0 0) 94 62 x) := fun bb x hw hx => kk bb x _ (M1_ask hτ hx) hw
  have l : ∀ (m n : Nat), B ≤ n + m → n ≤ B → (∀ t', t' < n → ¬ ((rnT p S σ t').1 = 1)) → J ω m_M_fails (d + 1) 0 0 0 0 15 [(0, .ref 94), (1, .int (zI (n : Int)))] [] τ (q_ki K) := by
    intro m
    have out : ∀ n : Nat, B ≤ n → (∀ t', t' < n → ¬ ((rnT p S σ t').1 = 1)) → J ω m_M_asked d 0 0 0 0 0 [(0, .ref 94), (1, .int (zI (-1)))] [] τ (q_ki (fun v τ => J ω m_M_fails (d + 1) 0 0 0 0 52 [] [.int (zI v)] τ (q_ki K))) := fun n c1 hno => m_asked hτ.1 ⟨by decide, by decide⟩ (fun c => absurd c (by decide)) (fun _ => b_M_fails_52 hs q0 q1 q2 q3 q4 q5 (zs_E (zs_E Eτ)) ⟨0, ⟨by decide, by decide⟩, rfl, fin 0 (-1) (Or.inl ⟨rfl, rfl, fun t ht => hno t (by omega)⟩) ⟨by decide, by decide⟩⟩)
    induction m with
    | zero =>
      intro n a1 a2 a3
      refine b_M_fails_15 hs q0 q1 q2 q3 q4 q5 Eτ ?_
      rw [eS]
      exact ⟨⟨by omega, by omega⟩, fun c => out n (by omega) a3, fun c => absurd c (by omega)⟩
    | succ m ih =>
      intro n a1 a2 a3
      refine b_M_fails_15 hs q0 q1 q2 q3 q4 q5 Eτ ?_
      rw [eS, Int.toNat_natCast]
      refine ⟨⟨by omega, by omega⟩, fun c => out n (by omega) a3, fun c => ⟨⟨by omega, by omega⟩, ?_⟩⟩
      obtain ⟨T1, T2, T3⟩ := T n (by omega)
      rw [T1, show (n : Int) + 1 = ((n + 1 : Nat) : Int) by omega]
      have nx : ¬ ((rnT p S σ n).1 = 1) → J ω m_M_fails (d + 1) 0 0 0 0 15 [(0, .ref 94), (1, .int (zI ((n + 1 : Nat) : Int)))] [] τ (q_ki K) := fun c' => ih (n + 1) (by omega) (by omega) (fun t' ht' => by
        by_cases e : t' = n
        · rw [e]; exact c'
        · exact a3 t' (by omega))
      exact ⟨fun c1 => nx c1, fun c1 => m_asked hτ.1 ⟨by omega, by omega⟩ (fun _ => b_M_fails_40 hs q0 q1 q2 q3 q4 q5 (zs_E (zs_E Eτ)) ⟨1, ⟨by decide, by decide⟩, rfl, fin 1 (n : Int) (Or.inr ⟨rfl, n, rfl, by omega, c1, a3⟩) ⟨by omega, by omega⟩⟩) (fun c => absurd c (by omega))⟩
  exact b_M_fails_4 hs q0 q1 q2 q3 q4 q5 Eτ ⟨⟨by decide, by decide⟩, fun _ => l B 0 (by omega) (by omega) (fun t' ht' => absurd ht' (by omega)), fun c => absurd c (by decide)⟩
theorem m_failsAt (hd : 871 ≤ d) (hp : p = 16 ∨ p = 29) (h : RF p s V WI Nt S w σ) (i1 : inR x1) (kx : ¬ (0 ≤ x1 ∧ x1 < z σ 94 28) → ∀ τ, MQa p V S 2 (z σ 94 62) σ τ → K 0 τ) (kk : 0 ≤ x1 → x1 < z σ 94 28 → ∀ b x τ, MQa p V S 0 x σ τ → MWT p S (fun y => y.1 = 1 ∧ y.2.1 = x1) b x σ → K b τ) : J ω m_M_failsAt d 0 0 0 0 0 [(0, .ref 94), (1, .int (zI x1))] [] σ (q_ki K) := by
  obtain ⟨d, rfl⟩ : ∃ k, d = k + 1 := ⟨d - 1, by omega⟩
  obtain ⟨⟨hs, r0, r1, r2, r3, r4, r5⟩, hE⟩ := id h.1.1
  refine b_M_failsAt_0 hs r0 r1 r2 r3 r4 r5 hE (m_q (by omega) hp h (fun τ hτ => ?_))
  obtain ⟨⟨-, q0, q1, q2, q3, q4, q5⟩, Eτ⟩ := id hτ.1
  obtain ⟨B, hB, eS, b12⟩ := M1_B h hτ
  have T := hτ.2.2.2.2.2
  have no : ¬ (0 ≤ x1 ∧ x1 < z σ 94 28) → J ω m_M_no d 0 0 0 0 0 [(0, .ref 94), (1, .int (zI 2))] [] τ (q_ki (fun v τ => J ω m_M_failsAt (d + 1) 0 0 0 0 30 [] [.int (zI v)] τ (q_ki K))) := fun c => m_no Eτ (b_M_failsAt_30 hs q0 q1 q2 q3 q4 q5 (zs_E Eτ) ⟨0, ⟨by decide, by decide⟩, rfl, kx c _ (M1_no hτ)⟩)
  refine b_M_failsAt_4 hs q0 q1 q2 q3 q4 q5 Eτ ?_
  rw [hτ.2.2.1 28 (by decide) (by decide)]
  refine ⟨⟨by decide, by decide⟩, fun _ => ⟨i1, fun c => no (by omega), fun c0 => ⟨fun c1 => ?_, fun c => no (by omega)⟩⟩, fun c => absurd c (by decide)⟩
  replace kk := kk c0 c1
  have fin : ∀ bb x, MWT p S (fun y => y.1 = 1 ∧ y.2.1 = x1) bb x σ → inR x → K bb (zs (zs τ 94 0 0) 94 62 x) := fun bb x hw hx => kk bb x _ (M1_ask hτ hx) hw
  have l : ∀ (m n : Nat), B ≤ n + m → n ≤ B → (∀ t', t' < n → ¬ ((rnT p S σ t').1 = 1 ∧ (rnT p S σ t').2.1 = x1)) → J ω m_M_failsAt (d + 1) 0 0 0 0 33 [(0, .ref 94), (1, .int (zI x1)), (2, .int (zI (n : Int)))] [] τ (q_ki K) := by
    intro m
    have out : ∀ n : Nat, B ≤ n → (∀ t', t' < n → ¬ ((rnT p S σ t').1 = 1 ∧ (rnT p S σ t').2.1 = x1)) → J ω m_M_asked d 0 0 0 0 0 [(0, .ref 94), (1, .int (zI (-1)))] [] τ (q_ki (fun v τ => J ω m_M_failsAt (d + 1) 0 0 0 0 80 [] [.int (zI v)] τ (q_ki K))) := fun n c1 hno => m_asked hτ.1 ⟨by decide, by decide⟩ (fun c => absurd c (by decide)) (fun _ => b_M_failsAt_80 hs q0 q1 q2 q3 q4 q5 (zs_E (zs_E Eτ)) ⟨0, ⟨by decide, by decide⟩, rfl, fin 0 (-1) (Or.inl ⟨rfl, rfl, fun t ht => hno t (by omega)⟩) ⟨by decide, by decide⟩⟩)
    induction m with
    | zero =>
      intro n a1 a2 a3
      refine b_M_failsAt_33 hs q0 q1 q2 q3 q4 q5 Eτ ?_
      rw [eS]
      exact ⟨⟨by omega, by omega⟩, fun c => out n (by omega) a3, fun c => absurd c (by omega)⟩
    | succ m ih =>
      intro n a1 a2 a3
      refine b_M_failsAt_33 hs q0 q1 q2 q3 q4 q5 Eτ ?_
      rw [eS, Int.toNat_natCast]
      refine ⟨⟨by omega, by omega⟩, fun c => out n (by omega) a3, fun c => ⟨⟨by omega, by omega⟩, ?_⟩⟩
      obtain ⟨T1, T2, T3⟩ := T n (by omega)
      rw [T1, show (n : Int) + 1 = ((n + 1 : Nat) : Int) by omega]
      have nx : ¬ ((rnT p S σ n).1 = 1 ∧ (rnT p S σ n).2.1 = x1) → J ω m_M_failsAt (d + 1) 0 0 0 0 33 [(0, .ref 94), (1, .int (zI x1)), (2, .int (zI ((n + 1 : Nat) : Int)))] [] τ (q_ki K) := fun c' => ih (n + 1) (by omega) (by omega) (fun t' ht' => by
        by_cases e : t' = n
        · rw [e]; exact c'
        · exact a3 t' (by omega))
      rw [T2]
      exact ⟨fun c1 => nx (fun q => c1 q.1), fun c1 => ⟨i1, fun c2 => nx (fun q => c2 q.2), fun c2 => m_asked hτ.1 ⟨by omega, by omega⟩ (fun _ => b_M_failsAt_68 hs q0 q1 q2 q3 q4 q5 (zs_E (zs_E Eτ)) ⟨1, ⟨by decide, by decide⟩, rfl, fin 1 (n : Int) (Or.inr ⟨rfl, n, rfl, by omega, ⟨c1, c2⟩, a3⟩) ⟨by omega, by omega⟩⟩) (fun c => absurd c (by omega))⟩⟩
  exact l B 0 (by omega) (by omega) (fun t' ht' => absurd ht' (by omega))
theorem m_differ (hd : 871 ≤ d) (hp : p = 16 ∨ p = 29) (h : RF p s V WI Nt S w σ) (i1 : inR x1) (i2 : inR x2) (kx : ¬ (0 ≤ x1 ∧ x1 < (V : Int) ∧ 0 ≤ x2 ∧ x2 < (V : Int)) → ∀ τ, MQa p V S 2 (z σ 94 62) σ τ → K 0 τ) (kk : 0 ≤ x1 → x1 < (V : Int) → 0 ≤ x2 → x2 < (V : Int) → ∀ b x τ, MQa p V S 0 x σ τ → MWT p S (fun y => y.1 = 0 ∧ y.2.2 x1.toNat ≠ y.2.2 x2.toNat) b x σ → K b τ) : J ω m_M_differ d 0 0 0 0 0 [(0, .ref 94), (1, .int (zI x1)), (2, .int (zI x2))] [] σ (q_ki K) := by
  obtain ⟨d, rfl⟩ : ∃ k, d = k + 1 := ⟨d - 1, by omega⟩
  obtain ⟨⟨hs, r0, r1, r2, r3, r4, r5⟩, hE⟩ := id h.1.1
  refine b_M_differ_0 hs r0 r1 r2 r3 r4 r5 hE (m_q (by omega) hp h (fun τ hτ => ?_))
  obtain ⟨⟨-, q0, q1, q2, q3, q4, q5⟩, Eτ⟩ := id hτ.1
  obtain ⟨B, hB, eS, b12⟩ := M1_B h hτ
  have T := hτ.2.2.2.2.2
  have v12 := h.1.2.2.2.2.2.2.2.2.2.1
  have e27 : z τ 94 27 = (V : Int) := by rw [hτ.2.2.1 27 (by decide) (by decide)]; exact h.2.2.1
  have no : ¬ (0 ≤ x1 ∧ x1 < (V : Int) ∧ 0 ≤ x2 ∧ x2 < (V : Int)) → J ω m_M_no d 0 0 0 0 0 [(0, .ref 94), (1, .int (zI 2))] [] τ (q_ki (fun v τ => J ω m_M_differ (d + 1) 0 0 0 0 34 [] [.int (zI v)] τ (q_ki K))) := fun c => m_no Eτ (b_M_differ_34 hs q0 q1 q2 q3 q4 q5 (zs_E Eτ) ⟨0, ⟨by decide, by decide⟩, rfl, kx c _ (M1_no hτ)⟩)
  refine b_M_differ_4 hs q0 q1 q2 q3 q4 q5 Eτ ⟨⟨by decide, by decide⟩, fun _ => m_isVar hτ.1 i1 e27 (fun c1 c2 => ?_) (fun c => b_M_differ_18 hs q0 q1 q2 q3 q4 q5 Eτ ⟨⟨by decide, by decide⟩, fun _ => no (by omega), fun c => absurd rfl c⟩), fun c => absurd c (by decide)⟩
  refine b_M_differ_18 hs q0 q1 q2 q3 q4 q5 Eτ ⟨⟨by decide, by decide⟩, fun c => absurd c (by decide), fun _ => m_isVar hτ.1 i2 e27 (fun c3 c4 => ?_) (fun c => b_M_differ_26 hs q0 q1 q2 q3 q4 q5 Eτ ⟨⟨by decide, by decide⟩, fun c => absurd rfl c, fun _ => no (by omega)⟩)⟩
  obtain ⟨a, ha⟩ : ∃ a : Nat, x1 = (a : Int) := ⟨x1.toNat, by omega⟩
  obtain ⟨b, hb⟩ : ∃ b : Nat, x2 = (b : Int) := ⟨x2.toNat, by omega⟩
  replace kk := kk c1 c2 c3 c4
  subst ha hb
  have fin : ∀ bb x, MWT p S (fun y => y.1 = 0 ∧ y.2.2 a ≠ y.2.2 b) bb x σ → inR x → K bb (zs (zs τ 94 0 0) 94 62 x) := fun bb x hw hx => kk bb x _ (M1_ask hτ hx) hw
  have l : ∀ (m n : Nat), B ≤ n + m → n ≤ B → (∀ t', t' < n → ¬ ((rnT p S σ t').1 = 0 ∧ (rnT p S σ t').2.2 a ≠ (rnT p S σ t').2.2 b)) → J ω m_M_differ (d + 1) 0 0 0 0 37 [(0, .ref 94), (1, .int (zI (a : Int))), (2, .int (zI (b : Int))), (3, .int (zI (n : Int)))] [] τ (q_ki K) := by
    intro m
    have out : ∀ n : Nat, B ≤ n → (∀ t', t' < n → ¬ ((rnT p S σ t').1 = 0 ∧ (rnT p S σ t').2.2 a ≠ (rnT p S σ t').2.2 b)) → J ω m_M_asked d 0 0 0 0 0 [(0, .ref 94), (1, .int (zI (-1)))] [] τ (q_ki (fun v τ => J ω m_M_differ (d + 1) 0 0 0 0 88 [] [.int (zI v)] τ (q_ki K))) := fun n c1 hno => m_asked hτ.1 ⟨by decide, by decide⟩ (fun c => absurd c (by decide)) (fun _ => b_M_differ_88 hs q0 q1 q2 q3 q4 q5 (zs_E (zs_E Eτ)) ⟨0, ⟨by decide, by decide⟩, rfl, fin 0 (-1) (Or.inl ⟨rfl, rfl, fun t ht => hno t (by omega)⟩) ⟨by decide, by decide⟩⟩)
    induction m with
    | zero =>
      intro n a1 a2 a3
      refine b_M_differ_37 hs q0 q1 q2 q3 q4 q5 Eτ ?_
      rw [eS]
      exact ⟨⟨by omega, by omega⟩, fun c => out n (by omega) a3, fun c => absurd c (by omega)⟩
    | succ m ih =>
      intro n a1 a2 a3
      refine b_M_differ_37 hs q0 q1 q2 q3 q4 q5 Eτ ?_
      rw [eS, Int.toNat_natCast]
      refine ⟨⟨by omega, by omega⟩, fun c => out n (by omega) a3, fun c => ⟨⟨by omega, by omega⟩, ?_⟩⟩
      obtain ⟨T1, T2, T3⟩ := T n (by omega)
      rw [T1, show (n : Int) + 1 = ((n + 1 : Nat) : Int) by omega]
      have nx : ¬ ((rnT p S σ n).1 = 0 ∧ (rnT p S σ n).2.2 a ≠ (rnT p S σ n).2.2 b) → J ω m_M_differ (d + 1) 0 0 0 0 37 [(0, .ref 94), (1, .int (zI (a : Int))), (2, .int (zI (b : Int))), (3, .int (zI ((n + 1 : Nat) : Int)))] [] τ (q_ki K) := fun c' => ih (n + 1) (by omega) (by omega) (fun t' ht' => by
        by_cases e : t' = n
        · rw [e]; exact c'
        · exact a3 t' (by omega))
      refine ⟨fun c1 => nx (fun q => c1 q.1), fun c1 => m_valueAt (t := n) (v := a) hτ.1 (by omega) (by omega) (b_M_differ_62 hs q0 q1 q2 q3 q4 q5 Eτ (m_valueAt (t := n) (v := b) hτ.1 (by omega) (by omega) (b_M_differ_68 hs q0 q1 q2 q3 q4 q5 Eτ ?_)))⟩
      have za := zA255 (x := z τ 124 (12 * n + a))
      have zb := zA255 (x := z τ 124 (12 * n + b))
      rw [T3 c1 a (by omega)] at za
      rw [T3 c1 b (by omega)] at zb
      rw [T3 c1 a (by omega), T3 c1 b (by omega), show (n : Int) + 1 = ((n + 1 : Nat) : Int) by omega]
      exact ⟨⟨by omega, by omega⟩, ⟨by omega, by omega⟩, fun c2 => nx (fun q => q.2 (Int.ofNat.inj c2)), fun c2 => m_asked hτ.1 ⟨by omega, by omega⟩ (fun _ => b_M_differ_76 hs q0 q1 q2 q3 q4 q5 (zs_E (zs_E Eτ)) ⟨1, ⟨by decide, by decide⟩, rfl, fin 1 (n : Int) (Or.inr ⟨rfl, n, rfl, by omega, ⟨c1, fun q => c2 (congrArg _ q)⟩, a3⟩) ⟨by omega, by omega⟩⟩) (fun c => absurd c (by omega))⟩
  exact b_M_differ_26 hs q0 q1 q2 q3 q4 q5 Eτ ⟨⟨by decide, by decide⟩, fun _ => l B 0 (by omega) (by omega) (fun t' ht' => absurd ht' (by omega)), fun c => absurd c (by decide)⟩
theorem m_can (hd : 871 ≤ d) (hp : p = 16 ∨ p = 29) (h : RF p s V WI Nt S w σ) (i1 : inR x1) (i2 : inR x2) (kx : ¬ (0 ≤ x1 ∧ x1 < (V : Int)) → ∀ τ, MQa p V S 2 (z σ 94 62) σ τ → K 0 τ) (kk : 0 ≤ x1 → x1 < (V : Int) → ∀ b x τ, MQa p V S 0 x σ τ → MWT p S (fun y => y.1 = 0 ∧ ((y.2.2 x1.toNat : Nat) : Int) = x2) b x σ → K b τ) : J ω m_M_can d 0 0 0 0 0 [(0, .ref 94), (1, .int (zI x1)), (2, .int (zI x2))] [] σ (q_ki K) := by
  obtain ⟨d, rfl⟩ : ∃ k, d = k + 1 := ⟨d - 1, by omega⟩
  obtain ⟨⟨hs, r0, r1, r2, r3, r4, r5⟩, hE⟩ := id h.1.1
  refine b_M_can_0 hs r0 r1 r2 r3 r4 r5 hE (m_q (by omega) hp h (fun τ hτ => ?_))
  obtain ⟨⟨-, q0, q1, q2, q3, q4, q5⟩, Eτ⟩ := id hτ.1
  obtain ⟨B, hB, eS, b12⟩ := M1_B h hτ
  have T := hτ.2.2.2.2.2
  have v12 := h.1.2.2.2.2.2.2.2.2.2.1
  have e27 : z τ 94 27 = (V : Int) := by rw [hτ.2.2.1 27 (by decide) (by decide)]; exact h.2.2.1
  have no : ¬ (0 ≤ x1 ∧ x1 < (V : Int)) → J ω m_M_no d 0 0 0 0 0 [(0, .ref 94), (1, .int (zI 2))] [] τ (q_ki (fun v τ => J ω m_M_can (d + 1) 0 0 0 0 26 [] [.int (zI v)] τ (q_ki K))) := fun c => m_no Eτ (b_M_can_26 hs q0 q1 q2 q3 q4 q5 (zs_E Eτ) ⟨0, ⟨by decide, by decide⟩, rfl, kx c _ (M1_no hτ)⟩)
  refine b_M_can_4 hs q0 q1 q2 q3 q4 q5 Eτ ⟨⟨by decide, by decide⟩, fun _ => m_isVar hτ.1 i1 e27 (fun c1 c2 => ?_) (fun c => b_M_can_18 hs q0 q1 q2 q3 q4 q5 Eτ ⟨⟨by decide, by decide⟩, fun c => absurd rfl c, fun _ => no c⟩), fun c => absurd c (by decide)⟩
  obtain ⟨a, ha⟩ : ∃ a : Nat, x1 = (a : Int) := ⟨x1.toNat, by omega⟩
  replace kk := kk c1 c2
  subst ha
  have fin : ∀ bb x, MWT p S (fun y => y.1 = 0 ∧ ((y.2.2 a : Nat) : Int) = x2) bb x σ → inR x → K bb (zs (zs τ 94 0 0) 94 62 x) := fun bb x hw hx => kk bb x _ (M1_ask hτ hx) hw
  have l : ∀ (m n : Nat), B ≤ n + m → n ≤ B → (∀ t', t' < n → ¬ ((rnT p S σ t').1 = 0 ∧ (((rnT p S σ t').2.2 a : Nat) : Int) = x2)) → J ω m_M_can (d + 1) 0 0 0 0 29 [(0, .ref 94), (1, .int (zI (a : Int))), (2, .int (zI x2)), (3, .int (zI (n : Int)))] [] τ (q_ki K) := by
    intro m
    have out : ∀ n : Nat, B ≤ n → (∀ t', t' < n → ¬ ((rnT p S σ t').1 = 0 ∧ (((rnT p S σ t').2.2 a : Nat) : Int) = x2)) → J ω m_M_asked d 0 0 0 0 0 [(0, .ref 94), (1, .int (zI (-1)))] [] τ (q_ki (fun v τ => J ω m_M_can (d + 1) 0 0 0 0 75 [] [.int (zI v)] τ (q_ki K))) := fun n c1 hno => m_asked hτ.1 ⟨by decide, by decide⟩ (fun c => absurd c (by decide)) (fun _ => b_M_can_75 hs q0 q1 q2 q3 q4 q5 (zs_E (zs_E Eτ)) ⟨0, ⟨by decide, by decide⟩, rfl, fin 0 (-1) (Or.inl ⟨rfl, rfl, fun t ht => hno t (by omega)⟩) ⟨by decide, by decide⟩⟩)
    induction m with
    | zero =>
      intro n a1 a2 a3
      refine b_M_can_29 hs q0 q1 q2 q3 q4 q5 Eτ ?_
      rw [eS]
      exact ⟨⟨by omega, by omega⟩, fun c => out n (by omega) a3, fun c => absurd c (by omega)⟩
    | succ m ih =>
      intro n a1 a2 a3
      refine b_M_can_29 hs q0 q1 q2 q3 q4 q5 Eτ ?_
      rw [eS, Int.toNat_natCast]
      refine ⟨⟨by omega, by omega⟩, fun c => out n (by omega) a3, fun c => ⟨⟨by omega, by omega⟩, ?_⟩⟩
      obtain ⟨T1, T2, T3⟩ := T n (by omega)
      rw [T1, show (n : Int) + 1 = ((n + 1 : Nat) : Int) by omega]
      have nx : ¬ ((rnT p S σ n).1 = 0 ∧ (((rnT p S σ n).2.2 a : Nat) : Int) = x2) → J ω m_M_can (d + 1) 0 0 0 0 29 [(0, .ref 94), (1, .int (zI (a : Int))), (2, .int (zI x2)), (3, .int (zI ((n + 1 : Nat) : Int)))] [] τ (q_ki K) := fun c' => ih (n + 1) (by omega) (by omega) (fun t' ht' => by
        by_cases e : t' = n
        · rw [e]; exact c'
        · exact a3 t' (by omega))
      refine ⟨fun c1 => nx (fun q => c1 q.1), fun c1 => m_valueAt (t := n) (v := a) hτ.1 (by omega) (by omega) (b_M_can_54 hs q0 q1 q2 q3 q4 q5 Eτ ?_)⟩
      have za := zA255 (x := z τ 124 (12 * n + a))
      rw [T3 c1 a (by omega)] at za
      rw [T3 c1 a (by omega), show (n : Int) + 1 = ((n + 1 : Nat) : Int) by omega]
      exact ⟨⟨by omega, by omega⟩, i2, fun c2 => nx (fun q => c2 q.2), fun c2 => m_asked hτ.1 ⟨by omega, by omega⟩ (fun _ => b_M_can_63 hs q0 q1 q2 q3 q4 q5 (zs_E (zs_E Eτ)) ⟨1, ⟨by decide, by decide⟩, rfl, fin 1 (n : Int) (Or.inr ⟨rfl, n, rfl, by omega, ⟨c1, c2⟩, a3⟩) ⟨by omega, by omega⟩⟩) (fun c => absurd c (by omega))⟩
  exact b_M_can_18 hs q0 q1 q2 q3 q4 q5 Eτ ⟨⟨by decide, by decide⟩, fun _ => l B 0 (by omega) (by omega) (fun t' ht' => absurd ht' (by omega)), fun c => absurd c (by decide)⟩
end RfJ
/-- what an extreme comes to, in the reference -/
def EXM (p : Nat) (S : List q_St) (v : Nat) (sg b x : Int) (σ : q_H) (B : Nat) : Prop :=
  (b = -1 ∧ x = -1 ∧ ∀ t, t < B → (rnT p S σ t).1 ≠ 0) ∨ ∃ t : Nat, x = (t : Int) ∧ t < B ∧ (rnT p S σ t).1 = 0 ∧ b = (((rnT p S σ t).2.2 v : Nat) : Int) ∧ (∀ t', t' < B → (rnT p S σ t').1 = 0 → sg * (((rnT p S σ t).2.2 v : Nat) : Int) ≤ sg * (((rnT p S σ t').2.2 v : Nat) : Int)) ∧ ∀ t', t' < t → (rnT p S σ t').1 = 0 → sg * (((rnT p S σ t).2.2 v : Nat) : Int) < sg * (((rnT p S σ t').2.2 v : Nat) : Int)
theorem sg_R {sg x : Int} (hs : sg = 1 ∨ sg = -1) (h0 : 0 ≤ x) (h1 : x < 256) : inR (sg * x) := by
  rcases hs with e | e
  · rw [e]; exact ⟨by omega, by omega⟩
  · rw [e]; exact ⟨by omega, by omega⟩
section RgJ
variable {ω : q_W} {d p s V w : Nat} {WI : Nat → Int} {Nt : Nat → q_It} {S : List q_St} {σ τ : q_H} {K : Int → q_H → Prop} {x x1 x2 : Int}
theorem m_extreme {sg : Int} (hd : 871 ≤ d) (hp : p = 16 ∨ p = 29) (h : RF p s V WI Nt S w σ) (i1 : inR x1) (hsg : sg = 1 ∨ sg = -1) (kx : ¬ (0 ≤ x1 ∧ x1 < (V : Int)) → ∀ τ, MQa p V S 2 (z σ 94 62) σ τ → K 0 τ) (kk : 0 ≤ x1 → x1 < (V : Int) → ∀ b x τ, MQa p V S 0 x σ τ → EXM p S x1.toNat sg b x σ (2 ^ smn (iW p σ) (iN p σ)) → inR b → K b τ) : J ω m_M_extreme d 0 0 0 0 0 [(0, .ref 94), (1, .int (zI x1)), (2, .int (zI sg))] [] σ (q_ki K) := by
  obtain ⟨d, rfl⟩ : ∃ k, d = k + 1 := ⟨d - 1, by omega⟩
  obtain ⟨⟨hs, r0, r1, r2, r3, r4, r5⟩, hE⟩ := id h.1.1
  refine b_M_extreme_0 hs r0 r1 r2 r3 r4 r5 hE (m_q (by omega) hp h (fun τ hτ => ?_))
  obtain ⟨⟨-, q0, q1, q2, q3, q4, q5⟩, Eτ⟩ := id hτ.1
  obtain ⟨B, hB, eS, b12⟩ := M1_B h hτ
  have T := hτ.2.2.2.2.2
  rw [← hB] at kk
  have v12 := h.1.2.2.2.2.2.2.2.2.2.1
  have e27 : z τ 94 27 = (V : Int) := by rw [hτ.2.2.1 27 (by decide) (by decide)]; exact h.2.2.1
  have no : ¬ (0 ≤ x1 ∧ x1 < (V : Int)) → J ω m_M_no d 0 0 0 0 0 [(0, .ref 94), (1, .int (zI 2))] [] τ (q_ki (fun v τ => J ω m_M_extreme (d + 1) 0 0 0 0 26 [] [.int (zI v)] τ (q_ki K))) := fun c => m_no Eτ (b_M_extreme_26 hs q0 q1 q2 q3 q4 q5 (zs_E Eτ) ⟨0, ⟨by decide, by decide⟩, rfl, kx c _ (M1_no hτ)⟩)
  refine b_M_extreme_4 hs q0 q1 q2 q3 q4 q5 Eτ ⟨⟨by decide, by decide⟩, fun _ => m_isVar hτ.1 i1 e27 (fun c1 c2 => ?_) (fun c => b_M_extreme_18 hs q0 q1 q2 q3 q4 q5 Eτ ⟨⟨by decide, by decide⟩, fun c => absurd rfl c, fun _ => no c⟩), fun c => absurd c (by decide)⟩
  obtain ⟨a, ha⟩ : ∃ a : Nat, x1 = (a : Int) := ⟨x1.toNat, by omega⟩
  subst ha
  have fin : ∀ b x, EXM p S a sg b x σ B → inR x → inR b → K b (zs (zs τ 94 0 0) 94 62 x) := fun b x hw hx hb => kk c1 c2 b x _ (M1_ask hτ hx) hw hb
  have vb : ∀ t, t < B → (rnT p S σ t).1 = 0 → zAnd (z τ 124 (12 * t + a)) 255 = (((rnT p S σ t).2.2 a : Nat) : Int) ∧ (((rnT p S σ t).2.2 a : Nat) : Int) < 256 := fun t ht he => by
    have q := (T t (by omega)).2.2 he a (by omega)
    have := zA255 (x := z τ 124 (12 * t + a))
    rw [q] at this
    exact ⟨q, this.2⟩
  have l : ∀ (m n : Nat) (b : Int), B ≤ n + m → n ≤ B → ((b = -1 ∧ ∀ t, t < n → (rnT p S σ t).1 ≠ 0) ∨ ∃ t : Nat, b = (t : Int) ∧ t < n ∧ (rnT p S σ t).1 = 0 ∧ (∀ t', t' < n → (rnT p S σ t').1 = 0 → sg * (((rnT p S σ t).2.2 a : Nat) : Int) ≤ sg * (((rnT p S σ t').2.2 a : Nat) : Int)) ∧ ∀ t', t' < t → (rnT p S σ t').1 = 0 → sg * (((rnT p S σ t).2.2 a : Nat) : Int) < sg * (((rnT p S σ t').2.2 a : Nat) : Int)) → J ω m_M_extreme (d + 1) 0 0 0 0 32 [(0, .ref 94), (1, .int (zI (a : Int))), (2, .int (zI sg)), (3, .int (zI b)), (4, .int (zI (n : Int)))] [] τ (q_ki K) := by
    intro m
    have out : ∀ (n : Nat) (b : Int), B ≤ n → n ≤ B → ((b = -1 ∧ ∀ t, t < n → (rnT p S σ t).1 ≠ 0) ∨ ∃ t : Nat, b = (t : Int) ∧ t < n ∧ (rnT p S σ t).1 = 0 ∧ (∀ t', t' < n → (rnT p S σ t').1 = 0 → sg * (((rnT p S σ t).2.2 a : Nat) : Int) ≤ sg * (((rnT p S σ t').2.2 a : Nat) : Int)) ∧ ∀ t', t' < t → (rnT p S σ t').1 = 0 → sg * (((rnT p S σ t).2.2 a : Nat) : Int) < sg * (((rnT p S σ t').2.2 a : Nat) : Int)) → J ω m_M_asked d 0 0 0 0 0 [(0, .ref 94), (1, .int (zI b))] [] τ (q_ki (fun v τ => J ω m_M_extreme (d + 1) 0 0 0 0 91 [(0, .ref 94), (1, .int (zI (a : Int))), (3, .int (zI b))] [.int (zI v)] τ (q_ki K))) := fun n b c1 c2 hb => by
      have nB : n = B := by omega
      subst nB
      rcases hb with ⟨e, hno⟩ | ⟨t, e, t1, t2, t3, t4⟩
      · subst e
        exact m_asked hτ.1 ⟨by decide, by decide⟩ (fun c => absurd c (by decide)) (fun _ => b_M_extreme_91 hs q0 q1 q2 q3 q4 q5 (zs_E (zs_E Eτ)) ⟨⟨by decide, by decide⟩, fun c => absurd rfl c, fun _ => ⟨-1, ⟨by decide, by decide⟩, rfl, fin (-1) (-1) (Or.inl ⟨rfl, rfl, hno⟩) ⟨by decide, by decide⟩ ⟨by decide, by decide⟩⟩⟩)
      · subst e
        obtain ⟨v1, v2⟩ := vb t t1 t2
        refine m_asked hτ.1 ⟨by omega, by omega⟩ (fun _ => b_M_extreme_91 hs q0 q1 q2 q3 q4 q5 (zs_E (zs_E Eτ)) ⟨⟨by decide, by decide⟩, fun _ => ?_, fun c => absurd c (by decide)⟩) (fun c => absurd c (by omega))
        refine m_valueAt (s := s) (t := t) (v := a) ⟨⟨hs, q0, q1, q2, q3, q4, q5⟩, zs_E (zs_E Eτ)⟩ (by omega) (by omega) ?_
        rw [z_o (by decide), z_o (by decide), v1]
        exact b_M_extreme_108 hs q0 q1 q2 q3 q4 q5 (zs_E (zs_E Eτ)) ⟨_, ⟨by omega, by omega⟩, rfl, fin _ (t : Int) (Or.inr ⟨t, rfl, t1, t2, rfl, t3, t4⟩) ⟨by omega, by omega⟩ ⟨by omega, by omega⟩⟩
    induction m with
    | zero =>
      intro n b a1 a2 a3
      refine b_M_extreme_32 hs q0 q1 q2 q3 q4 q5 Eτ ?_
      rw [eS]
      exact ⟨⟨by omega, by omega⟩, fun c => out n b (by omega) a2 a3, fun c => absurd c (by omega)⟩
    | succ m ih =>
      intro n b a1 a2 a3
      refine b_M_extreme_32 hs q0 q1 q2 q3 q4 q5 Eτ ?_
      rw [eS, Int.toNat_natCast]
      refine ⟨⟨by omega, by omega⟩, fun c => out n b (by omega) a2 a3, fun c => ⟨⟨by omega, by omega⟩, ?_⟩⟩
      obtain ⟨T1, T2, T3⟩ := T n (by omega)
      rw [T1, show (n : Int) + 1 = ((n + 1 : Nat) : Int) by omega]
      refine ⟨fun c1 => ih (n + 1) b (by omega) (by omega) ?_, fun c1 => ?_⟩
      · rcases a3 with ⟨e, hno⟩ | ⟨t, e, t1, t2, t3, t4⟩
        · refine Or.inl ⟨e, fun t' ht' => ?_⟩
          by_cases q : t' = n
          · rw [q]; exact c1
          · exact hno t' (by omega)
        · refine Or.inr ⟨t, e, by omega, t2, fun t' ht' he => ?_, t4⟩
          by_cases q : t' = n
          · rw [q] at he; exact absurd he c1
          · exact t3 t' (by omega) he
      · obtain ⟨n1, n2⟩ := vb n (by omega) c1
        rcases a3 with ⟨e, hno⟩ | ⟨t, e, t1, t2, t3, t4⟩
        · subst e
          refine ⟨⟨by decide, by decide⟩, fun _ => ih (n + 1) (n : Int) (by omega) (by omega) (Or.inr ⟨n, rfl, by omega, c1, fun t' ht' he => ?_, fun t' ht' he => absurd he (hno t' ht')⟩), fun c => absurd c (by decide)⟩
          by_cases q : t' = n
          · rw [q]; exact Int.le_refl _
          · exact absurd he (hno t' (by omega))
        · subst e
          obtain ⟨v1, v2⟩ := vb t (by omega) t2
          refine ⟨⟨by omega, by omega⟩, fun c => absurd c (by omega), fun _ => ?_⟩
          refine m_valueAt (t := n) (v := a) hτ.1 (by omega) (by omega) (b_M_extreme_65 hs q0 q1 q2 q3 q4 q5 Eτ (m_valueAt (t := t) (v := a) hτ.1 (by omega) (by omega) (b_M_extreme_73 hs q0 q1 q2 q3 q4 q5 Eτ ?_)))
          rw [n1, v1, show (n : Int) + 1 = ((n + 1 : Nat) : Int) by omega]
          refine ⟨sg_R hsg (by omega) n2, sg_R hsg (by omega) v2, fun c2 => ih (n + 1) _ (by omega) (by omega) (Or.inr ⟨t, rfl, by omega, t2, fun t' ht' he => ?_, t4⟩), fun c2 => ih (n + 1) _ (by omega) (by omega) (Or.inr ⟨n, rfl, by omega, c1, fun t' ht' he => ?_, fun t' ht' he => ?_⟩)⟩
          · by_cases q : t' = n
            · rw [q]; exact c2
            · exact t3 t' (by omega) he
          · by_cases q : t' = n
            · rw [q]; exact Int.le_refl _
            · exact Int.le_trans (Int.le_of_lt c2) (t3 t' (by omega) he)
          · exact Int.lt_of_lt_of_le c2 (t3 t' (by omega) he)
  exact b_M_extreme_18 hs q0 q1 q2 q3 q4 q5 Eτ ⟨⟨by decide, by decide⟩, fun _ => l B 0 (-1) (by omega) (by omega) (Or.inl ⟨rfl, fun t ht => absurd ht (by omega)⟩), fun c => absurd c (by decide)⟩
theorem m_least (hd : 872 ≤ d) (hp : p = 16 ∨ p = 29) (h : RF p s V WI Nt S w σ) (i1 : inR x1) (kx : ¬ (0 ≤ x1 ∧ x1 < (V : Int)) → ∀ τ, MQa p V S 2 (z σ 94 62) σ τ → K 0 τ) (kk : 0 ≤ x1 → x1 < (V : Int) → ∀ b x τ, MQa p V S 0 x σ τ → EXM p S x1.toNat 1 b x σ (2 ^ smn (iW p σ) (iN p σ)) → K b τ) : J ω m_M_least d 0 0 0 0 0 [(0, .ref 94), (1, .int (zI x1))] [] σ (q_ki K) := by
  obtain ⟨d, rfl⟩ : ∃ k, d = k + 1 := ⟨d - 1, by omega⟩
  obtain ⟨⟨hs, r0, r1, r2, r3, r4, r5⟩, hE⟩ := id h.1.1
  have v12 := h.1.2.2.2.2.2.2.2.2.2.1
  refine b_M_least_0 hs r0 r1 r2 r3 r4 r5 hE (m_extreme (sg := 1) (by omega) hp h i1 (by decide) (fun c τ hM => ?_) (fun c1 c2 b x τ hM he ib => ?_))
  · obtain ⟨⟨-, q0, q1, q2, q3, q4, q5⟩, Eτ⟩ := RQ_f h.1.1 hM.1
    exact b_M_least_6 hs q0 q1 q2 q3 q4 q5 Eτ ⟨0, ⟨by decide, by decide⟩, rfl, kx c τ hM⟩
  · obtain ⟨⟨-, q0, q1, q2, q3, q4, q5⟩, Eτ⟩ := RQ_f h.1.1 hM.1
    exact b_M_least_6 hs q0 q1 q2 q3 q4 q5 Eτ ⟨b, ib, rfl, kk c1 c2 b x τ hM he⟩
theorem m_greatest (hd : 872 ≤ d) (hp : p = 16 ∨ p = 29) (h : RF p s V WI Nt S w σ) (i1 : inR x1) (kx : ¬ (0 ≤ x1 ∧ x1 < (V : Int)) → ∀ τ, MQa p V S 2 (z σ 94 62) σ τ → K 0 τ) (kk : 0 ≤ x1 → x1 < (V : Int) → ∀ b x τ, MQa p V S 0 x σ τ → EXM p S x1.toNat (-1) b x σ (2 ^ smn (iW p σ) (iN p σ)) → K b τ) : J ω m_M_greatest d 0 0 0 0 0 [(0, .ref 94), (1, .int (zI x1))] [] σ (q_ki K) := by
  obtain ⟨d, rfl⟩ : ∃ k, d = k + 1 := ⟨d - 1, by omega⟩
  obtain ⟨⟨hs, r0, r1, r2, r3, r4, r5⟩, hE⟩ := id h.1.1
  have v12 := h.1.2.2.2.2.2.2.2.2.2.1
  refine b_M_greatest_0 hs r0 r1 r2 r3 r4 r5 hE (m_extreme (sg := (-1)) (by omega) hp h i1 (by decide) (fun c τ hM => ?_) (fun c1 c2 b x τ hM he ib => ?_))
  · obtain ⟨⟨-, q0, q1, q2, q3, q4, q5⟩, Eτ⟩ := RQ_f h.1.1 hM.1
    exact b_M_greatest_6 hs q0 q1 q2 q3 q4 q5 Eτ ⟨0, ⟨by decide, by decide⟩, rfl, kx c τ hM⟩
  · obtain ⟨⟨-, q0, q1, q2, q3, q4, q5⟩, Eτ⟩ := RQ_f h.1.1 hM.1
    exact b_M_greatest_6 hs q0 q1 q2 q3 q4 q5 Eτ ⟨b, ib, rfl, kk c1 c2 b x τ hM he⟩
theorem m_ends (hd : 871 ≤ d) (hp : p = 16 ∨ p = 29) (h : RF p s V WI Nt S w σ) (kk : ∀ b τ, MQa p V S 0 (-1) σ τ → b = ((min (cnE (fun t => decide ((rnT p S σ t).1 = 0)) (2 ^ smn (iW p σ) (iN p σ))) 20 : Nat) : Int) → K b τ) : J ω m_M_ends d 0 0 0 0 0 [(0, .ref 94)] [] σ (q_ki K) := by
  obtain ⟨d, rfl⟩ : ∃ k, d = k + 1 := ⟨d - 1, by omega⟩
  obtain ⟨⟨hs, r0, r1, r2, r3, r4, r5⟩, hE⟩ := id h.1.1
  refine b_M_ends_0 hs r0 r1 r2 r3 r4 r5 hE (m_q (by omega) hp h (fun τ hτ => ?_))
  obtain ⟨⟨-, q0, q1, q2, q3, q4, q5⟩, Eτ⟩ := id hτ.1
  obtain ⟨B, hB, eS, b12⟩ := M1_B h hτ
  have T := hτ.2.2.2.2.2
  rw [← hB] at kk
  have l : ∀ (m n c : Nat), B ≤ n + m → n ≤ B → c = min (cnE (fun t => decide ((rnT p S σ t).1 = 0)) n) 20 → J ω m_M_ends (d + 1) 0 0 0 0 17 [(0, .ref 94), (1, .int (zI (c : Int))), (2, .int (zI (n : Int)))] [] τ (q_ki K) := by
    intro m
    have out : ∀ (n c : Nat), B ≤ n → n ≤ B → c = min (cnE (fun t => decide ((rnT p S σ t).1 = 0)) n) 20 → J ω m_M_asked d 0 0 0 0 0 [(0, .ref 94), (1, .int (zI (-1)))] [] τ (q_ki (fun v τ => J ω m_M_ends (d + 1) 0 0 0 0 56 [(1, .int (zI (c : Int)))] [.int (zI v)] τ (q_ki K))) := fun n c c1 c2 e => by
      have nB : n = B := by omega
      subst nB
      exact m_asked hτ.1 ⟨by decide, by decide⟩ (fun c => absurd c (by decide)) (fun _ => b_M_ends_56 hs q0 q1 q2 q3 q4 q5 (zs_E (zs_E Eτ)) ⟨(c : Int), ⟨by omega, by omega⟩, rfl, kk _ _ (M1_ask hτ ⟨by decide, by decide⟩) (by rw [e])⟩)
    induction m with
    | zero =>
      intro n c a1 a2 a3
      refine b_M_ends_17 hs q0 q1 q2 q3 q4 q5 Eτ ?_
      rw [eS]
      exact ⟨⟨by omega, by omega⟩, fun q => out n c (by omega) a2 a3, fun c => absurd c (by omega)⟩
    | succ m ih =>
      intro n c a1 a2 a3
      refine b_M_ends_17 hs q0 q1 q2 q3 q4 q5 Eτ ?_
      rw [eS, Int.toNat_natCast]
      refine ⟨⟨by omega, by omega⟩, fun q => out n c (by omega) a2 a3, fun q => ⟨⟨by omega, by omega⟩, ?_⟩⟩
      obtain ⟨T1, T2, T3⟩ := T n (by omega)
      have es : cnE (fun t => decide ((rnT p S σ t).1 = 0)) (n + 1) = cnE (fun t => decide ((rnT p S σ t).1 = 0)) n + (if decide ((rnT p S σ n).1 = 0) then 1 else 0) := rfl
      rw [T1, show (n : Int) + 1 = ((n + 1 : Nat) : Int) by omega]
      refine ⟨fun c1 => ih (n + 1) c (by omega) (by omega) ?_, fun c1 => ⟨⟨by omega, by omega⟩, fun c2 => ih (n + 1) c (by omega) (by omega) ?_, fun c2 => ?_⟩⟩
      · rw [es, if_neg (by simpa using c1)]; omega
      · rw [es]; omega
      · rw [show (c : Int) + 1 = ((c + 1 : Nat) : Int) by omega]
        refine ih (n + 1) (c + 1) (by omega) (by omega) ?_
        rw [es, if_pos (by simpa using c1)]
        omega
  exact b_M_ends_4 hs q0 q1 q2 q3 q4 q5 Eτ ⟨⟨by decide, by decide⟩, fun _ => l B 0 0 (by omega) (by omega) rfl, fun c => absurd c (by decide)⟩
end RgJ
