/-! CLAUSES: a circuit's; one more; CHECKER, safety -/
section CmJ
variable {ω : q_W} {d s top : Nat} {cs : List Nat} {Ws : Nat → List Nat} {σ : q_H}
theorem c_writeGate {K : q_H → Prop} {x1 x3 x4 x5 : Int} {g : Nat} (hd : 2 ≤ d) (hE : q_E σ) (hs : s ≤ 10240) (hg : 1 ≤ g ∧ g < s) (hc : CX s top cs Ws σ) (hr : top + 24 ≤ 360000) (k1 : 0 ≤ x1 ∧ x1 ≤ 3)
    (hx : x1 ≠ 0 → (2 ≤ x3 ∧ x3 < 2 * (g : Int)) ∧ (2 ≤ x4 ∧ x4 < 2 * (g : Int)) ∧ x3 / 2 ≠ x4 / 2 ∧ (x1 = 3 → 2 ≤ x5 ∧ x5 < 2 * (g : Int) ∧ x5 / 2 ≠ x3 / 2 ∧ x5 / 2 ≠ x4 / 2))
    (kk : ∀ τ top' cs' Ws', fr [71, 72, 73] σ τ → CX s top' cs' Ws' τ → top ≤ top' → top' ≤ top + 24 → K τ) : J ω m_Cl_writeGate d 0 0 0 0 0 [(0, .ref 71), (1, .int (zI x1)), (2, .int (zI (2 * (g : Int)))), (3, .int (zI x3)), (4, .int (zI x4)), (5, .int (zI x5))] [] σ (q_kv K) := by
  obtain ⟨d, rfl⟩ : ∃ k, d = k + 1 := ⟨d - 1, by omega⟩
  have eo : zXor (2 * (g : Int)) 1 = 2 * (g : Int) + 1 := by rw [zXor_1 (by omega) (by omega)]; omega
  have lo : lit s (2 * (g : Int)) := ⟨by omega, by omega⟩
  have lo1 : lit s (2 * (g : Int) + 1) := ⟨by omega, by omega⟩
  have l0 : lit s 0 := ⟨by decide, by omega⟩
  by_cases c0 : x1 = 0
  · subst c0
    exact b_Cl_writeGate_0 hE ⟨⟨by decide, by decide⟩, fun c => absurd c (by decide), fun c => absurd c (by decide), fun c => absurd c (by decide), fun _ => ⟨rfl, kk σ top cs Ws fr_refl hc (Nat.le_refl _) (by omega)⟩⟩
  obtain ⟨h3, h4, h34, h5⟩ := hx c0
  have e3 : zXor x3 1 = x3 + 1 - 2 * (x3 % 2) := zXor_1 (by omega) (by omega)
  have e4 : zXor x4 1 = x4 + 1 - 2 * (x4 % 2) := zXor_1 (by omega) (by omega)
  have l3 : lit s x3 := ⟨by omega, by omega⟩
  have l4 : lit s x4 := ⟨by omega, by omega⟩
  have l3' : lit s (zXor x3 1) := ⟨by omega, by omega⟩
  have l4' : lit s (zXor x4 1) := ⟨by omega, by omega⟩
  have E : ∀ {τ : q_H}, fr [71, 72, 73] σ τ → q_E τ := fun f => fr_E f hE
  refine b_Cl_writeGate_0 hE ⟨⟨by omega, by omega⟩, fun c => ?_, fun c => ?_, fun c => ?_, fun c => absurd c (by omega)⟩
  · rw [eo]
    refine c_put (by omega) hE hs hc (by omega) lo1 l3 l0 (by omega) (fun c => absurd rfl c) (fun τ1 t1 c1 w1 f1 x1 a1 b1 => b_Cl_writeGate_37 (E f1) ?_)
    rw [eo]
    refine c_put (by omega) (E f1) hs x1 (by omega) lo1 l4 l0 (by omega) (fun c => absurd rfl c) (fun τ2 t2 c2 w2 f2 x2 a2 b2 => b_Cl_writeGate_47 (fr_E f2 (E f1)) ?_)
    exact c_put (by omega) (fr_E f2 (E f1)) hs x2 (by omega) lo l3' l4' (by omega) (fun _ => ⟨by omega, by omega⟩) (fun τ3 t3 c3 w3 f3 x3 a3 b3 => b_Cl_writeGate_59 (fr_E f3 (fr_E f2 (E f1))) ⟨rfl, kk τ3 t3 c3 w3 (fr_trans f1 (fr_trans f2 f3)) x3 (by omega) (by omega)⟩)
  · rw [eo]
    refine c_put (by omega) hE hs hc (by omega) lo1 l3 l4 (by omega) (fun _ => ⟨by omega, by omega⟩) (fun τ1 t1 c1 w1 f1 x1 a1 b1 => b_Cl_writeGate_72 (E f1) ?_)
    rw [eo]
    refine c_put (by omega) (E f1) hs x1 (by omega) lo1 l3' l4' (by omega) (fun _ => ⟨by omega, by omega⟩) (fun τ2 t2 c2 w2 f2 x2 a2 b2 => b_Cl_writeGate_86 (fr_E f2 (E f1)) ?_)
    refine c_put (by omega) (fr_E f2 (E f1)) hs x2 (by omega) lo l3' l4 (by omega) (fun _ => ⟨by omega, by omega⟩) (fun τ3 t3 c3 w3 f3 x3' a3 b3 => b_Cl_writeGate_96 (fr_E f3 (fr_E f2 (E f1))) ?_)
    exact c_put (by omega) (fr_E f3 (fr_E f2 (E f1))) hs x3' (by omega) lo l3 l4' (by omega) (fun _ => ⟨by omega, by omega⟩) (fun τ4 t4 c4 w4 f4 x4' a4 b4 => b_Cl_writeGate_106 (fr_E f4 (fr_E f3 (fr_E f2 (E f1)))) ⟨rfl, kk τ4 t4 c4 w4 (fr_trans f1 (fr_trans f2 (fr_trans f3 f4))) x4' (by omega) (by omega)⟩)
  · have h5 := h5 c
    have e5 : zXor x5 1 = x5 + 1 - 2 * (x5 % 2) := zXor_1 (by omega) (by omega)
    have l5 : lit s x5 := ⟨by omega, by omega⟩
    have l5' : lit s (zXor x5 1) := ⟨by omega, by omega⟩
    refine c_put (by omega) hE hs hc (by omega) lo l3' l4' (by omega) (fun _ => ⟨by omega, by omega⟩) (fun τ1 t1 c1 w1 f1 x1 a1 b1 => b_Cl_writeGate_121 (E f1) ?_)
    rw [eo]
    refine c_put (by omega) (E f1) hs x1 (by omega) lo1 l3' l4 (by omega) (fun _ => ⟨by omega, by omega⟩) (fun τ2 t2 c2 w2 f2 x2 a2 b2 => b_Cl_writeGate_133 (fr_E f2 (E f1)) ?_)
    refine c_put (by omega) (fr_E f2 (E f1)) hs x2 (by omega) lo l3 l5' (by omega) (fun _ => ⟨by omega, by omega⟩) (fun τ3 t3 c3 w3 f3 x3' a3 b3 => b_Cl_writeGate_143 (fr_E f3 (fr_E f2 (E f1))) ?_)
    rw [eo]
    exact c_put (by omega) (fr_E f3 (fr_E f2 (E f1))) hs x3' (by omega) lo1 l3 l5 (by omega) (fun _ => ⟨by omega, by omega⟩) (fun τ4 t4 c4 w4 f4 x4' a4 b4 => b_Cl_writeGate_153 (fr_E f4 (fr_E f3 (fr_E f2 (E f1)))) ⟨rfl, kk τ4 t4 c4 w4 (fr_trans f1 (fr_trans f2 (fr_trans f3 f4))) x4' (by omega) (by omega)⟩)
/-- all gates on which the roots hang -/
theorem c_write {K : q_H → Prop} {m : Nat} (hd : 4 ≤ d) (hE : q_E σ) (hci : CI s σ) (hc : CX s 1 cs Ws σ) (hm : m ≤ 16) (hr : ∀ i, i < m → lit s (z σ 92 i)) (kk : ∀ τ top' cs' Ws', fr [71, 72, 73, 74] σ τ → CX s top' cs' Ws' τ → top' ≤ 245761 → K τ) : J ω m_Cl_write d 0 0 0 0 0 [(0, .ref 71), (1, .ref 50), (2, .ref 92), (3, .int (zI (m : Int)))] [] σ (q_kv K) := by
  obtain ⟨d, rfl⟩ : ∃ k, d = k + 1 := ⟨d - 1, by omega⟩
  have hs1 := hci.2.1
  -- what the marks leave alone
  have CXf : ∀ {ρ τ : q_H} {t : Nat} {c : List Nat} {w : Nat → List Nat}, fr [74] ρ τ → CX s t c w ρ → CX s t c w τ := fun {ρ τ t c w} f h => by
    unfold CX
    rw [fr_zF f (by decide), fr_zF f (by decide), fr_zF f (by decide)]
    exact h
  have CIf : ∀ {ρ : q_H}, fr [71, 72, 73, 74] σ ρ → CI s ρ := fun {ρ} f => by
    unfold CI
    rw [fr_zF f (by decide), fr_zF f (by decide), fr_zF f (by decide), fr_zF f (by decide), fr_zF f (by decide), fr_zF f (by decide), fr_zF f (by decide), fr_zF f (by decide)]
    exact hci
  have g126 : ∀ (k i : Nat) (ρ : q_H) (t : Nat) (c : List Nat) (w : Nat → List Nat), s ≤ i + k → 1 ≤ i → i ≤ s → fr [71, 72, 73, 74] σ ρ → CX s t c w ρ → t ≤ 1 + 24 * (i - 1) → J ω m_Cl_write (d + 1) 0 0 0 0 126 [(0, .ref 71), (1, .ref 50), (4, .int (zI (i : Int)))] [] ρ (q_kv K) := by
    intro k
    induction k with
    | zero =>
      intro i ρ t c w hi h1 his f hx ht
      refine b_Cl_write_126 (fr_E f hE) ?_
      rw [(CIf f).1]
      exact ⟨⟨by omega, by omega⟩, fun _ => ⟨rfl, kk ρ t c w f hx (by omega)⟩, fun c => absurd c (by omega)⟩
    | succ k ih =>
      intro i ρ t c w hi h1 his f hx ht
      refine b_Cl_write_126 (fr_E f hE) ?_
      rw [(CIf f).1, Int.toNat_natCast]
      refine ⟨⟨by omega, by omega⟩, fun _ => ⟨rfl, kk ρ t c w f hx (by omega)⟩, fun ci => ⟨⟨by omega, by omega⟩, fun _ => ih (i + 1) ρ t c w (by omega) (by omega) (by omega) f hx (by omega), fun _ => ?_⟩⟩
      obtain ⟨g1, g2⟩ := (CIf f).2.2.2 i h1 (by omega)
      refine c_writeGate (by omega) (fr_E f hE) hs1.2 ⟨h1, by omega⟩ hx (by omega) g1 (fun h0 => ?_) (fun τ t2 c2 w2 f2 x2 a2 b2 => b_Cl_write_182 (fr_E f2 (fr_E f hE)) (ih (i + 1) τ t2 c2 w2 (by omega) (by omega) (by omega) (fr_trans f (fr_mono f2 (by simp))) x2 (by omega)))
      obtain ⟨q1, q2, q3, q4, -⟩ := g2 h0
      exact ⟨q1, q2, q3, q4⟩
  have sh : ∀ x : Int, lit s x → 0 ≤ zShr x 1 ∧ zShr x 1 < 10240 := fun x hx => by
    have h0 := hx.1
    have h1 := hx.2
    rw [zShr_1 ⟨by omega, by omega⟩]
    omega
  have g46 : ∀ (k : Nat) (x4 : Int) (ρ : q_H), x4 ≤ (k : Int) → x4 < (s : Int) → 0 ≤ x4 → fr [74] σ ρ → J ω m_Cl_write (d + 1) 0 0 0 0 46 [(0, .ref 71), (1, .ref 50), (4, .int (zI x4))] [] ρ (q_kv K) := by
    intro k
    have out : ∀ ρ, fr [74] σ ρ → J ω m_Cl_write (d + 1) 0 0 0 0 126 [(0, .ref 71), (1, .ref 50), (4, .int (zI 1))] [] ρ (q_kv K) := fun ρ f => g126 s 1 ρ 1 cs Ws (by omega) (Nat.le_refl _) hs1.1 (fr_mono f (by simp)) (CXf f hc) (by omega)
    induction k with
    | zero =>
      intro x4 ρ hk h1 h0 f
      exact b_Cl_write_46 (fr_E f hE) ⟨⟨by omega, by omega⟩, fun _ => out ρ f, fun c => absurd c (by omega)⟩
    | succ k ih =>
      intro x4 ρ hk h1 h0 f
      refine b_Cl_write_46 (fr_E f hE) ⟨⟨by omega, by omega⟩, fun _ => out ρ f, fun c => ⟨⟨by omega, by omega⟩, fun _ => ih (x4 - 1) ρ (by omega) (by omega) (by omega) f, fun _ => ⟨fun _ => ih (x4 - 1) ρ (by omega) (by omega) (by omega) f, fun c0 => ?_⟩⟩⟩
      have hci2 := CIf (fr_mono f (by simp : ∀ x ∈ [74], x ∈ [71, 72, 73, 74]))
      obtain ⟨g1, g2⟩ := hci2.2.2.2 x4.toNat (by omega) (by omega)
      obtain ⟨q1, q2, q3, q4, q5, -⟩ := g2 c0
      have l3 : lit s (z ρ 54 x4.toNat) := by
        by_cases c3 : z ρ 51 x4.toNat = 3
        · have := q4 c3; exact ⟨by omega, by omega⟩
        · rw [q5 c3]; exact ⟨by decide, by omega⟩
      exact ⟨sh _ ⟨by omega, by omega⟩, sh _ ⟨by omega, by omega⟩, sh _ l3, ih (x4 - 1) _ (by omega) (by omega) (by omega) (fr_s (fr_s (fr_s f (by simp)) (by simp)) (by simp))⟩
  have g14 : ∀ (k i : Nat) (ρ : q_H), m ≤ i + k → i ≤ m → fr [74] σ ρ → J ω m_Cl_write (d + 1) 0 0 0 0 14 [(0, .ref 71), (1, .ref 50), (2, .ref 92), (3, .int (zI (m : Int))), (4, .int (zI (i : Int)))] [] ρ (q_kv K) := by
    intro k
    have out : ∀ ρ, fr [74] σ ρ → J ω m_Cl_write (d + 1) 0 0 0 0 46 [(0, .ref 71), (1, .ref 50), (4, .int (zI (z ρ 50 7 - 1)))] [] ρ (q_kv K) := fun ρ f => by
      rw [fr_zF f (by decide), hci.1]
      exact g46 s ((s : Int) - 1) ρ (by omega) (by omega) (by omega) f
    induction k with
    | zero =>
      intro i ρ hi him f
      exact b_Cl_write_14 (fr_E f hE) ⟨⟨by omega, by omega⟩, ⟨by omega, by omega⟩, fun _ => out ρ f, fun c => absurd c (by omega)⟩
    | succ k ih =>
      intro i ρ hi him f
      refine b_Cl_write_14 (fr_E f hE) ⟨⟨by omega, by omega⟩, ⟨by omega, by omega⟩, fun _ => out ρ f, fun c => ⟨⟨by omega, by omega⟩, sh _ ?_, ih (i + 1) _ (by omega) (by omega) (fr_s f (by simp))⟩⟩
      rw [fr_zF f (by decide), Int.toNat_natCast]
      exact hr i (by omega)
  refine b_Cl_write_0 hE ?_
  rw [hci.1]
  exact c_wipe (n := 10240) (tg_74 hE) (q_okE hE (by decide)) (by decide) hE hs1.2 (fun τ f _ _ => b_Cl_write_11 (fr_E f hE) (g14 m 0 τ (by omega) (by omega) f))
/-- one more clause, where there is room -/
theorem c_add {K : Int → q_H → Prop} {l nl k : Nat} (hd : 1 ≤ d) (hE : q_E σ) (tl : q_t σ l = (2, nl)) (ol : 0 < l ∧ l ≤ q_n σ) (hnl : nl < 2147483648) (hl : l ≠ 71 ∧ l ≠ 72 ∧ l ≠ 73) (hs : s ≤ 10240) (hc : CX s top cs Ws σ) (hk : k ≤ nl) (hr : top + 3 + k ≤ 360000) (hlit : ∀ i, i < k → lit s (z σ l i)) (hdi : ∀ i j, i < j → j < k → z σ l i ≠ z σ l j)
    (kk : ∀ τ Ws', fr [71, 72, 73] σ τ → CX s (top + 3 + k) (top :: cs) Ws' τ → (∀ j, j < top → z τ 72 j = z σ 72 j) → z τ 72 top = (k : Int) → (∀ i, i < k → z τ 72 (top + 3 + i) = z σ l i) → K (top : Int) τ) : J ω m_Cl_add d 0 0 0 0 0 [(0, .ref 71), (1, .ref l), (2, .int (zI (k : Int)))] [] σ (q_ki K) := by
  obtain ⟨d, rfl⟩ : ∃ k, d = k + 1 := ⟨d - 1, by omega⟩
  obtain ⟨ht, ht1, hcl, hwl⟩ := id hc
  refine b_Cl_add_0 tl ol hnl hE ?_
  rw [ht, Int.toNat_natCast, Int.toNat_natCast, show ((top : Int) + 3).toNat = top + 3 by omega]
  have F : fr [72] σ (zcp (zs σ 72 top (k : Int)) l 0 72 (top + 3) k) := fr_c (fr_s fr_refl (by simp)) (by simp)
  have q0 : ∀ j, j < top → z (zcp (zs σ 72 top (k : Int)) l 0 72 (top + 3) k) 72 j = z σ 72 j := fun j hj => by rw [z_cp_out (by omega), z_k (by omega)]
  have q1 : z (zcp (zs σ 72 top (k : Int)) l 0 72 (top + 3) k) 72 top = (k : Int) := by rw [z_cp_out (by omega), z_s ⟨by omega, by omega⟩]
  have q2 : ∀ i, i < k → z (zcp (zs σ 72 top (k : Int)) l 0 72 (top + 3) k) 72 (top + 3 + i) = z σ l i := fun i hi => by
    rw [z_cp_in (by omega), show 0 + (top + 3 + i - (top + 3)) = i by omega, z_o (by omega)]
  generalize zcp (zs σ 72 top (k : Int)) l 0 72 (top + 3) k = ρ at F q0 q1 q2 ⊢
  have r3 : z ρ 71 3 = (top : Int) := by rw [fr_zF F (by decide)]; exact ht
  have e73 : z ρ 73 = z σ 73 := fr_zF F (by decide)
  have cl : ∀ τ : q_H, (∀ j, j < top → z τ 72 j = z σ 72 j) → z τ 72 top = (k : Int) → (∀ i, i < k → z τ 72 (top + 3 + i) = z σ l i) → CLp (z τ 72) (top + 3 + k) s (top :: cs) := fun τ a b c =>
    CL_new hcl ht1.1 a b (fun i hi => by rw [c i hi]; exact hlit i hi) (fun i j h1 h2 => by rw [c i (by omega), c j h2]; exact hdi i j h1 h2)
  have fin : ∀ (τ : q_H) (Ws' : Nat → List Nat), fr [71, 72, 73] σ τ → z τ 71 3 = (top : Int) → (∀ j, j < top → z τ 72 j = z σ 72 j) → z τ 72 top = (k : Int) → (∀ i, i < k → z τ 72 (top + 3 + i) = z σ l i) → WLp (z τ 72) (z τ 73) s (top :: cs) Ws' → J ω m_Cl_add (d + 1) 0 0 0 0 60 [(0, .ref 71), (2, .int (zI (k : Int))), (3, .int (zI (top : Int)))] [] τ (q_ki K) := by
    intro τ Ws' f t3 a b c w
    refine b_Cl_add_60 (l := l) (nl := nl) (by rw [fr_tg f]; exact tl) (by rw [fr_n f]; exact ol) hnl (fr_E f hE) ⟨_, ⟨by omega, by omega⟩, rfl, ?_⟩
    rw [t3]
    have u72 : z (zs τ 71 3 ((top : Int) + ((k : Int) + 3))) 72 = z τ 72 := z_oF (by decide)
    have u73 : z (zs τ 71 3 ((top : Int) + ((k : Int) + 3))) 73 = z τ 73 := z_oF (by decide)
    refine kk _ Ws' (fr_s f (by simp)) ⟨?_, by omega, by rw [u72]; exact cl τ a b c, by rw [u72, u73]; exact w⟩ (by rw [u72]; exact a) (by rw [u72]; exact b) (by rw [u72]; exact c)
    rw [z_s ⟨by omega, by omega⟩]; omega
  refine ⟨⟨by omega, by omega⟩, fun _ => ⟨⟨by omega, by omega⟩, ⟨by omega, by omega, by omega, by omega, by omega⟩, ⟨by omega, by omega⟩, fun c => ?_, fun c => ?_⟩, fun c => absurd c (by omega)⟩
  · refine fin ρ Ws (fr_mono F (by simp)) r3 q0 q1 q2 ?_
    rw [e73]
    exact WL_small hwl hcl q0 (by rw [q1]; omega)
  · have a3 : z ρ 72 (top + 3) = z σ l 0 := q2 0 (by omega)
    have a4 : z ρ 72 (top + 4) = z σ l 1 := q2 1 (by omega)
    refine c_watch (s := s) (fr_E F hE) hs ⟨ht1.1, by omega⟩ (by rw [a3]; exact hlit 0 (by omega)) (by rw [a4]; exact hlit 1 (by omega)) (by rw [a3, a4]; exact hdi 0 1 (by omega) (by omega)) (fun τ g p72 p73 => ?_)
    have hM : ∀ j, j < top → z τ 72 j = z σ 72 j := fun j hj => by rw [p72, up_n (by omega), up_n (by omega)]; exact q0 j hj
    have b0 : z τ 72 top = (k : Int) := by rw [p72, up_n (by omega), up_n (by omega)]; exact q1
    have b2 : ∀ i, i < k → z τ 72 (top + 3 + i) = z σ l i := fun i hi => by rw [p72, up_n (by omega), up_n (by omega)]; exact q2 i hi
    have b3 : z τ 72 (top + 3) = z ρ 72 (top + 3) := by rw [p72, up_n (by omega), up_n (by omega)]
    have b4 : z τ 72 (top + 4) = z ρ 72 (top + 4) := by rw [p72, up_n (by omega), up_n (by omega)]
    refine fin τ (fun m => if (m : Int) = z τ 72 (top + 3) ∨ (m : Int) = z τ 72 (top + 4) then top :: Ws m else Ws m) (fr_trans (fr_mono F (by simp)) (fr_mono g (by simp))) (by rw [fr_zF g (by decide)]; exact r3) hM b0 b2 ?_
    have := WL_new (M := z σ 72) (M' := z τ 72) hwl hcl hM (by rw [b0]; omega) (by rw [b3, a3]; exact hlit 0 (by omega)) (by rw [b4, a4]; exact hlit 1 (by omega)) (by rw [b3, b4, a3, a4]; exact hdi 0 1 (by omega) (by omega)) (by rw [b3, p72, up_n (by omega), up_s, e73]) (by rw [b4, p72, up_s, e73])
    rw [p73, e73]
    rw [b3, b4] at this ⊢
    exact this
theorem c_allHold {K : Int → q_H → Prop} (hE : q_E σ) (hs : s ≤ 10240) (hc : CX s top cs Ws σ) (kk : ∀ v, (v = 0 ∨ v = 1) → K v σ) : J ω m_Cl_allHold d 0 0 0 0 0 [(0, .ref 71), (1, .ref 78)] [] σ (q_ki K) := by
  obtain ⟨ht, ht1, hcl, hwl⟩ := id hc
  have l : ∀ (k : Nat) (x2 : Nat), top ≤ x2 + k → x2 ≤ top → (x2 = top ∨ x2 ∈ cs) → J ω m_Cl_allHold d 0 0 0 0 2 [(0, .ref 71), (1, .ref 78), (2, .int (zI (x2 : Int)))] [] σ (q_ki K) := by
    intro k
    induction k with
    | zero =>
      intro x2 hk h2 hm
      refine b_Cl_allHold_2 hE ?_
      rw [ht]
      exact ⟨⟨by omega, by omega⟩, fun _ => ⟨1, ⟨by decide, by decide⟩, rfl, kk 1 (Or.inr rfl)⟩, fun c => absurd c (by omega)⟩
    | succ k ih =>
      intro x2 hk h2 hm
      refine b_Cl_allHold_2 hE ?_
      rw [ht, Int.toNat_natCast]
      refine ⟨⟨by omega, by omega⟩, fun _ => ⟨1, ⟨by decide, by decide⟩, rfl, kk 1 (Or.inr rfl)⟩, fun c => ⟨⟨by omega, by omega⟩, ?_⟩⟩
      have hm : x2 ∈ cs := by rcases hm with e | e; omega; exact e
      obtain ⟨a1, a2, a3, a4, a5, a6⟩ := hcl.1 x2 hm
      have g51 : ∀ x4 : Int, inR x4 → J ω m_Cl_allHold d 0 0 0 0 51 [(0, .ref 71), (1, .ref 78), (3, .int (zI ((x2 : Int) + 3 + z σ 72 x2))), (4, .int (zI x4))] [] σ (q_ki K) := by
        intro x4 h4
        refine b_Cl_allHold_51 hE ⟨h4, ⟨by omega, by omega⟩, fun _ => ?_, fun _ => ⟨0, ⟨by decide, by decide⟩, rfl, kk 0 (Or.inl rfl)⟩⟩
        rw [show (x2 : Int) + 3 + z σ 72 x2 = (((x2 : Int) + 3 + z σ 72 x2).toNat : Int) by omega]
        exact ih _ (by omega) (by omega) (by rcases a6 with e | e; exact Or.inl (by omega); exact Or.inr e)
      have l2 : ∀ (m : Nat) (x4 : Int), (x2 : Int) + 3 + z σ 72 x2 ≤ x4 + m → (x2 : Int) + 3 ≤ x4 → x4 ≤ (x2 : Int) + 3 + z σ 72 x2 → J ω m_Cl_allHold d 0 0 0 0 26 [(0, .ref 71), (1, .ref 78), (3, .int (zI ((x2 : Int) + 3 + z σ 72 x2))), (4, .int (zI x4))] [] σ (q_ki K) := by
        intro m
        induction m with
        | zero =>
          intro x4 hm h1 h2
          exact b_Cl_allHold_26 hE ⟨⟨by omega, by omega⟩, ⟨by omega, by omega⟩, fun _ => g51 x4 ⟨by omega, by omega⟩, fun c => absurd c (by omega)⟩
        | succ m ih2 =>
          intro x4 hm h1 h2
          refine b_Cl_allHold_26 hE ⟨⟨by omega, by omega⟩, ⟨by omega, by omega⟩, fun _ => g51 x4 ⟨by omega, by omega⟩, fun c => ⟨⟨by omega, by omega⟩, ?_, fun _ => g51 x4 ⟨by omega, by omega⟩, fun _ => ih2 (x4 + 1) (by omega) (by omega) (by omega)⟩⟩
          have := a4 (x4 - x2 - 3).toNat (by omega)
          rw [show x2 + 3 + (x4 - x2 - 3).toNat = x4.toNat by omega] at this
          exact ⟨this.1, by have := this.2; omega⟩
      exact l2 360000 _ (by omega) (Int.le_refl _) (by omega)
  exact b_Cl_allHold_0 hE (l top 1 (by omega) ht1.1 (hcl.2.2.2.imp (fun h => h.symm) id))
/-- the checker: its own rows alone change -/
theorem k_remainder {K : Int → q_H → Prop} {c : Nat} (hE : q_E σ) (hs : s ≤ 10240) (hc : CX s top cs Ws σ) (hm : c ∈ cs) (kk : ∀ v, (v = -1 ∨ v = -2 ∨ lit s v) → K v σ) : J ω m_Ch_remainder d 0 0 0 0 0 [(0, .ref 75), (1, .ref 72), (2, .int (zI (c : Int)))] [] σ (q_ki K) := by
  obtain ⟨ht, ht1, hcl, hwl⟩ := id hc
  obtain ⟨a1, a2, a3, a4, a5, a6⟩ := hcl.1 c hm
  have l : ∀ (m : Nat) (x3 x5 : Int), (c : Int) + 3 + z σ 72 c ≤ x5 + m → (c : Int) + 3 ≤ x5 → x5 ≤ (c : Int) + 3 + z σ 72 c → (x3 = -1 ∨ lit s x3) → J ω m_Ch_remainder d 0 0 0 0 16 [(0, .ref 75), (1, .ref 72), (3, .int (zI x3)), (4, .int (zI ((c : Int) + 3 + z σ 72 c))), (5, .int (zI x5))] [] σ (q_ki K) := by
    intro m
    have i3 : ∀ x3 : Int, (x3 = -1 ∨ lit s x3) → inR x3 := fun x3 h => h.elim (fun e => by rw [e]; exact ⟨by decide, by decide⟩) (lit_R hs)
    have ret : ∀ x3 : Int, (x3 = -1 ∨ lit s x3) → q_ki K (.inl (some (.int (zI x3)))) σ := fun x3 h => ⟨x3, i3 x3 h, rfl, kk x3 (h.imp id Or.inr)⟩
    induction m with
    | zero =>
      intro x3 x5 hm h1 h2 h3
      exact b_Ch_remainder_16 hE ⟨⟨by omega, by omega⟩, ⟨by omega, by omega⟩, fun _ => ret x3 h3, fun c => absurd c (by omega)⟩
    | succ m ih =>
      intro x3 x5 hm h1 h2 h3
      refine b_Ch_remainder_16 hE ⟨⟨by omega, by omega⟩, ⟨by omega, by omega⟩, fun _ => ret x3 h3, fun cl => ?_⟩
      have lv := a4 (x5 - c - 3).toNat (by omega)
      rw [show c + 3 + (x5 - c - 3).toNat = x5.toNat by omega] at lv
      have lx := (lit_x hs lv).1
      exact ⟨⟨by omega, by omega⟩, ⟨lx.1, by have := lx.2; omega⟩, fun _ => ih x3 (x5 + 1) (by omega) (by omega) (by omega) h3, fun _ => ⟨fun _ => ih x3 (x5 + 1) (by omega) (by omega) (by omega) h3, fun _ => ⟨i3 x3 h3, fun _ => ih _ (x5 + 1) (by omega) (by omega) (by omega) (Or.inr lv), fun _ => ⟨-2, ⟨by decide, by decide⟩, rfl, kk (-2) (Or.inr (Or.inl rfl))⟩⟩⟩⟩
  refine b_Ch_remainder_0 hE ?_
  rw [Int.toNat_natCast]
  exact ⟨⟨by omega, by omega⟩, l 360000 (-1) _ (by omega) (Int.le_refl _) (by omega) (Or.inl rfl)⟩
theorem k_check {K : q_H → Prop} {n h : Nat} (hd : 3 ≤ d) (hE : q_E σ) (hs : s ≤ 10240) (hc : CX s top cs Ws σ) (hn : n ≤ 10240) (hh : h ≤ 10240) (hl : ∀ i, i < n → lit s (z σ 85 i)) (hi : ∀ i, i < h → z σ 86 i = 0 ∨ ∃ c ∈ cs, z σ 86 i = ((c : Nat) : Int)) (kk : ∀ τ, fr [75, 76, 77] σ τ → K τ) : J ω m_Ch_check d 0 0 0 0 0 [(0, .ref 75), (1, .ref 72), (2, .ref 85), (3, .int (zI (n : Int))), (4, .ref 86), (5, .int (zI (h : Int)))] [] σ (q_kv K) := by
  obtain ⟨d, rfl⟩ : ∃ k, d = k + 1 := ⟨d - 1, by omega⟩
  obtain ⟨d, rfl⟩ : ∃ k, d = k + 1 := ⟨d - 1, by omega⟩
  have CXf : ∀ {τ : q_H}, fr [75, 76, 77] σ τ → CX s top cs Ws τ := fun {τ} f => by
    unfold CX
    rw [fr_zF f (by decide), fr_zF f (by decide), fr_zF f (by decide)]
    exact hc
  have e85 : ∀ {τ : q_H}, fr [75, 76, 77] σ τ → z τ 85 = z σ 85 := fun f => fr_zF f (by decide)
  have e86 : ∀ {τ : q_H}, fr [75, 76, 77] σ τ → z τ 86 = z σ 86 := fun f => fr_zF f (by decide)
  have fin : ∀ (v : Int) (τ : q_H), (v = 0 ∨ v = 1) → fr [75, 76, 77] σ τ → q_ki (fun v τ => J ω m_Ch_check (d + 1 + 1) 0 0 0 0 11 [(0, .ref 75), (2, .ref 85), (3, .int (zI (n : Int)))] [.int (zI v)] τ (q_kv K)) (.inl (some (.int (zI v)))) τ := by
    intro v τ hv f
    refine ⟨v, ⟨by omega, by omega⟩, rfl, b_Ch_check_11 (fr_E f hE) ⟨⟨by omega, by omega⟩, fun _ => ⟨⟨by omega, by omega⟩, fun _ => ⟨rfl, kk τ f⟩, fun c1 => ⟨?_, rfl, kk _ (fr_s f (by simp))⟩⟩, fun _ => ⟨rfl, kk _ (fr_s f (by simp))⟩⟩⟩
    rw [e85 f]
    have := hl 0 (by omega)
    exact ⟨this.1, by have := this.2; omega⟩
  have g77 : ∀ (k : Nat) (x6 : Int) (τ : q_H), x6 < (k : Int) → -1 ≤ x6 → x6 < (h : Int) → fr [75, 76, 77] σ τ → J ω m_Ch_follows (d + 1) 0 0 0 0 77 [(0, .ref 75), (1, .ref 72), (4, .ref 86), (6, .int (zI x6))] [] τ (q_ki (fun v τ => J ω m_Ch_check (d + 1 + 1) 0 0 0 0 11 [(0, .ref 75), (2, .ref 85), (3, .int (zI (n : Int)))] [.int (zI v)] τ (q_kv K))) := by
    intro k
    induction k with
    | zero =>
      intro x6 τ hk h0 h1 f
      exact b_Ch_follows_77 (fr_E f hE) ⟨⟨by omega, by omega⟩, fun _ => fin 0 τ (Or.inl rfl) f, fun c => absurd c (by omega)⟩
    | succ k ih =>
      intro x6 τ hk h0 h1 f
      have g105 : ∀ y0 : Int, (y0 = -1 ∨ y0 = -2 ∨ lit s y0) → 0 ≤ x6 → J ω m_Ch_follows (d + 1) 0 0 0 0 105 [(0, .ref 75), (1, .ref 72), (4, .ref 86), (6, .int (zI x6))] [.int (zI y0)] τ (q_ki (fun v τ => J ω m_Ch_check (d + 1 + 1) 0 0 0 0 11 [(0, .ref 75), (2, .ref 85), (3, .int (zI (n : Int)))] [.int (zI v)] τ (q_kv K))) := by
        intro y0 hy hx
        refine b_Ch_follows_105 (fr_E f hE) ⟨?_, fun c1 => ⟨fun c2 => ?_, fun _ => fin 0 τ (Or.inl rfl) f⟩, fun _ => fin 1 τ (Or.inr rfl) f⟩
        · rcases hy with e | e | e
          · rw [e]; exact ⟨by decide, by decide⟩
          · rw [e]; exact ⟨by decide, by decide⟩
          · exact lit_R hs e
        · have hy : lit s y0 := by rcases hy with e | e | e; exact absurd e c1; exact absurd e c2; exact e
          exact ⟨⟨hy.1, by have := hy.2; omega⟩, ih (x6 - 1) _ (by omega) (by omega) (by omega) (fr_s f (by simp))⟩
      refine b_Ch_follows_77 (fr_E f hE) ⟨⟨by omega, by omega⟩, fun _ => fin 0 τ (Or.inl rfl) f, fun c => ⟨⟨by omega, by omega⟩, fun c0 => ?_, fun _ => g105 (-2) (Or.inr (Or.inl rfl)) c⟩⟩
      rw [e86 f] at c0 ⊢
      rcases hi x6.toNat (by omega) with e | ⟨cl, hm, e⟩
      · exact absurd e c0
      · rw [e]
        exact k_remainder (fr_E f hE) hs (CXf f) hm (fun v hv => g105 v hv c)
  have g13 : ∀ (k i : Nat) (τ : q_H), n ≤ i + k → i ≤ n → fr [75, 76, 77] σ τ → J ω m_Ch_follows (d + 1) 0 0 0 0 13 [(0, .ref 75), (1, .ref 72), (2, .ref 85), (3, .int (zI (n : Int))), (4, .ref 86), (5, .int (zI (h : Int))), (6, .int (zI (i : Int)))] [] τ (q_ki (fun v τ => J ω m_Ch_check (d + 1 + 1) 0 0 0 0 11 [(0, .ref 75), (2, .ref 85), (3, .int (zI (n : Int)))] [.int (zI v)] τ (q_kv K))) := by
    intro k
    induction k with
    | zero =>
      intro i τ hk hi2 f
      exact b_Ch_follows_13 (fr_E f hE) ⟨⟨by omega, by omega⟩, ⟨by omega, by omega⟩, fun _ => g77 10240 _ τ (by omega) (by omega) (by omega) f, fun c => absurd c (by omega)⟩
    | succ k ih =>
      intro i τ hk hi2 f
      refine b_Ch_follows_13 (fr_E f hE) ⟨⟨by omega, by omega⟩, ⟨by omega, by omega⟩, fun _ => g77 10240 _ τ (by omega) (by omega) (by omega) f, fun c => ?_⟩
      rw [e85 f, Int.toNat_natCast]
      have lv := hl i (by omega)
      have lx := (lit_x hs lv).1
      exact ⟨⟨by omega, by omega⟩, ⟨lv.1, by have := lv.2; omega⟩, fun _ => fin 1 τ (Or.inr rfl) f, fun _ => ⟨fun _ => ⟨⟨lx.1, by have := lx.2; omega⟩, ih (i + 1) _ (by omega) (by omega) (fr_s f (by simp))⟩, fun _ => fin 1 τ (Or.inr rfl) f⟩⟩
  exact b_Ch_check_0 hE (b_Ch_follows_0 hE (g13 n 0 _ (by omega) (by omega) (fr_s fr_refl (by simp))))
end CmJ
