/-! Clauses: one more, none is lost -/
section CaJ
variable {ω : q_W} {d s top : Nat} {cs : List Nat} {Ws : Nat → List Nat} {σ : q_H}
theorem c_add2 {K : Int → q_H → Prop} {l nl k : Nat} (hd : 1 ≤ d) (hE : q_E σ) (tl : q_t σ l = (2, nl)) (ol : 0 < l ∧ l ≤ q_n σ) (hnl : nl < 2147483648) (hl : l ≠ 71 ∧ l ≠ 72 ∧ l ≠ 73) (hs : s ≤ 10240) (hc : CX s top cs Ws σ) (hk : k ≤ nl) (hr : top + 3 + k ≤ 360000) (hlit : ∀ i, i < k → lit s (z σ l i)) (hdi : ∀ i j, i < j → j < k → z σ l i ≠ z σ l j)
    (kk : ∀ τ Ws', fr [71, 72, 73] σ τ → CX s (top + 3 + k) (top :: cs) Ws' τ → (∀ j, j < top → z τ 72 j = z σ 72 j) → z τ 72 top = (k : Int) → (∀ i, i < k → z τ 72 (top + 3 + i) = z σ l i) → z τ 71 4 = z σ 71 4 → K (top : Int) τ) : J ω m_Cl_add d 0 0 0 0 0 [(0, .ref 71), (1, .ref l), (2, .int (zI (k : Int)))] [] σ (q_ki K) := by
  obtain ⟨d, rfl⟩ : ∃ k, d = k + 1 := ⟨d - 1, by omega⟩
  obtain ⟨ht, ht1, hcl, hwl⟩ := id hc
  refine b_Cl_add_0 tl ol hnl hE ?_
  rw [ht, Int.toNat_natCast, Int.toNat_natCast, show ((top : Int) + 3).toNat = top + 3 by omega]
  have F : fr [72] σ (zcp (zs σ 72 top (k : Int)) l 0 72 (top + 3) k) := fr_c (fr_s fr_refl (by simp)) (by simp)
  have q0 : ∀ j, j < top → z (zcp (zs σ 72 top (k : Int)) l 0 72 (top + 3) k) 72 j = z σ 72 j := fun j hj => by rw [z_cp_out (by omega), z_k (by omega)]
  have q1 : z (zcp (zs σ 72 top (k : Int)) l 0 72 (top + 3) k) 72 top = (k : Int) := by rw [z_cp_out (by omega), z_s ⟨by omega, by omega⟩]
  have q2 : ∀ i, i < k → z (zcp (zs σ 72 top (k : Int)) l 0 72 (top + 3) k) 72 (top + 3 + i) = z σ l i := fun i hi => by
    rw [z_cp_in (by omega), show 0 + (top + 3 + i - (top + 3)) = i by omega, z_o (by omega)]
  generalize zcp (zs σ 72 top (k : Int)) l 0 72 (top + 3) k = ρ at F q0 q1 q2 ⊢
  have r3 : z ρ 71 3 = (top : Int) := by rw [fr_zF F (by decide)]; exact ht
  have r4 : z ρ 71 4 = z σ 71 4 := by rw [fr_zF F (by decide)]
  have e73 : z ρ 73 = z σ 73 := fr_zF F (by decide)
  have cl : ∀ τ : q_H, (∀ j, j < top → z τ 72 j = z σ 72 j) → z τ 72 top = (k : Int) → (∀ i, i < k → z τ 72 (top + 3 + i) = z σ l i) → CLp (z τ 72) (top + 3 + k) s (top :: cs) := fun τ a b c =>
    CL_new hcl ht1.1 a b (fun i hi => by rw [c i hi]; exact hlit i hi) (fun i j h1 h2 => by rw [c i (by omega), c j h2]; exact hdi i j h1 h2)
  have fin : ∀ (τ : q_H) (Ws' : Nat → List Nat), fr [71, 72, 73] σ τ → z τ 71 3 = (top : Int) → z τ 71 4 = z σ 71 4 → (∀ j, j < top → z τ 72 j = z σ 72 j) → z τ 72 top = (k : Int) → (∀ i, i < k → z τ 72 (top + 3 + i) = z σ l i) → WLp (z τ 72) (z τ 73) s (top :: cs) Ws' → J ω m_Cl_add (d + 1) 0 0 0 0 60 [(0, .ref 71), (2, .int (zI (k : Int))), (3, .int (zI (top : Int)))] [] τ (q_ki K) := by
    intro τ Ws' f t3 t4 a b c w
    refine b_Cl_add_60 (l := l) (nl := nl) (by rw [fr_tg f]; exact tl) (by rw [fr_n f]; exact ol) hnl (fr_E f hE) ⟨_, ⟨by omega, by omega⟩, rfl, ?_⟩
    rw [t3]
    have u72 : z (zs τ 71 3 ((top : Int) + ((k : Int) + 3))) 72 = z τ 72 := z_oF (by decide)
    have u73 : z (zs τ 71 3 ((top : Int) + ((k : Int) + 3))) 73 = z τ 73 := z_oF (by decide)
    refine kk _ Ws' (fr_s f (by simp)) ⟨?_, by omega, by rw [u72]; exact cl τ a b c, by rw [u72, u73]; exact w⟩ (by rw [u72]; exact a) (by rw [u72]; exact b) (by rw [u72]; exact c) (by rw [z_k (by decide)]; exact t4)
    rw [z_s ⟨by omega, by omega⟩]; omega
  refine ⟨⟨by omega, by omega⟩, fun _ => ⟨⟨by omega, by omega⟩, ⟨by omega, by omega, by omega, by omega, by omega⟩, ⟨by omega, by omega⟩, fun c => ?_, fun c => ?_⟩, fun c => absurd c (by omega)⟩
  · refine fin ρ Ws (fr_mono F (by simp)) r3 r4 q0 q1 q2 ?_
    rw [e73]
    exact WL_small hwl hcl q0 (by rw [q1]; omega)
  · have a3 : z ρ 72 (top + 3) = z σ l 0 := q2 0 (by omega)
    have a4 : z ρ 72 (top + 4) = z σ l 1 := q2 1 (by omega)
    refine c_watch (s := s) (fr_E F hE) hs ⟨ht1.1, by omega⟩ (by rw [a3]; exact hlit 0 (by omega)) (by rw [a4]; exact hlit 1 (by omega)) (by rw [a3, a4]; exact hdi 0 1 (by omega) (by omega)) (fun τ g p72 p73 => ?_)
    have hM : ∀ j, j < top → z τ 72 j = z σ 72 j := fun j hj => by rw [p72, up_n (by omega), up_n (by omega)]; exact q0 j hj
    have b0 : z τ 72 top = (k : Int) := by rw [p72, up_n (by omega), up_n (by omega)]; exact q1
    have b2 : ∀ i, i < k → z τ 72 (top + 3 + i) = z σ l i := fun i hi => by rw [p72, up_n (by omega), up_n (by omega)]; exact q2 i hi
    have b3 : z τ 72 (top + 3) = z ρ 72 (top + 3) := by rw [p72, up_n (by omega), up_n (by omega)]
    have b4 : z τ 72 (top + 4) = z ρ 72 (top + 4) := by rw [p72, up_n (by omega), up_n (by omega)]
    refine fin τ (fun m => if (m : Int) = z τ 72 (top + 3) ∨ (m : Int) = z τ 72 (top + 4) then top :: Ws m else Ws m) (fr_trans (fr_mono F (by simp)) (fr_mono g (by simp))) (by rw [fr_zF g (by decide)]; exact r3) (by rw [fr_zF g (by decide)]; exact r4) hM b0 b2 ?_
    have := WL_new (M := z σ 72) (M' := z τ 72) hwl hcl hM (by rw [b0]; omega) (by rw [b3, a3]; exact hlit 0 (by omega)) (by rw [b4, a4]; exact hlit 1 (by omega)) (by rw [b3, b4, a3, a4]; exact hdi 0 1 (by omega) (by omega)) (by rw [b3, p72, up_n (by omega), up_s, e73]) (by rw [b4, p72, up_s, e73])
    rw [p73, e73]
    rw [b3, b4] at this ⊢
    exact this
end CaJ
