/-! WORDS: bits, comparisons, sums -/
theorem fa_plus (X A Bv M : Nat) (x y c : Bool) (e : X + M * c.toNat = A + Bv) : X + M * (xor (xor x y) c).toNat + M * 2 * (if xor x y then c else x).toNat = A + M * x.toNat + (Bv + M * y.toNat) := by
  cases x <;> cases y <;> cases c <;> simp [Bool.toNat] at e ⊢ <;> omega
theorem fa_minus (X A Bv M : Nat) (x y c : Bool) (e : X + M * c.toNat + Bv = A + M) : X + M * (xor (xor x (!y)) c).toNat + M * 2 * (if xor x (!y) then c else x).toNat + (Bv + M * y.toNat) = A + M * x.toNat + M * 2 := by
  cases x <;> cases y <;> cases c <;> simp [Bool.toNat] at e ⊢ <;> omega
def bop (u : Int) (p q : Bool) : Bool := if u = 4 then xor p q else if u = 5 then p && q else p || q
section W4J
variable {ω : q_W} {d s n s0 : Nat} {σ σ0 : q_H} {B a : Nat} {π : q_H} {sπ : Nat}
theorem k_bitwise {K : q_H → Prop} {x1 : Int} {b wa wb : Nat} (hd : 3 ≤ d) (hn : n ≤ 3200) (hab : a + 8 ≤ b) (hb8 : b + 8 ≤ n) (i1 : 3 ≤ x1 ∧ x1 ≤ 5) (h : PO n σ0 s0 B a π sπ σ s) (w8 : wa ≤ 8 ∧ wb ≤ 8) (h1 : wdt (fun j => z σ 58 (a + j)) wa) (h2 : wdt (fun j => z σ 58 (b + j)) wb) (hB : s + max wa wb < 10240)
    (kk : ∀ τ s', PO n σ0 s0 (B + max wa wb) a π sπ τ s' → s ≤ s' → s' ≤ s + max wa wb → RO a σ τ → wdt (fun j => z τ 58 (a + j)) (max wa wb) → (∀ v, CSv s' τ v → CSv s σ v ∧ nV v (fun j => z τ 58 (a + j)) 8 = op2 x1 (max wa wb) (nV v (fun j => z σ 58 (a + j)) 8) (nV v (fun j => z σ 58 (b + j)) 8)) → K τ) : J ω m_Wo_bitwise d 0 0 0 0 0 [(0, .ref 49), (1, .int (zI x1)), (2, .int (zI (a : Int))), (3, .int (zI (b : Int)))] [] σ (q_kv K) := by
  obtain ⟨d, rfl⟩ : ∃ k, d = k + 1 := ⟨d - 1, by omega⟩
  have fin : ∀ (i : Nat) (ρ : q_H) (t : Nat), i = 8 → PO n σ0 s0 (min i (max wa wb)) a σ s ρ t → (∀ j, j < i → (∀ v, CSv t ρ v → lvb v (z ρ 58 (a + j)) = bop x1 (lvb v (z σ 58 (a + j))) (lvb v (z σ 58 (b + j)))) ∧ (max wa wb ≤ j → z ρ 58 (a + j) = 1)) → q_kv K (.inl none) ρ := by
    intro i ρ t hi hp hj
    subst hi
    have pl := hp.2.2.1
    have m8 : min 8 (max wa wb) = max wa wb := by omega
    have p1 := PO_tr h hp
    rw [m8] at p1 pl
    refine ⟨rfl, kk ρ t p1 hp.2.1 pl (fun j q => PO_r hp q) (fun j q1 q2 => (hj j q2).2 q1) (fun v hv => ⟨PO_v hp hv, ?_⟩)⟩
    have la := nV_lt (v := v) (f := fun j => z σ 58 (a + j)) 8
    have lb := nV_lt (v := v) (f := fun j => z σ 58 (b + j)) 8
    refine nV_eq ?_ (fun j hj2 => ?_)
    · rcases (show x1 = 3 ∨ x1 = 4 ∨ x1 = 5 by omega) with q | q | q <;> subst q
      · exact Nat.or_lt_two_pow la lb
      · exact Nat.xor_lt_two_pow la lb
      · exact Nat.lt_of_le_of_lt Nat.and_le_left la
    · rw [(hj j hj2).1 v hv]
      have ta := nV_tb (v := v) (f := fun j => z σ 58 (a + j)) 8 j hj2
      have tb := nV_tb (v := v) (f := fun j => z σ 58 (b + j)) 8 j hj2
      rcases (show x1 = 3 ∨ x1 = 4 ∨ x1 = 5 by omega) with q | q | q <;> subst q
      · show (lvb v (z σ 58 (a + j)) || lvb v (z σ 58 (b + j))) = (nV v (fun j => z σ 58 (a + j)) 8 ||| nV v (fun j => z σ 58 (b + j)) 8).testBit j
        rw [Nat.testBit_or, ta, tb]
      · show xor (lvb v (z σ 58 (a + j))) (lvb v (z σ 58 (b + j))) = (nV v (fun j => z σ 58 (a + j)) 8 ^^^ nV v (fun j => z σ 58 (b + j)) 8).testBit j
        rw [Nat.testBit_xor, ta, tb]
      · show (lvb v (z σ 58 (a + j)) && lvb v (z σ 58 (b + j))) = (nV v (fun j => z σ 58 (a + j)) 8 &&& nV v (fun j => z σ 58 (b + j)) 8).testBit j
        rw [Nat.testBit_and, ta, tb]
  have l : ∀ (k i : Nat) (ρ : q_H) (t : Nat), 8 ≤ i + k → i ≤ 8 → PO n σ0 s0 (min i (max wa wb)) a σ s ρ t → (∀ j, i ≤ j → j < 8 → z ρ 58 (a + j) = z σ 58 (a + j)) → (∀ j, j < i → (∀ v, CSv t ρ v → lvb v (z ρ 58 (a + j)) = bop x1 (lvb v (z σ 58 (a + j))) (lvb v (z σ 58 (b + j)))) ∧ (max wa wb ≤ j → z ρ 58 (a + j) = 1)) → J ω m_Wo_bitwise (d + 1) 0 0 0 0 3 [(0, .ref 49), (1, .int (zI x1)), (2, .int (zI (a : Int))), (3, .int (zI (b : Int))), (4, .int (zI (i : Int)))] [] ρ (q_kv K) := by
    intro k
    induction k with
    | zero =>
      intro i ρ t hi h8 hp hu hj
      exact b_Wo_bitwise_3 (PO_E hp) ⟨⟨by omega, by omega⟩, fun _ => fin i ρ t (by omega) hp hj, fun c => absurd c (by omega)⟩
    | succ k ih =>
      intro i ρ t hi h8 hp hu hj
      refine b_Wo_bitwise_3 (PO_E hp) ⟨⟨by omega, by omega⟩, fun q => fin i ρ t (by omega) hp hj, fun c8 => ⟨⟨by omega, by omega⟩, ⟨by omega, by omega⟩, ⟨by omega, by omega⟩, ?_⟩⟩
      have i8 : i < 8 := by omega
      have pl := hp.2.2.1
      have ea : z ρ 58 (a + i) = z σ 58 (a + i) := hu i (Nat.le_refl _) i8
      have eb : z ρ 58 (b + i) = z σ 58 (b + i) := PO_r hp (by omega)
      rw [show ((a : Int) + (i : Int)).toNat = a + i by omega, show ((b : Int) + (i : Int)).toNat = b + i by omega, ea, eb]
      have la : lit t (z σ 58 (a + i)) := by rw [← ea]; exact PO_ll hp (by omega)
      have lb : lit t (z σ 58 (b + i)) := by rw [← eb]; exact PO_ll hp (by omega)
      have cst : max wa wb ≤ i → z σ 58 (a + i) = 1 ∧ z σ 58 (b + i) = 1 := fun q => ⟨h1 i (by omega) i8, h2 i (by omega) i8⟩
      have nx : ∀ (r : Int) (τ : q_H) (s' : Nat), CX2 t s' ρ τ → s' ≤ t + 1 → lit s' r → (∀ v, CSv s' τ v → lvb v r = bop x1 (lvb v (z σ 58 (a + i))) (lvb v (z σ 58 (b + i)))) → (max wa wb ≤ i → r = 1 ∧ s' = t) → J ω m_Wo_bitwise (d + 1) 0 0 0 0 3 [(0, .ref 49), (1, .int (zI x1)), (2, .int (zI (a : Int))), (3, .int (zI (b : Int))), (4, .int (zI ((i : Int) + 1)))] [] (zs τ 58 ((a : Int) + (i : Int)).toNat r) (q_kv K) := by
        intro r τ s' ht hbb hr hv tr
        rw [show ((a : Int) + (i : Int)).toNat = a + i by omega]
        refine ih (i + 1) _ s' (by omega) (by omega) (PO_w hp ht hbb (fun q => (tr q).2) i8 hr) (fun j q1 q2 => ?_) (fun j hj2 => ?_)
        · rw [z_k (by omega), fr_z ht.1.1 (by decide)]; exact hu j (by omega) q2
        · by_cases cj : j = i
          · rw [cj, z_s (lit_R ht.1.2.1.2.1.2 hr)]
            exact ⟨fun v hv2 => hv v (CSv_o (Or.inl rfl) hv2), fun q => (tr q).1⟩
          · rw [z_k (by omega), fr_z ht.1.1 (by decide)]
            have := hj j (by omega)
            exact ⟨fun v hv2 => this.1 v (CSv_2 (CSv_o (Or.inl rfl) hv2) ht), this.2⟩
      refine ⟨fun c4 => ⟨fun c5 => ?_, fun c5 => ?_⟩, fun c4 => ?_⟩
      · refine k_or (by omega) (PO_E hp) (PO_C hp) (PO_H hp) (by omega) la lb (fun r τ s' ht hbb hr hv t1 t2 => b_Wo_bitwise_89 (fr_E ht.1.1 (PO_E hp)) ⟨⟨by omega, by omega⟩, nx r τ s' ht hbb hr (fun v hv2 => by rw [hv v hv2]; unfold bop; rw [if_neg c4, if_neg c5]) (fun q => ?_)⟩)
        obtain ⟨q1, q2⟩ := cst q
        have := t1 q1
        rw [q2] at this; exact this
      · refine k_and (by omega) (PO_E hp) (PO_C hp) (PO_H hp) (by omega) la lb (fun r τ s' ht hbb hr hRA hf => b_Wo_bitwise_75 (fr_E ht.1.1 (PO_E hp)) ⟨⟨by omega, by omega⟩, nx r τ s' ht hbb hr (fun v hv2 => by rw [RA_v hRA ht.1.2.1.2.1.2 (lit_m la ht.1.2.2.1) (lit_m lb ht.1.2.2.1) hv2]; unfold bop; rw [if_neg c4, if_pos c5]) (fun q => ?_)⟩)
        obtain ⟨q1, q2⟩ := cst q
        have tt : tA (z σ 58 (a + i)) (z σ 58 (b + i)) = some 1 := by rw [q1, q2]; decide
        refine ⟨?_, (hf ⟨1, Or.inl tt⟩).1⟩
        rcases hRA with w | ⟨w, -⟩
        · rw [tt] at w; exact (Option.some.inj w).symm
        · rw [tt] at w; cases w
      · refine k_xor (by omega) (PO_E hp) (PO_C hp) (PO_H hp) (by omega) la lb (fun r τ s' ht hbb hr hv t1 t2 => b_Wo_bitwise_56 (fr_E ht.1.1 (PO_E hp)) ⟨⟨by omega, by omega⟩, nx r τ s' ht hbb hr (fun v hv2 => by rw [hv v hv2]; unfold bop; rw [if_pos c4]) (fun q => ?_)⟩)
        obtain ⟨q1, q2⟩ := cst q
        exact ⟨t2 q1 q2, t1 (by omega)⟩
  exact b_Wo_bitwise_0 (PO_E h) (l 8 0 σ s (by decide) (by decide) (PO_refl h.1) (fun _ _ _ => rfl) (fun j hj => absurd hj (by omega)))
theorem k_same {K : Int → q_H → Prop} {x y w : Nat} (hd : 2 ≤ d) (hn : n ≤ 3200) (hx : x + 8 ≤ n) (hy : y + 8 ≤ n) (h : PO n σ0 s0 B a π sπ σ s) (w8 : w ≤ 8) (h1 : wdt (fun j => z σ 58 (x + j)) w) (h2 : wdt (fun j => z σ 58 (y + j)) w) (hB : s + 2 * w < 10240)
    (kk : ∀ r τ s', PO n σ0 s0 (B + 2 * w) a π sπ τ s' → CX2 s s' σ τ → s' ≤ s + 2 * w → lit s' r → (∀ v, CSv s' τ v → lvb v r = decide (nV v (fun j => z σ 58 (x + j)) 8 = nV v (fun j => z σ 58 (y + j)) 8)) → K r τ) : J ω m_Wo_same d 0 0 0 0 0 [(0, .ref 49), (1, .int (zI (x : Int))), (2, .int (zI (y : Int)))] [] σ (q_ki K) := by
  obtain ⟨d, rfl⟩ : ∃ k, d = k + 1 := ⟨d - 1, by omega⟩
  have fin : ∀ (i : Nat) (x3 : Int) (ρ : q_H) (t : Nat), i = 8 → CX2 s t σ ρ → t ≤ s + 2 * min i w → lit t x3 → (∀ v, CSv t ρ v → lvb v x3 = decide (nV v (fun j => z σ 58 (x + j)) i = nV v (fun j => z σ 58 (y + j)) i)) → q_ki K (.inl (some (.int (zI x3)))) ρ := by
    intro i x3 ρ t hi hc hb hl hv
    subst hi
    have m8 : min 8 w = w := by omega
    rw [m8] at hb
    exact ⟨x3, lit_R hc.1.2.1.2.1.2 hl, rfl, kk x3 ρ t (PO_CX h hc (by have := h.2.2.1; omega)) hc hb hl hv⟩
  have l : ∀ (k i : Nat) (x3 : Int) (ρ : q_H) (t : Nat), 8 ≤ i + k → i ≤ 8 → CX2 s t σ ρ → t ≤ s + 2 * min i w → lit t x3 → (∀ v, CSv t ρ v → lvb v x3 = decide (nV v (fun j => z σ 58 (x + j)) i = nV v (fun j => z σ 58 (y + j)) i)) → J ω m_Wo_same (d + 1) 0 0 0 0 5 [(0, .ref 49), (1, .int (zI (x : Int))), (2, .int (zI (y : Int))), (3, .int (zI x3)), (4, .int (zI (i : Int)))] [] ρ (q_ki K) := by
    intro k
    induction k with
    | zero =>
      intro i x3 ρ t hi h8 hc hb hl hv
      exact b_Wo_same_5 (fr_E hc.1.1 (PO_E h)) ⟨⟨by omega, by omega⟩, fun _ => fin i x3 ρ t (by omega) hc hb hl hv, fun c => absurd c (by omega)⟩
    | succ k ih =>
      intro i x3 ρ t hi h8 hc hb hl hv
      have E := fr_E hc.1.1 (PO_E h)
      refine b_Wo_same_5 E ⟨⟨by omega, by omega⟩, fun q => fin i x3 ρ t (by omega) hc hb hl hv, fun c8 => ⟨⟨by omega, by omega⟩, ⟨by omega, by omega⟩, ?_⟩⟩
      have i8 : i < 8 := by omega
      have e58 : z ρ 58 = z σ 58 := fr_zF hc.1.1 (by decide)
      rw [show ((x : Int) + (i : Int)).toNat = x + i by omega, show ((y : Int) + (i : Int)).toNat = y + i by omega, e58]
      have la : lit t (z σ 58 (x + i)) := lit_m (PO_ll h (by omega)) hc.1.2.2.1
      have lb : lit t (z σ 58 (y + i)) := lit_m (PO_ll h (by omega)) hc.1.2.2.1
      refine k_xor (by omega) E hc.1.2.1 hc.2.1 (by omega) la lb (fun r τ s' ht hbb hr hvx t1 t2 => b_Wo_same_42 (fr_E ht.1.1 E) ?_)
      have E2 := fr_E ht.1.1 E
      have s10 := ht.1.2.1.2.1
      have s'b : s' + 1 < 10240 ∨ w ≤ i := by
        by_cases c : w ≤ i
        · exact Or.inr c
        · left; have : min i w = i := by omega
          omega
      have tr1 : w ≤ i → r = 1 ∧ s' = t := fun q => ⟨t2 (h1 i q i8) (h2 i q i8), t1 (by have q1 : z σ 58 (x + i) = 1 := h1 i q i8; omega)⟩
      refine k_and (by omega) E2 ht.1.2.1 ht.2.1 (by rcases s'b with q | q; omega; rw [(tr1 q).2]; omega) (lit_m hl ht.1.2.2.1) (lit_x s10.2 hr).1 (fun r2 τ2 s2 ht2 hb2 hr2 hRA hf => b_Wo_same_47 (fr_E ht2.1.1 E2) ?_)
      have tr2 : w ≤ i → s2 = s' := fun q => by
        refine (hf ⟨x3, Or.inl ?_⟩).1
        rw [(tr1 q).1, show zXor (1 : Int) 1 = 0 by decide]; exact tA_0r x3 hl.1
      refine ih (i + 1) r2 τ2 s2 (by omega) (by omega) (CX2_trans (CX2_trans hc ht) ht2) ?_ hr2 (fun v hvv => ?_)
      · by_cases c : w ≤ i
        · rw [tr2 c, (tr1 c).2]; omega
        · omega
      · have c1 := CSv_2 hvv ht2
        rw [RA_v hRA ht2.1.2.1.2.1.2 (lit_m (lit_m hl ht.1.2.2.1) ht2.1.2.2.1) (lit_m (lit_x s10.2 hr).1 ht2.1.2.2.1) hvv, hv v (CSv_2 c1 ht), lvb_x hr.1 (by have := hr.2; omega), hvx v c1]
        have e := nV_e (v := v) (f := fun j => z σ 58 (x + j)) (g := fun j => z σ 58 (y + j)) i
        by_cases p : nV v (fun j => z σ 58 (x + j)) i = nV v (fun j => z σ 58 (y + j)) i
        · rw [decide_eq_true p]
          by_cases q : lvb v (z σ 58 (x + i)) = lvb v (z σ 58 (y + i))
          · rw [decide_eq_true (e.mpr ⟨p, q⟩), q]; simp
          · rw [decide_eq_false (fun w => q (e.mp w).2)]
            revert q
            cases lvb v (z σ 58 (x + i)) <;> cases lvb v (z σ 58 (y + i)) <;> simp
        · rw [decide_eq_false p, decide_eq_false (fun w => p (e.mp w).1)]; rfl
  exact b_Wo_same_0 (PO_E h) (l 8 0 0 σ s (by decide) (by decide) (CX2_refl (PO_C h) (PO_H h)) (by omega) (PO_l0 h) (fun v hv => by rw [lvb_0 hv.1]; rfl))
theorem k_below {K : Int → q_H → Prop} {x y w : Nat} (hd : 3 ≤ d) (hn : n ≤ 3200) (hx : x + 8 ≤ n) (hy : y + 8 ≤ n) (h : PO n σ0 s0 B a π sπ σ s) (w8 : w ≤ 8) (h1 : wdt (fun j => z σ 58 (x + j)) w) (h2 : wdt (fun j => z σ 58 (y + j)) w) (hB : s + 2 * w < 10240)
    (kk : ∀ r τ s', PO n σ0 s0 (B + 2 * w) a π sπ τ s' → CX2 s s' σ τ → s' ≤ s + 2 * w → lit s' r → (∀ v, CSv s' τ v → lvb v r = decide (nV v (fun j => z σ 58 (x + j)) 8 < nV v (fun j => z σ 58 (y + j)) 8)) → K r τ) : J ω m_Wo_below d 0 0 0 0 0 [(0, .ref 49), (1, .int (zI (x : Int))), (2, .int (zI (y : Int)))] [] σ (q_ki K) := by
  obtain ⟨d, rfl⟩ : ∃ k, d = k + 1 := ⟨d - 1, by omega⟩
  have fin : ∀ (i : Nat) (x3 : Int) (ρ : q_H) (t : Nat), i = 8 → CX2 s t σ ρ → t ≤ s + 2 * min i w → lit t x3 → (∀ v, CSv t ρ v → lvb v x3 = decide (nV v (fun j => z σ 58 (x + j)) i < nV v (fun j => z σ 58 (y + j)) i)) → q_ki K (.inl (some (.int (zI x3)))) ρ := by
    intro i x3 ρ t hi hc hb hl hv
    subst hi
    have m8 : min 8 w = w := by omega
    rw [m8] at hb
    exact ⟨x3, lit_R hc.1.2.1.2.1.2 hl, rfl, kk x3 ρ t (PO_CX h hc (by have := h.2.2.1; omega)) hc hb hl hv⟩
  have l : ∀ (k i : Nat) (x3 : Int) (ρ : q_H) (t : Nat), 8 ≤ i + k → i ≤ 8 → CX2 s t σ ρ → t ≤ s + 2 * min i w → lit t x3 → (∀ v, CSv t ρ v → lvb v x3 = decide (nV v (fun j => z σ 58 (x + j)) i < nV v (fun j => z σ 58 (y + j)) i)) → J ω m_Wo_below (d + 1) 0 0 0 0 5 [(0, .ref 49), (1, .int (zI (x : Int))), (2, .int (zI (y : Int))), (3, .int (zI x3)), (4, .int (zI (i : Int)))] [] ρ (q_ki K) := by
    intro k
    induction k with
    | zero =>
      intro i x3 ρ t hi h8 hc hb hl hv
      exact b_Wo_below_5 (fr_E hc.1.1 (PO_E h)) ⟨⟨by omega, by omega⟩, fun _ => fin i x3 ρ t (by omega) hc hb hl hv, fun c => absurd c (by omega)⟩
    | succ k ih =>
      intro i x3 ρ t hi h8 hc hb hl hv
      have E := fr_E hc.1.1 (PO_E h)
      refine b_Wo_below_5 E ⟨⟨by omega, by omega⟩, fun q => fin i x3 ρ t (by omega) hc hb hl hv, fun c8 => ⟨⟨by omega, by omega⟩, ⟨by omega, by omega⟩, ?_⟩⟩
      have i8 : i < 8 := by omega
      have e58 : z ρ 58 = z σ 58 := fr_zF hc.1.1 (by decide)
      rw [show ((x : Int) + (i : Int)).toNat = x + i by omega, show ((y : Int) + (i : Int)).toNat = y + i by omega, e58]
      have la : lit t (z σ 58 (x + i)) := lit_m (PO_ll h (by omega)) hc.1.2.2.1
      have lb : lit t (z σ 58 (y + i)) := lit_m (PO_ll h (by omega)) hc.1.2.2.1
      refine k_xor (by omega) E hc.1.2.1 hc.2.1 (by omega) la lb (fun r τ s' ht hbb hr hvx t1 t2 => b_Wo_below_45 (fr_E ht.1.1 E) ?_)
      have E2 := fr_E ht.1.1 E
      have s10 := ht.1.2.1.2.1
      have s'b : s' + 1 < 10240 ∨ w ≤ i := by
        by_cases c : w ≤ i
        · exact Or.inr c
        · left; have : min i w = i := by omega
          omega
      have tr1 : w ≤ i → r = 1 ∧ s' = t := fun q => ⟨t2 (h1 i q i8) (h2 i q i8), t1 (by have q1 : z σ 58 (x + i) = 1 := h1 i q i8; omega)⟩
      refine k_pick (by omega) E2 ht.1.2.1 ht.2.1 (by rcases s'b with q | q; omega; rw [(tr1 q).2]; omega) hr (lit_m lb ht.1.2.2.1) (lit_m hl ht.1.2.2.1) (fun r2 τ2 s2 ht2 hb2 hr2 hvp p0 p1 p2 => b_Wo_below_51 (fr_E ht2.1.1 E2) ?_)
      have tr2 : w ≤ i → s2 = s' := fun q => (p1 (tr1 q).1).2
      refine ih (i + 1) r2 τ2 s2 (by omega) (by omega) (CX2_trans (CX2_trans hc ht) ht2) ?_ hr2 (fun v hvv => ?_)
      · by_cases c : w ≤ i
        · rw [tr2 c, (tr1 c).2]; omega
        · omega
      · have c1 := CSv_2 hvv ht2
        rw [hvp v hvv, hv v (CSv_2 c1 ht), hvx v c1, nV_l]
  exact b_Wo_below_0 (PO_E h) (l 8 0 1 σ s (by decide) (by decide) (CX2_refl (PO_C h) (PO_H h)) (by omega) (PO_l1 h) (fun v hv => by rw [lvb_1 hv.1]; rfl))
theorem k_sum {K : q_H → Prop} {x4 : Int} {b w wa wb : Nat} (hd : 3 ≤ d) (hn : n ≤ 3200) (hab : a + 8 ≤ b) (hb8 : b + 8 ≤ n) (h4 : x4 = 0 ∨ x4 = 1) (h : PO n σ0 s0 B a π sπ σ s) (w8 : w ≤ 8) (hwa : wa ≤ w ∧ wb ≤ w) (h1 : wdt (fun j => z σ 58 (a + j)) wa) (h2 : wdt (fun j => z σ 58 (b + j)) wb) (hB : s + 3 * w < 10240)
    (kk : ∀ τ s', PO n σ0 s0 (B + 3 * w) a π sπ τ s' → s ≤ s' → s' ≤ s + 3 * w → RO a σ τ → wdt (fun j => z τ 58 (a + j)) w → (∀ v, CSv s' τ v → CSv s σ v ∧ nV v (fun j => z τ 58 (a + j)) 8 = op2 (if x4 = 1 then 14 else 15) w (nV v (fun j => z σ 58 (a + j)) 8) (nV v (fun j => z σ 58 (b + j)) 8)) → K τ) : J ω m_Wo_sum d 0 0 0 0 0 [(0, .ref 49), (1, .int (zI (a : Int))), (2, .int (zI (b : Int))), (3, .int (zI (w : Int))), (4, .int (zI x4))] [] σ (q_kv K) := by
  obtain ⟨d, rfl⟩ : ∃ k, d = k + 1 := ⟨d - 1, by omega⟩
  have h1' : wdt (fun j => z σ 58 (a + j)) w := fun j q1 q2 => h1 j (by omega) q2
  have h2' : wdt (fun j => z σ 58 (b + j)) w := fun j q1 q2 => h2 j (by omega) q2
  have fin : ∀ (x5 : Int) (i : Nat) (x6 : Int) (ρ : q_H) (t : Nat), i = w → (x5 = 0 ∧ x4 = 1 ∨ x5 = 1 ∧ x4 = 0) → PO n σ0 s0 (3 * i) a σ s ρ t → (∀ j, i ≤ j → j < 8 → z ρ 58 (a + j) = z σ 58 (a + j)) → (∀ v, CSv t ρ v → (x5 = 0 → nV v (fun j => z ρ 58 (a + j)) i + 2 ^ i * (lvb v x6).toNat = nV v (fun j => z σ 58 (a + j)) i + nV v (fun j => z σ 58 (b + j)) i) ∧ (x5 = 1 → nV v (fun j => z ρ 58 (a + j)) i + 2 ^ i * (lvb v x6).toNat + nV v (fun j => z σ 58 (b + j)) i = nV v (fun j => z σ 58 (a + j)) i + 2 ^ i)) → q_kv K (.inl none) ρ := by
    intro x5 i x6 ρ t hi h5 hp hu hv
    subst hi
    have wd : wdt (fun j => z ρ 58 (a + j)) i := fun j q1 q2 => by
      show z ρ 58 (a + j) = 1
      rw [hu j q1 q2]; exact h1' j q1 q2
    refine ⟨rfl, kk ρ t (PO_tr h hp) hp.2.1 hp.2.2.1 (fun j q => PO_r hp q) wd (fun v hvv => ⟨PO_v hp hvv, ?_⟩)⟩
    have e := hv v hvv
    have b1 := nV_lt (v := v) (f := fun j => z ρ 58 (a + j)) i
    have b2 := nV_lt (v := v) (f := fun j => z σ 58 (b + j)) i
    rw [nV_w hvv.1 wd 8 w8 (Nat.le_refl _), nV_w hvv.1 h1' 8 w8 (Nat.le_refl _), nV_w hvv.1 h2' 8 w8 (Nat.le_refl _)]
    generalize nV v (fun j => z ρ 58 (a + j)) i = X at *
    generalize nV v (fun j => z σ 58 (a + j)) i = A at *
    generalize nV v (fun j => z σ 58 (b + j)) i = Y at *
    rcases h5 with ⟨q1, q2⟩ | ⟨q1, q2⟩
    · rw [if_pos q2]
      show X = (A + Y) % 2 ^ i
      rw [← e.1 q1, Nat.add_mul_mod_self_left, Nat.mod_eq_of_lt b1]
    · rw [if_neg (by omega)]
      show X = (A + 2 ^ i - Y) % 2 ^ i
      have := e.2 q1
      rw [show A + 2 ^ i - Y = X + 2 ^ i * (lvb v x6).toNat by omega, Nat.add_mul_mod_self_left, Nat.mod_eq_of_lt b1]
  have l : ∀ (x5 : Int), (x5 = 0 ∧ x4 = 1 ∨ x5 = 1 ∧ x4 = 0) → ∀ (k i : Nat) (x6 : Int) (ρ : q_H) (t : Nat), w ≤ i + k → i ≤ w → PO n σ0 s0 (3 * i) a σ s ρ t → lit t x6 → (∀ j, i ≤ j → j < 8 → z ρ 58 (a + j) = z σ 58 (a + j)) → (∀ v, CSv t ρ v → (x5 = 0 → nV v (fun j => z ρ 58 (a + j)) i + 2 ^ i * (lvb v x6).toNat = nV v (fun j => z σ 58 (a + j)) i + nV v (fun j => z σ 58 (b + j)) i) ∧ (x5 = 1 → nV v (fun j => z ρ 58 (a + j)) i + 2 ^ i * (lvb v x6).toNat + nV v (fun j => z σ 58 (b + j)) i = nV v (fun j => z σ 58 (a + j)) i + 2 ^ i)) → J ω m_Wo_sum (d + 1) 0 0 0 0 19 [(0, .ref 49), (1, .int (zI (a : Int))), (2, .int (zI (b : Int))), (3, .int (zI (w : Int))), (5, .int (zI x5)), (6, .int (zI x6)), (7, .int (zI (i : Int)))] [] ρ (q_kv K) := by
    intro x5 h5 k
    have h5' : x5 = 0 ∨ x5 = 1 := by omega
    induction k with
    | zero =>
      intro i x6 ρ t hi hiw hp hl hu hv
      exact b_Wo_sum_19 (PO_E hp) ⟨⟨by omega, by omega⟩, ⟨by omega, by omega⟩, fun _ => fin x5 i x6 ρ t (by omega) h5 hp hu hv, fun c => absurd c (by omega)⟩
    | succ k ih =>
      intro i x6 ρ t hi hiw hp hl hu hv
      refine b_Wo_sum_19 (PO_E hp) ⟨⟨by omega, by omega⟩, ⟨by omega, by omega⟩, fun q => fin x5 i x6 ρ t (by omega) h5 hp hu hv, fun c8 => ⟨⟨by omega, by omega⟩, ⟨by omega, by omega⟩, ?_⟩⟩
      have i8 : i < w := by omega
      have pl := hp.2.2.1
      have t10 := PO_s hp
      have ea : z ρ 58 (a + i) = z σ 58 (a + i) := hu i (Nat.le_refl _) (by omega)
      have eb : z ρ 58 (b + i) = z σ 58 (b + i) := PO_r hp (by omega)
      rw [show ((a : Int) + (i : Int)).toNat = a + i by omega, show ((b : Int) + (i : Int)).toNat = b + i by omega, ea, eb]
      have la : lit t (z σ 58 (a + i)) := by rw [← ea]; exact PO_ll hp (by omega)
      have lb : lit t (z σ 58 (b + i)) := by rw [← eb]; exact PO_ll hp (by omega)
      have lbx := lit_b t10.2 lb h5'
      have vb : ∀ v : Nat → Bool, lvb v (zXor (z σ 58 (b + i)) x5) = xor (lvb v (z σ 58 (b + i))) (decide (x5 = 1)) := fun v => lvb_b lb.1 (by have := lb.2; omega) h5'
      refine k_xor (by omega) (PO_E hp) (PO_C hp) (PO_H hp) (by omega) la lbx (fun r1 τ1 s1 ht1 hb1 hr1 hv1 _ _ => b_Wo_sum_57 (fr_E ht1.1.1 (PO_E hp)) ?_)
      have E1 := fr_E ht1.1.1 (PO_E hp)
      refine k_xor (by omega) E1 ht1.1.2.1 ht1.2.1 (by omega) hr1 (lit_m hl ht1.1.2.2.1) (fun r2 τ2 s2 ht2 hb2 hr2 hv2 _ _ => b_Wo_sum_78 (fr_E ht2.1.1 E1) ⟨⟨by omega, by omega⟩, ?_⟩)
      rw [show ((a : Int) + (i : Int)).toNat = a + i by omega]
      have p2 : PO n σ0 s0 (3 * i + 2) a σ s (zs τ2 58 (a + i) r2) s2 := PO_58 (PO_CX (PO_CX (B' := 3 * i + 1) hp ht1 (by omega)) ht2 (by omega)) ⟨by omega, by omega⟩ hr2
      have l2 := ht2.1.2.2.1
      have l1 := ht1.1.2.2.1
      refine k_pick (by omega) (PO_E p2) (PO_C p2) (PO_H p2) (by have := p2.2.2.1; omega) (lit_m hr1 l2) (lit_m hl (by omega)) (lit_m la (by omega)) (fun r3 τ3 s3 ht3 hb3 hr3 hv3 _ _ _ => b_Wo_sum_92 (fr_E ht3.1.1 (PO_E p2)) ?_)
      have e3 : z τ3 58 = z (zs τ2 58 (a + i) r2) 58 := fr_zF ht3.1.1 (by decide)
      have e2 : z τ2 58 = z τ1 58 := fr_zF ht2.1.1 (by decide)
      have e1 : z τ1 58 = z ρ 58 := fr_zF ht1.1.1 (by decide)
      have bi : z τ3 58 (a + i) = r2 := by rw [e3, z_s (lit_R (PO_s p2).2 hr2)]
      have bo : ∀ j, j ≠ i → z τ3 58 (a + j) = z ρ 58 (a + j) := fun j q => by rw [e3, z_k (by omega), e2, e1]
      refine ih (i + 1) r3 τ3 s3 (by omega) (by omega) (PO_CX p2 ht3 (by have := p2.2.2.1; omega)) hr3 (fun j q1 q2 => by rw [bo j (by omega)]; exact hu j (by omega) q2) (fun v hvv => ?_)
      have c2 : CSv s2 τ2 v := CSv_o (Or.inl rfl) (CSv_2 hvv ht3)
      have c1 := CSv_2 c2 ht2
      have c0 := CSv_2 c1 ht1
      have e := hv v c0
      have w1 := hv1 v c1
      have w2 := hv2 v c2
      have w3 := hv3 v hvv
      rw [vb v] at w1
      rw [w1] at w2 w3
      rw [nV_s, nV_s, nV_s, Nat.pow_succ, nV_cf (f := fun j => z τ3 58 (a + j)) (g := fun j => z ρ 58 (a + j)) i (fun j hj2 => bo j (by omega))]
      refine ⟨fun q => ?_, fun q => ?_⟩
      · have f := fa_plus _ _ _ (2 ^ i) (lvb v (z σ 58 (a + i))) (lvb v (z σ 58 (b + i))) (lvb v x6) (e.1 q)
        rw [decide_eq_false (show ¬ x5 = 1 by omega), Bool.xor_false] at w2 w3
        rw [bi, w2, w3]
        exact f
      · have f := fa_minus _ _ _ (2 ^ i) (lvb v (z σ 58 (a + i))) (lvb v (z σ 58 (b + i))) (lvb v x6) (e.2 q)
        rw [decide_eq_true q, Bool.xor_true] at w2 w3
        rw [bi, w2, w3]
        exact f
  have b0 : PO n σ0 s0 (3 * 0) a σ s σ s := PO_refl h.1
  refine b_Wo_sum_0 (PO_E h) ⟨⟨by omega, by omega⟩, fun c => l 0 (Or.inl ⟨rfl, by omega⟩) w 0 x4 σ s (by omega) (by omega) b0 ?_ (fun _ _ _ => rfl) (fun v hv => ⟨fun _ => ?_, fun q => absurd q (by decide)⟩), fun c => l 1 (Or.inr ⟨rfl, c⟩) w 0 x4 σ s (by omega) (by omega) b0 ?_ (fun _ _ _ => rfl) (fun v hv => ⟨fun q => absurd q (by decide), fun _ => ?_⟩)⟩
  · rw [show x4 = 1 by omega]; exact PO_l1 h
  · rw [show x4 = 1 by omega, lvb_1 hv.1]; rfl
  · rw [c]; exact PO_l0 h
  · rw [c, lvb_0 hv.1]; rfl
end W4J
