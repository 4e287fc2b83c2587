/-! WORDS: shifts -/
def shF (x1 : Int) (w X k : Nat) : Nat := if x1 = 12 then X * 2 ^ k % 2 ^ w else X / 2 ^ k
theorem shF_0 {x1 : Int} {w X : Nat} (h : X < 2 ^ w) : shF x1 w X 0 = X := by
  unfold shF
  rw [Nat.pow_zero, Nat.mul_one, Nat.div_one, Nat.mod_eq_of_lt h]
  split <;> rfl
theorem shF_add (x1 : Int) (w X k m : Nat) : shF x1 w (shF x1 w X k) m = shF x1 w X (k + m) := by
  unfold shF
  split
  · rw [Nat.pow_add, ← Nat.mul_assoc, Nat.mul_mod, Nat.mod_mod, ← Nat.mul_mod]
  · rw [Nat.div_div_eq_div_mul, Nat.pow_add]
theorem shF_far {x1 : Int} {w X y : Nat} (hX : X < 2 ^ w) (hy : w ≤ y) : shF x1 w X y = 0 := by
  unfold shF
  split
  · rw [show y = w + (y - w) by omega, Nat.pow_add, ← Nat.mul_assoc, Nat.mul_comm X, Nat.mul_assoc, Nat.mul_mod_right]
  · exact Nat.div_eq_of_lt (Nat.lt_of_lt_of_le hX (Nat.pow_le_pow_right (by decide) hy))
section NzP
variable {v : Nat → Bool} {f : Nat → Int}
theorem nV_shl (hv : v 0 = true) (w A : Nat) : nV v (fun i => if A ≤ i then f (i - A) else 1) w = nV v f w * 2 ^ A % 2 ^ w := by
  refine nV_eq (Nat.mod_lt _ (Nat.two_pow_pos w)) (fun j hj => ?_)
  rw [Nat.testBit_mod_two_pow, ← Nat.shiftLeft_eq, Nat.testBit_shiftLeft, decide_eq_true hj, Bool.true_and]
  by_cases c : A ≤ j
  · rw [if_pos c, nV_tb w (j - A) (by omega)]
    simp [c]
  · rw [if_neg c, lvb_1 hv]
    simp [c]
theorem nV_shr (hv : v 0 = true) (w A : Nat) : nV v (fun i => if i + A < w then f (i + A) else 1) w = nV v f w / 2 ^ A := by
  refine nV_eq (Nat.lt_of_le_of_lt (Nat.div_le_self _ _) (nV_lt w)) (fun j hj => ?_)
  rw [← Nat.shiftRight_eq_div_pow, Nat.testBit_shiftRight]
  by_cases c : j + A < w
  · rw [if_pos c, nV_tb w (A + j) (by omega), Nat.add_comm]
  · rw [if_neg c, lvb_1 hv, nV_th w (A + j) (by omega)]
end NzP
/-- how far, of the first g bits; whether too far -/
def amt (v : Nat → Bool) (f : Nat → Int) (w : Nat) : Nat → Nat
  | 0 => 0
  | g + 1 => amt v f w g + (if 2 ^ g < w then 2 ^ g * (lvb v (f g)).toNat else 0)
def tfr (v : Nat → Bool) (f : Nat → Int) (w : Nat) : Nat → Bool
  | 0 => false
  | g + 1 => tfr v f w g || (if 2 ^ g < w then false else lvb v (f g))
theorem amt_eq {v : Nat → Bool} {f : Nat → Int} {w : Nat} : ∀ g, (tfr v f w g = false → nV v f g = amt v f w g) ∧ (tfr v f w g = true → w ≤ nV v f g)
  | 0 => ⟨fun _ => rfl, fun h => by cases h⟩
  | g + 1 => by
    obtain ⟨a, b⟩ := amt_eq (v := v) (f := f) (w := w) g
    have e1 : amt v f w (g + 1) = amt v f w g + (if 2 ^ g < w then 2 ^ g * (lvb v (f g)).toNat else 0) := rfl
    have e2 : tfr v f w (g + 1) = (tfr v f w g || (if 2 ^ g < w then false else lvb v (f g))) := rfl
    rw [e1, e2, nV_s]
    by_cases c : 2 ^ g < w
    · rw [if_pos c, if_pos c, Bool.or_false]
      exact ⟨fun q => by rw [a q], fun q => by have := b q; omega⟩
    · rw [if_neg c, if_neg c]
      refine ⟨fun q => ?_, fun q => ?_⟩
      · rw [Bool.or_eq_false_iff] at q
        rw [a q.1, q.2]; rfl
      · rw [Bool.or_eq_true] at q
        rcases q with q | q
        · have := b q; omega
        · rw [q]
          show w ≤ _ + 2 ^ g * 1
          omega
section W8J
variable {ω : q_W} {d s n s0 : Nat} {σ σ0 : q_H} {B a : Nat} {π : q_H} {sπ : Nat}
/-- one stage of a shift -/
theorem k_shstage {K : q_H → Prop} {x1 x5 x8 : Int} {b w C sr g : Nat} {S0 : q_H} (hd : 2 ≤ d) (hn : n ≤ 3200) (ha8 : a + 8 ≤ n) (w8 : w ≤ 8) (i1 : x1 = 12 ∨ x1 = 13) (hg : g < 8) (hgw : 2 ^ g < w) (h : PO n σ0 s0 C a σ s S0 sr) (hwd : ∀ j, w ≤ j → j < 8 → z S0 58 (a + j) = 1) (hx8 : lit sr x8) (hB : sr + w < 10240)
    (kk : ∀ (τ : q_H) (t : Nat), PO n σ0 s0 (C + w) a σ s τ t → sr ≤ t → t ≤ sr + w → (∀ j, w ≤ j → j < 8 → z τ 58 (a + j) = 1) → (∀ v, CSv t τ v → CSv sr S0 v ∧ nV v (fun j => z τ 58 (a + j)) w = if lvb v x8 then shF x1 w (nV v (fun j => z S0 58 (a + j)) w) (2 ^ g) else nV v (fun j => z S0 58 (a + j)) w) → J ω m_Wo_shift (d + 1) 0 0 0 0 6 [(0, .ref 49), (1, .int (zI x1)), (2, .int (zI (a : Int))), (3, .int (zI (b : Int))), (4, .int (zI (w : Int))), (5, .int (zI x5)), (6, .int (zI ((g : Int) + 1)))] [] τ (q_kv K)) :
    J ω m_Wo_shift (d + 1) 0 0 0 0 56 [(0, .ref 49), (1, .int (zI x1)), (2, .int (zI (a : Int))), (3, .int (zI (b : Int))), (4, .int (zI (w : Int))), (5, .int (zI x5)), (6, .int (zI (g : Int))), (7, .int (zI (zShl 1 (g : Int)))), (8, .int (zI x8)), (9, .int (zI 0))] [] S0 (q_kv K) := by
  have eA : zShl 1 (g : Int) = ((2 ^ g : Nat) : Int) := by rw [zShl_1 g (by omega)]; simp
  rw [eA]
  generalize hA : 2 ^ g = A at *
  -- what moves to place i
  have l : ∀ (k i : Nat) (ρ : q_H) (t : Nat), w ≤ i + k → i ≤ w → PO n σ0 s0 i a S0 sr ρ t → z ρ 58 = z S0 58 → (∀ j, j < i → lit t (z ρ 59 j)) → (∀ v, CSv t ρ v → ∀ j, j < i → lvb v (z ρ 59 j) = if lvb v x8 then lvb v (if x1 = 12 then (if A ≤ j then z S0 58 (a + (j - A)) else 1) else (if j + A < w then z S0 58 (a + (j + A)) else 1)) else lvb v (z S0 58 (a + j))) → J ω m_Wo_shift (d + 1) 0 0 0 0 56 [(0, .ref 49), (1, .int (zI x1)), (2, .int (zI (a : Int))), (3, .int (zI (b : Int))), (4, .int (zI (w : Int))), (5, .int (zI x5)), (6, .int (zI (g : Int))), (7, .int (zI (A : Int))), (8, .int (zI x8)), (9, .int (zI (i : Int)))] [] ρ (q_kv K) := by
    intro k
    have fin : ∀ (i : Nat) (ρ : q_H) (t : Nat), i = w → PO n σ0 s0 i a S0 sr ρ t → z ρ 58 = z S0 58 → (∀ j, j < i → lit t (z ρ 59 j)) → (∀ v, CSv t ρ v → ∀ j, j < i → lvb v (z ρ 59 j) = if lvb v x8 then lvb v (if x1 = 12 then (if A ≤ j then z S0 58 (a + (j - A)) else 1) else (if j + A < w then z S0 58 (a + (j + A)) else 1)) else lvb v (z S0 58 (a + j))) → J ω m_Wo_shift (d + 1) 0 0 0 0 6 [(0, .ref 49), (1, .int (zI x1)), (2, .int (zI (a : Int))), (3, .int (zI (b : Int))), (4, .int (zI (w : Int))), (5, .int (zI x5)), (6, .int (zI ((g : Int) + 1)))] [] (zcp ρ 59 0 58 (a : Int).toNat (w : Int).toNat) (q_kv K) := by
      intro i ρ t hi hp h58 hl hv
      subst hi
      rw [Int.toNat_natCast, Int.toNat_natCast]
      have p := PO_cp hp (m := i) w8 hl
      have e : ∀ j, j < i → z (zcp ρ 59 0 58 a i) 58 (a + j) = z ρ 59 j := fun j hj => by
        rw [z_cp_in (by omega)]; congr 1; omega
      refine kk _ t (PO_tr h p) p.2.1 p.2.2.1 (fun j q1 q2 => by rw [z_cp_out (by omega), h58]; exact hwd j q1 q2) (fun v hvv => ⟨PO_v p hvv, ?_⟩)
      have cv := CSv_cp hvv
      rw [nV_cf (g := z ρ 59) i (fun j hj => e j hj), nV_ite (h := fun j => z S0 58 (a + j)) (g := fun j => if x1 = 12 then (if A ≤ j then z S0 58 (a + (j - A)) else 1) else (if j + A < i then z S0 58 (a + (j + A)) else 1)) (lvb v x8) i (hv v cv)]
      congr 1
      unfold shF
      by_cases c : x1 = 12
      · simp only [if_pos c]
        exact nV_shl (f := fun j => z S0 58 (a + j)) hvv.1 i A
      · simp only [if_neg c]
        exact nV_shr (f := fun j => z S0 58 (a + j)) hvv.1 i A
    induction k with
    | zero =>
      intro i ρ t hi hiw hp h58 hl hv
      exact b_Wo_shift_56 (PO_E hp) ⟨⟨by omega, by omega⟩, ⟨by omega, by omega⟩, fun c => ⟨⟨by omega, by omega, by omega, by omega, by omega⟩, fin i ρ t (by omega) hp h58 hl hv⟩, fun c => absurd c (by omega)⟩
    | succ k ih =>
      intro i ρ t hi hiw hp h58 hl hv
      refine b_Wo_shift_56 (PO_E hp) ⟨⟨by omega, by omega⟩, ⟨by omega, by omega⟩, fun c => ⟨⟨by omega, by omega, by omega, by omega, by omega⟩, fin i ρ t (by omega) hp h58 hl hv⟩, fun c => ?_⟩
      have iw : i < w := by omega
      have pl := hp.2.2.1
      have g109 : ∀ y0 : Int, lit t y0 → y0 = (if x1 = 12 then (if A ≤ i then z S0 58 (a + (i - A)) else 1) else (if i + A < w then z S0 58 (a + (i + A)) else 1)) → J ω m_Wo_shift (d + 1) 0 0 0 0 109 [(0, .ref 49), (1, .int (zI x1)), (2, .int (zI (a : Int))), (3, .int (zI (b : Int))), (4, .int (zI (w : Int))), (5, .int (zI x5)), (6, .int (zI (g : Int))), (7, .int (zI (A : Int))), (8, .int (zI x8)), (9, .int (zI (i : Int)))] [.int (zI y0)] ρ (q_kv K) := by
        intro y0 hy ey
        refine b_Wo_shift_109 (PO_E hp) ⟨⟨by omega, by omega⟩, ?_⟩
        rw [show ((a : Int) + (i : Int)).toNat = a + i by omega, h58]
        have la : lit t (z S0 58 (a + i)) := by rw [← h58]; exact PO_ll hp (by omega)
        refine k_pick (by omega) (PO_E hp) (PO_C hp) (PO_H hp) (by omega) (lit_m hx8 hp.2.1) hy la (fun r τ s' ht hb hr hvp _ _ _ => b_Wo_shift_137 (fr_E ht.1.1 (PO_E hp)) ⟨⟨by omega, by omega⟩, ?_⟩)
        rw [Int.toNat_natCast, show (i : Int) + 1 = ((i + 1 : Nat) : Int) by omega]
        have e59 : ∀ j, z (zs τ 59 i r) 59 j = if j = i then r else z ρ 59 j := fun j => by
          rw [z_if (lit_R ht.1.2.1.2.1.2 hr), fr_z ht.1.1 (by decide)]
          simp only [true_and]
        refine ih (i + 1) _ s' (by omega) (by omega) (PO_sc (PO_CX hp ht (by omega)) (Or.inl rfl)) (by rw [z_oF (by decide), fr_zF ht.1.1 (by decide)]; exact h58) (fun j hj => ?_) (fun v hvv j hj => ?_)
        · rw [e59]
          split
          · exact hr
          · exact lit_m (hl j (by omega)) ht.1.2.2.1
        · have c1 : CSv s' τ v := CSv_o (Or.inr (Or.inl rfl)) hvv
          rw [e59]
          by_cases q : j = i
          · rw [if_pos q, q, hvp v c1, ey]
          · rw [if_neg q]; exact hv v (CSv_2 c1 ht) j (by omega)
      have lrow : ∀ j, j < 8 → lit t (z S0 58 (a + j)) := fun j hj => by rw [← h58]; exact PO_ll hp (by omega)
      have wA : A < w := hgw
      refine ⟨by rcases i1 with q | q <;> (rw [q]; exact ⟨by decide, by decide⟩), fun c12 => ?_, fun c12 => ?_⟩
      · refine b_Wo_shift_82 (PO_E hp) ⟨⟨by omega, by omega⟩, fun q => absurd q (by omega), fun _ => ⟨⟨by omega, by omega⟩, fun q => g109 1 (PO_l1 hp) (by rw [if_neg c12, if_neg (by omega)]), fun q => ⟨⟨by omega, by omega⟩, ?_⟩⟩⟩
        rw [show ((a : Int) + ((i : Int) + (A : Int))).toNat = a + (i + A) by omega, h58]
        exact g109 _ (lrow _ (by omega)) (by rw [if_neg c12, if_pos (by omega)])
      · refine b_Wo_shift_82 (PO_E hp) ⟨⟨by omega, by omega⟩, fun q => g109 1 (PO_l1 hp) (by rw [if_pos c12, if_neg (by omega)]), fun q => ⟨⟨by omega, by omega⟩, fun q2 => absurd q2 (by omega), fun q2 => ⟨⟨by omega, by omega⟩, ?_⟩⟩⟩
        rw [show ((a : Int) + ((i : Int) - (A : Int))).toNat = a + (i - A) by omega, h58]
        exact g109 _ (lrow _ (by omega)) (by rw [if_pos c12, if_pos (by omega)])
  exact l w 0 S0 sr (by omega) (by omega) (PO_refl h.1) rfl (fun j hj => absurd hj (Nat.not_lt_zero _)) (fun v hv j hj => absurd hj (Nat.not_lt_zero _))
theorem k_shift {K : q_H → Prop} {x1 : Int} {b w : Nat} (hd : 3 ≤ d) (hn : n ≤ 3200) (hab : a + 8 ≤ b) (hb8 : b + 8 ≤ n) (i1 : x1 = 12 ∨ x1 = 13) (h : PO n σ0 s0 B a π sπ σ s) (w8 : 1 ≤ w ∧ w ≤ 8) (h1 : wdt (fun j => z σ 58 (a + j)) w) (hB : s + 9 * w < 10240)
    (kk : ∀ τ s', PO n σ0 s0 (B + 9 * w) a π sπ τ s' → s ≤ s' → s' ≤ s + 9 * w → RO a σ τ → wdt (fun j => z τ 58 (a + j)) w → (∀ v, CSv s' τ v → CSv s σ v ∧ nV v (fun j => z τ 58 (a + j)) 8 = op2 x1 w (nV v (fun j => z σ 58 (a + j)) 8) (nV v (fun j => z σ 58 (b + j)) 8)) → K τ) : J ω m_Wo_shift d 0 0 0 0 0 [(0, .ref 49), (1, .int (zI x1)), (2, .int (zI (a : Int))), (3, .int (zI (b : Int))), (4, .int (zI (w : Int)))] [] σ (q_kv K) := by
  obtain ⟨d, rfl⟩ : ∃ k, d = k + 1 := ⟨d - 1, by omega⟩
  -- the last loop
  have e8 : ∀ (S1 : q_H) (s1 : Nat) (x5 : Int), PO n σ0 s0 (8 * w) a σ s S1 s1 → lit s1 x5 → (∀ j, w ≤ j → j < 8 → z S1 58 (a + j) = 1) → (∀ v, CSv s1 S1 v → nV v (fun j => z S1 58 (a + j)) w = shF x1 w (nV v (fun j => z σ 58 (a + j)) w) (amt v (fun j => z σ 58 (b + j)) w 8) ∧ lvb v x5 = tfr v (fun j => z σ 58 (b + j)) w 8) →
      ∀ (k i : Nat) (ρ : q_H) (t : Nat), w ≤ i + k → i ≤ w → PO n σ0 s0 i a S1 s1 ρ t → (∀ j, i ≤ j → j < 8 → z ρ 58 (a + j) = z S1 58 (a + j)) → (∀ v, CSv t ρ v → ∀ j, j < i → lvb v (z ρ 58 (a + j)) = (lvb v (z S1 58 (a + j)) && !lvb v x5)) → J ω m_Wo_shift (d + 1) 0 0 0 0 168 [(0, .ref 49), (2, .int (zI (a : Int))), (4, .int (zI (w : Int))), (5, .int (zI x5)), (6, .int (zI (i : Int)))] [] ρ (q_kv K) := by
    intro S1 s1 x5 h0 hx5 hwd hval k
    have fin : ∀ (i : Nat) (ρ : q_H) (t : Nat), i = w → PO n σ0 s0 i a S1 s1 ρ t → (∀ j, i ≤ j → j < 8 → z ρ 58 (a + j) = z S1 58 (a + j)) → (∀ v, CSv t ρ v → ∀ j, j < i → lvb v (z ρ 58 (a + j)) = (lvb v (z S1 58 (a + j)) && !lvb v x5)) → q_kv K (.inl none) ρ := by
      intro i ρ t hi hp hu hv
      subst hi
      have wd : wdt (fun j => z ρ 58 (a + j)) i := fun j q1 q2 => by
        show z ρ 58 (a + j) = 1
        rw [hu j q1 q2]; exact hwd j q1 q2
      have p := PO_tr (PO_tr h h0) hp
      have pl := h0.2.2.1
      have pl2 := hp.2.2.1
      refine ⟨rfl, kk ρ t (PO_le p (by have := h.2.2.1; omega)) (by have := hp.2.1; have := h0.2.1; omega) (by omega) (fun j q => by rw [PO_r hp q, PO_r h0 q]) wd (fun v hvv => ?_)⟩
      have cv := PO_v hp hvv
      refine ⟨PO_v h0 cv, ?_⟩
      obtain ⟨e1, e2⟩ := hval v cv
      have lX := nV_lt (v := v) (f := fun j => z σ 58 (a + j)) i
      rw [nV_w hvv.1 wd 8 w8.2 (Nat.le_refl _), nV_w hvv.1 h1 8 w8.2 (Nat.le_refl _)]
      have ae := amt_eq (v := v) (f := fun j => z σ 58 (b + j)) (w := i) 8
      have base : op2 x1 i (nV v (fun j => z σ 58 (a + j)) i) (nV v (fun j => z σ 58 (b + j)) 8) = if i ≤ nV v (fun j => z σ 58 (b + j)) 8 then 0 else shF x1 i (nV v (fun j => z σ 58 (a + j)) i) (nV v (fun j => z σ 58 (b + j)) 8) := by
        rcases i1 with q | q <;> subst q <;> rfl
      rw [base]
      cases hb : tfr v (fun j => z σ 58 (b + j)) i 8 with
      | true =>
        rw [if_pos (ae.2 hb), (nV_0 i).mpr (fun j hj => ?_)]
        rw [hv v hvv j hj, e2, hb]; simp
      | false =>
        have q := ae.1 hb
        have e3 : nV v (fun j => z ρ 58 (a + j)) i = nV v (fun j => z S1 58 (a + j)) i := nV_cg i (fun j hj => by rw [hv v hvv j hj, e2, hb]; simp)
        rw [e3, e1, ← q]
        split
        · next c => exact shF_far lX c
        · rfl
    induction k with
    | zero =>
      intro i ρ t hi hiw hp hu hv
      exact b_Wo_shift_168 (PO_E hp) ⟨⟨by omega, by omega⟩, ⟨by omega, by omega⟩, fun _ => fin i ρ t (by omega) hp hu hv, fun c => absurd c (by omega)⟩
    | succ k ih =>
      intro i ρ t hi hiw hp hu hv
      refine b_Wo_shift_168 (PO_E hp) ⟨⟨by omega, by omega⟩, ⟨by omega, by omega⟩, fun c => fin i ρ t (by omega) hp hu hv, fun c => ⟨⟨by omega, by omega⟩, ?_⟩⟩
      have iw : i < w := by omega
      have pl := hp.2.2.1
      have pl0 := h0.2.2.1
      have t10 := PO_s hp
      have lx := lit_m hx5 hp.2.1
      have lxx := (lit_x t10.2 lx).1
      have ea : z ρ 58 (a + i) = z S1 58 (a + i) := hu i (Nat.le_refl _) (by omega)
      have la : lit t (z ρ 58 (a + i)) := PO_ll hp (by omega)
      rw [show ((a : Int) + (i : Int)).toNat = a + i by omega]
      refine k_and (by omega) (PO_E hp) (PO_C hp) (PO_H hp) (by omega) la lxx (fun r τ s' ht hb hr hRA _ => b_Wo_shift_203 (fr_E ht.1.1 (PO_E hp)) ⟨⟨by omega, by omega⟩, ?_⟩)
      rw [show ((a : Int) + (i : Int)).toNat = a + i by omega, show (i : Int) + 1 = ((i + 1 : Nat) : Int) by omega]
      refine ih (i + 1) _ s' (by omega) (by omega) (PO_58 (PO_CX hp ht (by omega)) ⟨by omega, by omega⟩ hr) (fun j q1 q2 => by rw [z_k (by omega), fr_z ht.1.1 (by decide)]; exact hu j (by omega) q2) (fun v hvv j hj => ?_)
      have c1 : CSv s' τ v := CSv_o (Or.inl rfl) hvv
      by_cases q : j = i
      · rw [q, z_s (lit_R ht.1.2.1.2.1.2 hr), RA_v hRA ht.1.2.1.2.1.2 (lit_m la ht.1.2.2.1) (lit_m lxx ht.1.2.2.1) c1, lvb_x lx.1 (by have := lx.2; omega), ea]
      · rw [z_k (by omega), fr_z ht.1.1 (by decide)]; exact hv v (CSv_2 c1 ht) j (by omega)
  have l : ∀ (m g : Nat) (x5 : Int) (ρ : q_H) (t : Nat), 8 ≤ g + m → g ≤ 8 → PO n σ0 s0 (8 * w) a σ s ρ t → t + (8 - g) * w ≤ s + 8 * w → lit t x5 → (∀ j, w ≤ j → j < 8 → z ρ 58 (a + j) = 1) → (∀ v, CSv t ρ v → nV v (fun j => z ρ 58 (a + j)) w = shF x1 w (nV v (fun j => z σ 58 (a + j)) w) (amt v (fun j => z σ 58 (b + j)) w g) ∧ lvb v x5 = tfr v (fun j => z σ 58 (b + j)) w g) → J ω m_Wo_shift (d + 1) 0 0 0 0 6 [(0, .ref 49), (1, .int (zI x1)), (2, .int (zI (a : Int))), (3, .int (zI (b : Int))), (4, .int (zI (w : Int))), (5, .int (zI x5)), (6, .int (zI (g : Int)))] [] ρ (q_kv K) := by
    intro m
    induction m with
    | zero =>
      intro g x5 ρ t hg h8 hp htb hx hwd hv
      have g8 : g = 8 := by omega
      subst g8
      exact b_Wo_shift_6 (PO_E hp) ⟨⟨by omega, by omega⟩, fun _ => e8 ρ t x5 hp hx hwd hv w 0 ρ t (by omega) (by omega) (PO_refl hp.1) (fun _ _ _ => rfl) (fun v hv j hj => absurd hj (Nat.not_lt_zero _)), fun c => absurd c (by omega)⟩
    | succ m ih =>
      intro g x5 ρ t hg h8 hp htb hx hwd hv
      refine b_Wo_shift_6 (PO_E hp) ⟨⟨by omega, by omega⟩, fun c => ?_, fun c => ?_⟩
      · have g8 : g = 8 := by omega
        subst g8
        exact e8 ρ t x5 hp hx hwd hv w 0 ρ t (by omega) (by omega) (PO_refl hp.1) (fun _ _ _ => rfl) (fun v hv j hj => absurd hj (Nat.not_lt_zero _))
      · have g8 : g < 8 := by omega
        have eb : z ρ 58 (b + g) = z σ 58 (b + g) := PO_r hp (by omega)
        have lb : lit t (z σ 58 (b + g)) := by rw [← eb]; exact PO_ll hp (by omega)
        have eA : zShl 1 (g : Int) = ((2 ^ g : Nat) : Int) := by rw [zShl_1 g (by omega)]; simp
        have sg : (8 - g) * w = (8 - (g + 1)) * w + w := by rw [show 8 - g = (8 - (g + 1)) + 1 by omega, Nat.succ_mul]
        have am : ∀ v, amt v (fun j => z σ 58 (b + j)) w (g + 1) = amt v (fun j => z σ 58 (b + j)) w g + (if 2 ^ g < w then 2 ^ g * (lvb v (z σ 58 (b + g))).toNat else 0) := fun _ => rfl
        have tf : ∀ v, tfr v (fun j => z σ 58 (b + j)) w (g + 1) = (tfr v (fun j => z σ 58 (b + j)) w g || (if 2 ^ g < w then false else lvb v (z σ 58 (b + g)))) := fun _ => rfl
        rw [show ((b : Int) + (g : Int)).toNat = b + g by omega, eb]
        refine ⟨⟨by omega, by omega⟩, ⟨by omega, by omega⟩, fun c1 => ?_, fun c1 => ?_⟩
        · have gw : 2 ^ g < w := by rw [eA] at c1; omega
          refine k_shstage (by omega) hn (by omega) w8.2 i1 g8 gw hp hwd lb (by omega) (fun τ t' hp' tt ttb hwd' hv' => ?_)
          rw [show (g : Int) + 1 = ((g + 1 : Nat) : Int) by omega]
          refine ih (g + 1) x5 τ t' (by omega) (by omega) (PO_le hp' (by omega)) (by omega) (lit_m hx tt) hwd' (fun v hvv => ?_)
          obtain ⟨cv, e3⟩ := hv' v hvv
          obtain ⟨e1, e2⟩ := hv v cv
          rw [am, tf, if_pos gw, if_pos gw, e3, e1, e2, Bool.or_false]
          refine ⟨?_, rfl⟩
          cases lvb v (z σ 58 (b + g)) with
          | true => rw [if_pos rfl, shF_add]; simp
          | false => simp
        · have gw : ¬ 2 ^ g < w := by rw [eA] at c1; omega
          refine k_or (by omega) (PO_E hp) (PO_C hp) (PO_H hp) (by omega) hx lb (fun r τ s' ht hb hr hvo _ _ => b_Wo_shift_48 (fr_E ht.1.1 (PO_E hp)) ?_)
          rw [show (g : Int) + 1 = ((g + 1 : Nat) : Int) by omega]
          have e58 : z τ 58 = z ρ 58 := fr_zF ht.1.1 (by decide)
          refine ih (g + 1) r τ s' (by omega) (by omega) (PO_CX hp ht (by omega)) (by omega) hr (fun j q1 q2 => by rw [e58]; exact hwd j q1 q2) (fun v hvv => ?_)
          have cv := CSv_2 hvv ht
          obtain ⟨e1, e2⟩ := hv v cv
          rw [am, tf, if_neg gw, if_neg gw, e58, hvo v hvv, e2]
          exact ⟨e1, rfl⟩
  refine b_Wo_shift_0 (PO_E h) (l 8 0 1 σ s (by decide) (by decide) (PO_refl h.1) (by omega) (PO_l1 h) (fun j q1 q2 => h1 j q1 q2) (fun v hv => ⟨?_, by rw [lvb_1 hv.1]; rfl⟩))
  exact (shF_0 (nV_lt w)).symm
end W8J
