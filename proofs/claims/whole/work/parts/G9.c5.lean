/-! WORDS: products -/
section NxP
variable {v : Nat → Bool} {f : Nat → Int}
theorem nV_sp (k : Nat) : ∀ w, k ≤ w → ∃ r, nV v f w = nV v f k + 2 ^ k * r
  | 0, h => ⟨0, by rw [show k = 0 by omega]; rfl⟩
  | w + 1, h => by
    by_cases c : k = w + 1
    · exact ⟨0, by rw [c]; omega⟩
    · obtain ⟨r, hr⟩ := nV_sp k w (by omega)
      refine ⟨r + 2 ^ (w - k) * (lvb v (f w)).toNat, ?_⟩
      rw [nV_s, hr, Nat.mul_add, ← Nat.mul_assoc, ← Nat.pow_add, show k + (w - k) = w by omega]
      omega
theorem nV_hd : ∀ k, nV v f (k + 1) = (lvb v (f 0)).toNat + 2 * nV v (fun j => f (j + 1)) k
  | 0 => by rw [nV_s]; simp [nV]
  | k + 1 => by
    rw [nV_s (k + 1), nV_hd k, nV_s k, Nat.pow_succ]
    have : 2 ^ k * 2 * (lvb v (f (k + 1))).toNat = 2 * (2 ^ k * (lvb v (f (k + 1))).toNat) := by rw [Nat.mul_comm (2 ^ k) 2, Nat.mul_assoc]
    rw [this]
    omega
end NxP
theorem mul_row {M A Y p b lo rest S X c w r : Nat} (hA : A = lo + 2 ^ (w - r) * rest) (hr : r ≤ w) (hM : M = 2 ^ w) (hS : S = (A * Y) % M) (hp : p = 2 ^ r) (e : X + M * c = S + p * b * lo) (hX : X < M) : X = (A * (Y + p * b)) % M := by
  have hpM : p * 2 ^ (w - r) = M := by rw [hp, hM, ← Nat.pow_add]; congr 1; omega
  have h1 : A * (Y + p * b) = A * Y + (p * b * lo + M * (b * rest)) := by
    rw [Nat.mul_add]
    congr 1
    rw [← hpM, hA]
    rw [Nat.add_mul]
    congr 1
    · rw [Nat.mul_comm]
    · ac_rfl
  rw [h1, ← Nat.add_assoc, Nat.add_mul_mod_self_left, Nat.add_mod, ← hS]
  have h2 : (S + p * b * lo % M) % M = (S + p * b * lo) % M := by rw [Nat.add_mod_mod]
  rw [h2, ← e, Nat.add_mul_mod_self_left, Nat.mod_eq_of_lt hX]
def mC (w : Nat) : Nat → Nat
  | 0 => 0
  | r + 1 => mC w r + (4 * (w - r) - 1)
theorem mC_le : ∀ w, w ≤ 8 → mC w w ≤ 3 * (w * w) := by decide
theorem mC_mono {w : Nat} : ∀ {r q : Nat}, r ≤ q → mC w r ≤ mC w q
  | r, 0, h => by rw [show r = 0 by omega]; exact Nat.le_refl _
  | r, q + 1, h => by
    by_cases c : r = q + 1
    · rw [c]; exact Nat.le_refl _
    · have := mC_mono (w := w) (show r ≤ q by omega)
      show mC w r ≤ mC w q + (4 * (w - q) - 1)
      omega
section W5J
variable {ω : q_W} {d s n s0 : Nat} {σ σ0 : q_H} {B a : Nat} {π : q_H} {sπ : Nat}
theorem WT_fr {τ : q_H} (h : WT n σ0 s0 σ s) (f : fr [59, 60] σ τ) : WT n σ0 s0 τ s := by
  obtain ⟨⟨hE, ⟨hc1, hc2⟩, hl, f0, hs⟩, h2, h3, h4⟩ := h
  have e : ∀ o, o ≠ 59 → o ≠ 60 → z τ o = z σ o := fun o q1 q2 => fr_zF f (by simp; omega)
  refine ⟨⟨fr_E f hE, ⟨by rw [e 50 (by decide) (by decide)]; exact hc1, ?_⟩, fun i hi => by rw [e 58 (by decide) (by decide)]; exact hl i hi, fr_trans f0 (fr_mono f (by unfold SWo; simp)), hs⟩, ?_, by rw [e 50 (by decide) (by decide)]; exact h3, fun g hg => ?_⟩
  · rw [e 51 (by decide) (by decide), e 52 (by decide) (by decide), e 53 (by decide) (by decide), e 54 (by decide) (by decide), e 55 (by decide) (by decide), e 56 (by decide) (by decide), e 57 (by decide) (by decide)]; exact hc2
  · unfold HI
    rw [e 51 (by decide) (by decide), e 52 (by decide) (by decide), e 53 (by decide) (by decide), e 54 (by decide) (by decide), e 55 (by decide) (by decide), e 56 (by decide) (by decide), e 57 (by decide) (by decide), e 61 (by decide) (by decide)]; exact h2
  · rw [e 51 (by decide) (by decide), e 52 (by decide) (by decide), e 53 (by decide) (by decide), e 54 (by decide) (by decide)]; exact h4 g hg
theorem CSv_fr {τ : q_H} {v : Nat → Bool} (f : fr [59, 60] σ τ) (h : CSv s τ v) : CSv s σ v := CSv_z (fr_zF f (by decide)) (fr_zF f (by decide)) (fr_zF f (by decide)) (fr_zF f (by decide)) h
theorem PO_fr {t : Nat} {ρ τ : q_H} (h : PO n σ0 s0 B a σ s ρ t) (f : fr [59, 60] ρ τ) : PO n σ0 s0 B a σ s τ t :=
  ⟨WT_fr h.1 f, h.2.1, h.2.2.1, fun v hv => h.2.2.2.1 v (CSv_fr f hv), fun j hj => by rw [fr_z f (by decide)]; exact h.2.2.2.2 j hj⟩
/-- a copy of scratch into the row -/
theorem PO_cp {t m : Nat} {ρ : q_H} (h : PO n σ0 s0 B a σ s ρ t) (hm : m ≤ 8) (hl : ∀ j, j < m → lit t (z ρ 59 j)) : PO n σ0 s0 B a σ s (zcp ρ 59 0 58 a m) t := by
  obtain ⟨⟨h1, h2, h3, h4⟩, h5, h6, h7, h8⟩ := h
  have e : ∀ o, o ≠ 58 → z (zcp ρ 59 0 58 a m) o = z ρ o := fun o ho => funext fun j => z_cp_o ho
  refine ⟨⟨WS_cp h1 (fun j _ q => hl j (by omega)), ?_, by rw [e 50 (by decide)]; exact h3, fun g hg => ?_⟩, h5, h6, fun v hv => h7 v (CSv_z (e 51 (by decide)) (e 52 (by decide)) (e 53 (by decide)) (e 54 (by decide)) hv), fun j hj => ?_⟩
  · unfold HI
    rw [e 51 (by decide), e 52 (by decide), e 53 (by decide), e 54 (by decide), e 55 (by decide), e 56 (by decide), e 57 (by decide), e 61 (by decide)]; exact h2
  · rw [e 51 (by decide), e 52 (by decide), e 53 (by decide), e 54 (by decide)]; exact h4 g hg
  · rw [z_cp_out (by omega)]; exact h8 j hj
theorem CSv_cp {v : Nat → Bool} {ρ : q_H} {t m : Nat} (h : CSv t (zcp ρ 59 0 58 a m) v) : CSv t ρ v := CSv_z (funext fun j => z_cp_o (by decide)) (funext fun j => z_cp_o (by decide)) (funext fun j => z_cp_o (by decide)) (funext fun j => z_cp_o (by decide)) h
/-- one row of the product -/
theorem k_mulrow {K : q_H → Prop} {b w r : Nat} (hd : 2 ≤ d) (hn : n ≤ 3200) (hab : a + 8 ≤ b) (hb8 : b + 8 ≤ n) (w8 : w ≤ 8) (hrw : r < w) {S0 : q_H} {sr : Nat} (h : PO n σ0 s0 (mC w r) a σ s S0 sr) (h58 : z S0 58 = z σ 58) (hl0 : ∀ j, j < 8 → lit sr (z S0 59 j)) (hB : s + mC w (r + 1) < 10240)
    (kk : ∀ (ρ : q_H) (t : Nat), PO n σ0 s0 (mC w (r + 1)) a σ s ρ t → z ρ 58 = z σ 58 → (∀ j, j < 8 → lit t (z ρ 59 j)) → (∀ j, w ≤ j → j < 8 → z ρ 59 j = z S0 59 j) → (∀ v, CSv t ρ v → CSv sr S0 v ∧ ∃ c, nV v (z ρ 59) w + 2 ^ w * c = nV v (z S0 59) w + 2 ^ r * (lvb v (z σ 58 (b + r))).toNat * nV v (fun j => z σ 58 (a + j)) (w - r)) → J ω m_Wo_multiply (d + 1) 0 0 0 0 11 [(0, .ref 49), (1, .int (zI (a : Int))), (2, .int (zI (b : Int))), (3, .int (zI (w : Int))), (4, .int (zI ((r : Int) + 1)))] [] ρ (q_kv K)) :
    J ω m_Wo_multiply (d + 1) 0 0 0 0 24 [(0, .ref 49), (1, .int (zI (a : Int))), (2, .int (zI (b : Int))), (3, .int (zI (w : Int))), (4, .int (zI (r : Int))), (5, .int (zI 1)), (6, .int (zI (r : Int)))] [] S0 (q_kv K) := by
  have srl := h.2.2.1
  have mcs : mC w (r + 1) = mC w r + (4 * (w - r) - 1) := rfl
  have l : ∀ (k i : Nat) (x5 : Int) (ρ : q_H) (t : Nat), w ≤ i + k → r ≤ i → i ≤ w → PO n σ0 s0 (mC w (r + 1)) a S0 sr ρ t → (t ≤ sr + (4 * (i - r) - 1)) → (i = r → x5 = 1 ∧ t = sr) → z ρ 58 = z σ 58 → lit t x5 → (∀ j, j < 8 → lit t (z ρ 59 j)) → (∀ j, i ≤ j → j < 8 → z ρ 59 j = z S0 59 j) → (∀ v, CSv t ρ v → nV v (z ρ 59) i + 2 ^ i * (lvb v x5).toNat = nV v (z S0 59) i + 2 ^ r * (lvb v (z σ 58 (b + r))).toNat * nV v (fun j => z σ 58 (a + j)) (i - r)) → J ω m_Wo_multiply (d + 1) 0 0 0 0 24 [(0, .ref 49), (1, .int (zI (a : Int))), (2, .int (zI (b : Int))), (3, .int (zI (w : Int))), (4, .int (zI (r : Int))), (5, .int (zI x5)), (6, .int (zI (i : Int)))] [] ρ (q_kv K) := by
    intro k
    have fin : ∀ (i : Nat) (x5 : Int) (ρ : q_H) (t : Nat), i = w → PO n σ0 s0 (mC w (r + 1)) a S0 sr ρ t → (t ≤ sr + (4 * (i - r) - 1)) → z ρ 58 = z σ 58 → (∀ j, j < 8 → lit t (z ρ 59 j)) → (∀ j, i ≤ j → j < 8 → z ρ 59 j = z S0 59 j) → (∀ v, CSv t ρ v → nV v (z ρ 59) i + 2 ^ i * (lvb v x5).toNat = nV v (z S0 59) i + 2 ^ r * (lvb v (z σ 58 (b + r))).toNat * nV v (fun j => z σ 58 (a + j)) (i - r)) → J ω m_Wo_multiply (d + 1) 0 0 0 0 11 [(0, .ref 49), (1, .int (zI (a : Int))), (2, .int (zI (b : Int))), (3, .int (zI (w : Int))), (4, .int (zI ((r : Int) + 1)))] [] ρ (q_kv K) := by
      intro i x5 ρ t hi hp htb h5 hl hu hv
      subst hi
      exact kk ρ t (PO_le (PO_tr h hp) (by omega)) h5 hl hu (fun v hvv => ⟨PO_v hp hvv, _, hv v hvv⟩)
    induction k with
    | zero =>
      intro i x5 ρ t hi hri hiw hp htb h0 h5 hx hl hu hv
      exact b_Wo_multiply_24 (PO_E hp) ⟨⟨by omega, by omega⟩, ⟨by omega, by omega⟩, fun _ => fin i x5 ρ t (by omega) hp htb h5 hl hu hv, fun c => absurd c (by omega)⟩
    | succ k ih =>
      intro i x5 ρ t hi hri hiw hp htb h0 h5 hx hl hu hv
      refine b_Wo_multiply_24 (PO_E hp) ⟨⟨by omega, by omega⟩, ⟨by omega, by omega⟩, fun q => fin i x5 ρ t (by omega) hp htb h5 hl hu hv, fun c => ⟨⟨by omega, by omega⟩, ⟨by omega, by omega⟩, ⟨by omega, by omega⟩, ?_⟩⟩
      have i8 : i < w := by omega
      rw [show ((a : Int) + (i : Int) - (r : Int)).toNat = a + (i - r) by omega, show ((b : Int) + (r : Int)).toNat = b + r by omega, Int.toNat_natCast, h5]
      have la : lit t (z σ 58 (a + (i - r))) := by rw [← h5]; exact PO_ll hp (by omega)
      have lb : lit t (z σ 58 (b + r)) := by rw [← h5]; exact PO_ll hp (by omega)
      have lx := hl i (by omega)
      have ex : z ρ 59 i = z S0 59 i := hu i (Nat.le_refl _) (by omega)
      refine k_and (by omega) (PO_E hp) (PO_C hp) (PO_H hp) (by omega) la lb (fun r1 τ1 s1 ht1 hb1 hr1 hRA _ => b_Wo_multiply_73 (fr_E ht1.1.1 (PO_E hp)) ?_)
      have E1 := fr_E ht1.1.1 (PO_E hp)
      have m1 := ht1.1.2.2.1
      refine k_xor (by omega) E1 ht1.1.2.1 ht1.2.1 (by omega) (lit_m lx m1) hr1 (fun r2 τ2 s2 ht2 hb2 hr2 hv2 _ _ => b_Wo_multiply_76 (fr_E ht2.1.1 E1) ?_)
      have E2 := fr_E ht2.1.1 E1
      have m2 := ht2.1.2.2.1
      refine k_xor (by omega) E2 ht2.1.2.1 ht2.2.1 (by omega) hr2 (lit_m hx (by omega)) (fun r3 τ3 s3 ht3 hb3 hr3 hv3 tr3 _ => b_Wo_multiply_95 (fr_E ht3.1.1 E2) ⟨⟨by omega, by omega⟩, ?_⟩)
      have E3 := fr_E ht3.1.1 E2
      have m3 := ht3.1.2.2.1
      have s3b : s3 ≤ sr + (4 * (i - r) + 2) := by
        by_cases c0 : i = r
        · obtain ⟨q1, q2⟩ := h0 c0
          have := tr3 (Or.inr (by omega))
          omega
        · omega
      rw [Int.toNat_natCast]
      have p3 : PO n σ0 s0 (mC w (r + 1)) a S0 sr (zs τ3 59 i r3) s3 := PO_sc (PO_CX (PO_CX (B' := 4 * (i - r) + 2) (PO_CX (B' := 4 * (i - r) + 1) hp ht1 (by omega)) ht2 (by omega)) ht3 (by omega)) (Or.inl rfl)
      refine k_pick (by omega) (PO_E p3) (PO_C p3) (PO_H p3) (by omega) (lit_m hr2 m3) (lit_m hx (by omega)) (lit_m lx (by omega)) (fun r4 τ4 s4 ht4 hb4 hr4 hv4 _ _ _ => b_Wo_multiply_109 (fr_E ht4.1.1 (PO_E p3)) ?_)
      have m4 := ht4.1.2.2.1
      have e59 : ∀ j, z τ4 59 j = if j = i then r3 else z ρ 59 j := fun j => by
        rw [fr_z ht4.1.1 (by decide), z_if (lit_R ht3.1.2.1.2.1.2 hr3), fr_z ht3.1.1 (by decide), fr_z ht2.1.1 (by decide), fr_z ht1.1.1 (by decide)]
        simp only [true_and]
      have e58 : z τ4 58 = z σ 58 := by
        rw [fr_zF ht4.1.1 (by decide), z_oF (by decide), fr_zF ht3.1.1 (by decide), fr_zF ht2.1.1 (by decide), fr_zF ht1.1.1 (by decide)]; exact h5
      refine ih (i + 1) r4 τ4 s4 (by omega) (by omega) (by omega) (PO_CX p3 ht4 (by omega)) (by omega) (fun q => absurd q (by omega)) e58 hr4 (fun j hj => ?_) (fun j q1 q2 => by rw [e59, if_neg (by omega)]; exact hu j (by omega) q2) (fun v hvv => ?_)
      · rw [e59]
        split
        · exact lit_m hr3 m4
        · exact lit_m (hl j hj) (by omega)
      · have c3 : CSv s3 τ3 v := CSv_o (Or.inr (Or.inl rfl)) (CSv_2 hvv ht4)
        have c2 := CSv_2 c3 ht3
        have c1 := CSv_2 c2 ht2
        have w1 := RA_v hRA ht1.1.2.1.2.1.2 (lit_m la m1) (lit_m lb m1) c1
        have w2 := hv2 v c2
        have w3 := hv3 v c3
        have w4 := hv4 v hvv
        rw [w2, w1] at w3 w4
        have e := hv v (CSv_2 c1 ht1)
        rw [nV_s, nV_s, Nat.pow_succ, show i + 1 - r = (i - r) + 1 by omega, nV_s, nV_cf (f := z τ4 59) (g := z ρ 59) i (fun j hj => by rw [e59, if_neg (by omega)]), e59 i, if_pos rfl, w3, w4]
        have f := fa_plus _ _ _ (2 ^ i) (lvb v (z ρ 59 i)) (lvb v (z σ 58 (a + (i - r))) && lvb v (z σ 58 (b + r))) (lvb v x5) e
        rw [ex] at f ⊢
        rw [f]
        have pw : 2 ^ i = 2 ^ r * 2 ^ (i - r) := by rw [← Nat.pow_add]; congr 1; omega
        congr 1
        rw [Nat.mul_add]
        congr 1
        rw [pw]
        cases lvb v (z σ 58 (a + (i - r))) <;> cases lvb v (z σ 58 (b + r)) <;> simp
  refine l w r 1 S0 sr (by omega) (Nat.le_refl _) (by omega) (PO_refl h.1) (by omega) (fun _ => ⟨rfl, rfl⟩) h58 (PO_l1 h) hl0 (fun _ _ _ => rfl) (fun v hv => ?_)
  rw [lvb_1 hv.1, Nat.sub_self]
  simp [nV]
theorem k_multiply {K : q_H → Prop} {b w wa wb : Nat} (hd : 3 ≤ d) (hn : n ≤ 3200) (hab : a + 8 ≤ b) (hb8 : b + 8 ≤ n) (h : PO n σ0 s0 B a π sπ σ s) (w8 : w ≤ 8) (hwa : wa ≤ w ∧ wb ≤ w) (h1 : wdt (fun j => z σ 58 (a + j)) wa) (h2 : wdt (fun j => z σ 58 (b + j)) wb) (hB : s + mC w w < 10240)
    (kk : ∀ τ s', PO n σ0 s0 (B + mC w w) a π sπ τ s' → s ≤ s' → s' ≤ s + mC w w → RO a σ τ → wdt (fun j => z τ 58 (a + j)) w → (∀ v, CSv s' τ v → CSv s σ v ∧ nV v (fun j => z τ 58 (a + j)) 8 = op2 16 w (nV v (fun j => z σ 58 (a + j)) 8) (nV v (fun j => z σ 58 (b + j)) 8)) → K τ) : J ω m_Wo_multiply d 0 0 0 0 0 [(0, .ref 49), (1, .int (zI (a : Int))), (2, .int (zI (b : Int))), (3, .int (zI (w : Int)))] [] σ (q_kv K) := by
  obtain ⟨d, rfl⟩ : ∃ k, d = k + 1 := ⟨d - 1, by omega⟩
  have h1' : wdt (fun j => z σ 58 (a + j)) w := fun j q1 q2 => h1 j (by omega) q2
  have h2' : wdt (fun j => z σ 58 (b + j)) w := fun j q1 q2 => h2 j (by omega) q2
  have l : ∀ (m r : Nat) (ρ : q_H) (t : Nat), w ≤ r + m → r ≤ w → PO n σ0 s0 (mC w r) a σ s ρ t → z ρ 58 = z σ 58 → (∀ j, j < 8 → lit t (z ρ 59 j)) → (∀ j, w ≤ j → j < 8 → z ρ 59 j = 1) → (∀ v, CSv t ρ v → nV v (z ρ 59) w = (nV v (fun j => z σ 58 (a + j)) w * nV v (fun j => z σ 58 (b + j)) r) % 2 ^ w) → J ω m_Wo_multiply (d + 1) 0 0 0 0 11 [(0, .ref 49), (1, .int (zI (a : Int))), (2, .int (zI (b : Int))), (3, .int (zI (w : Int))), (4, .int (zI (r : Int)))] [] ρ (q_kv K) := by
    intro m
    have fin : ∀ (r : Nat) (ρ : q_H) (t : Nat), r = w → PO n σ0 s0 (mC w r) a σ s ρ t → z ρ 58 = z σ 58 → (∀ j, j < 8 → lit t (z ρ 59 j)) → (∀ j, w ≤ j → j < 8 → z ρ 59 j = 1) → (∀ v, CSv t ρ v → nV v (z ρ 59) w = (nV v (fun j => z σ 58 (a + j)) w * nV v (fun j => z σ 58 (b + j)) r) % 2 ^ w) → q_kv K (.inl none) (zcp ρ 59 0 58 a 8) := by
      intro r ρ t hr hp h5 hl hu hv
      subst hr
      have e : ∀ j, j < 8 → z (zcp ρ 59 0 58 a 8) 58 (a + j) = z ρ 59 j := fun j hj => by
        rw [z_cp_in (by omega)]; congr 1; omega
      have wd : wdt (fun j => z (zcp ρ 59 0 58 a 8) 58 (a + j)) r := fun j q1 q2 => by
        show z (zcp ρ 59 0 58 a 8) 58 (a + j) = 1
        rw [e j q2]; exact hu j q1 q2
      have p := PO_cp hp (m := 8) (Nat.le_refl _) hl
      refine ⟨rfl, kk _ t (PO_tr h p) p.2.1 p.2.2.1 (fun j q => PO_r p q) wd (fun v hvv => ⟨PO_v p hvv, ?_⟩)⟩
      rw [nV_w hvv.1 wd 8 w8 (Nat.le_refl _), nV_w hvv.1 h1' 8 w8 (Nat.le_refl _), nV_w hvv.1 h2' 8 w8 (Nat.le_refl _), nV_cf (g := z ρ 59) r (fun j hj => e j (by omega)), hv v (CSv_cp hvv)]
      rfl
    induction m with
    | zero =>
      intro r ρ t hr h8 hp h5 hl hu hv
      refine b_Wo_multiply_11 (PO_E hp) ⟨⟨by omega, by omega⟩, ⟨by omega, by omega⟩, fun _ => ⟨⟨by omega, by omega, by omega, by omega, by omega⟩, ?_⟩, fun c => absurd c (by omega)⟩
      rw [Int.toNat_natCast]
      exact fin r ρ t (by omega) hp h5 hl hu hv
    | succ m ih =>
      intro r ρ t hr h8 hp h5 hl hu hv
      refine b_Wo_multiply_11 (PO_E hp) ⟨⟨by omega, by omega⟩, ⟨by omega, by omega⟩, fun c => ⟨⟨by omega, by omega, by omega, by omega, by omega⟩, ?_⟩, fun c => ?_⟩
      · rw [Int.toNat_natCast]
        exact fin r ρ t (by omega) hp h5 hl hu hv
      · have hmm := mC_mono (w := w) (show r + 1 ≤ w by omega)
        refine k_mulrow (by omega) hn hab hb8 w8 (by omega) hp h5 hl (by omega) (fun ρ2 t2 hp2 h52 hl2 hu2 hv2 => ?_)
        rw [show (r : Int) + 1 = ((r + 1 : Nat) : Int) by omega]
        refine ih (r + 1) ρ2 t2 (by omega) (by omega) hp2 h52 hl2 (fun j q1 q2 => (hu2 j q1 q2).trans (hu j q1 q2)) (fun v hvv => ?_)
        obtain ⟨cv, c, e⟩ := hv2 v hvv
        obtain ⟨rest, hrest⟩ := nV_sp (v := v) (f := fun j => z σ 58 (a + j)) (w - r) w (by omega)
        rw [nV_s]
        exact mul_row hrest (by omega) rfl (hv v cv) rfl e (nV_lt w)
  have f0 : fr [59, 60] σ (zfl σ 59 8 1) := fr_f fr_refl (by simp)
  refine b_Wo_multiply_0 (PO_E h) (l w 0 _ s (by omega) (by omega) (PO_fr (PO_refl h.1) f0) (fr_zF f0 (by decide)) (fun j hj => ?_) (fun j q1 q2 => z_fl ⟨by decide, by decide⟩ q2) (fun v hv => ?_))
  · rw [z_fl ⟨by decide, by decide⟩ hj]; exact PO_l1 h
  · have : ∀ k, k ≤ 8 → nV v (z (zfl σ 59 8 1) 59) k = 0 := fun k hk => (nV_0 k).mpr (fun j hj => by rw [z_fl ⟨by decide, by decide⟩ (by omega), lvb_1 hv.1])
    rw [this w w8]
    simp [nV]
end W5J
