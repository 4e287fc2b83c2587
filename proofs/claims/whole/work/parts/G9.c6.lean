/-! WORDS: quotients -/
def rsY (Y H : Nat) : Nat := if Y = 0 then H else H % Y
def qtY (Y H k : Nat) : Nat := if Y = 0 then 2 ^ k - 1 else H / Y
theorem dv_step {Y H x S k : Nat} (hx : x ≤ 1) (hS : S = 2 * rsY Y H + x) : (Y ≤ S → rsY Y (2 * H + x) = S - Y ∧ qtY Y (2 * H + x) (k + 1) = 2 * qtY Y H k + 1) ∧ (S < Y → rsY Y (2 * H + x) = S ∧ qtY Y (2 * H + x) (k + 1) = 2 * qtY Y H k) := by
  by_cases c : Y = 0
  · subst c
    have e : rsY 0 H = H := by unfold rsY; rw [if_pos rfl]
    have e2 : rsY 0 (2 * H + x) = 2 * H + x := by unfold rsY; rw [if_pos rfl]
    rw [e] at hS
    have p := Nat.two_pow_pos k
    refine ⟨fun _ => ⟨by rw [e2]; omega, ?_⟩, fun q => absurd q (by omega)⟩
    unfold qtY
    rw [if_pos rfl, if_pos rfl, Nat.pow_succ]
    omega
  · have yp : 0 < Y := by omega
    have e : rsY Y H = H % Y := by unfold rsY; rw [if_neg c]
    have e2 : rsY Y (2 * H + x) = (2 * H + x) % Y := by unfold rsY; rw [if_neg c]
    have q1 : qtY Y H k = H / Y := by unfold qtY; rw [if_neg c]
    have q2 : qtY Y (2 * H + x) (k + 1) = (2 * H + x) / Y := by unfold qtY; rw [if_neg c]
    rw [e] at hS
    rw [e2, q1, q2]
    have lt := Nat.mod_lt H yp
    have dm := Nat.div_add_mod H Y
    have hh : 2 * H + x = S + Y * (2 * (H / Y)) := by
      have : Y * (2 * (H / Y)) = 2 * (Y * (H / Y)) := by ac_rfl
      omega
    rw [hh, Nat.add_mul_mod_self_left, Nat.add_mul_div_left _ _ yp]
    refine ⟨fun q => ?_, fun q => ?_⟩
    · have a : S % Y = S - Y := by rw [Nat.mod_eq_sub_mod q, Nat.mod_eq_of_lt (by omega)]
      have b : S / Y = 1 := by
        rw [Nat.div_eq_sub_div yp q, Nat.div_eq_of_lt (by omega)]
      exact ⟨a, by rw [b]; omega⟩
    · rw [Nat.mod_eq_of_lt q, Nat.div_eq_of_lt q]
      exact ⟨rfl, by omega⟩
def dC (w : Nat) : Nat → Nat
  | 0 => 0
  | k + 1 => dC w k + (4 * (k + 1) - 1 + (w - (k + 1)))
theorem dC_le : ∀ w, w ≤ 8 → dC w w ≤ 3 * (w * w) := by decide
theorem dC_mono {w : Nat} : ∀ {r q : Nat}, r ≤ q → dC w r ≤ dC w q
  | r, 0, h => by rw [show r = 0 by omega]; exact Nat.le_refl _
  | r, q + 1, h => by
    by_cases c : r = q + 1
    · rw [c]; exact Nat.le_refl _
    · have := dC_mono (w := w) (show r ≤ q by omega)
      show dC w r ≤ dC w q + (4 * (q + 1) - 1 + (w - (q + 1)))
      omega
section W6J
variable {ω : q_W} {d s n s0 : Nat} {σ σ0 : q_H} {B a : Nat} {π : q_H} {sπ : Nat}
/-- the row is lessened by the divisor -/
theorem k_divless {K : q_H → Prop} {x1 : Int} {b w u C sr : Nat} {S0 : q_H} (hd : 2 ≤ d) (hn : n ≤ 3200) (hb8 : b + 8 ≤ n) (w8 : w ≤ 8) (hu : 1 ≤ u ∧ u ≤ w) (h : PO n σ0 s0 C a σ s S0 sr) (hl0 : ∀ j, j < u → lit sr (z S0 59 j)) (hB : sr + (3 * u - 1) < 10240)
    (kk : ∀ (x7 : Int) (ρ : q_H) (t : Nat), PO n σ0 s0 (C + (3 * u - 1)) a σ s ρ t → t ≤ sr + (3 * u - 1) → z ρ 58 = z S0 58 → z ρ 59 = z S0 59 → (∀ j, j < u → lit t (z ρ 60 j)) → lit t x7 → sr ≤ t → (∀ v, CSv t ρ v → CSv sr S0 v ∧ nV v (z ρ 60) u + 2 ^ u * (lvb v x7).toNat + nV v (fun j => z S0 58 (b + j)) u = nV v (z S0 59) u + 2 ^ u) → J ω m_Wo_none d 0 0 0 0 0 [(0, .ref 49), (1, .int (zI ((b : Int) + (u : Int)))), (2, .int (zI ((w : Int) - (u : Int))))] [] ρ (q_ki (fun v τ => J ω m_Wo_divide (d + 1) 0 0 0 0 150 [(0, .ref 49), (1, .int (zI x1)), (2, .int (zI (a : Int))), (3, .int (zI (b : Int))), (4, .int (zI (w : Int))), (5, .int (zI ((w : Int) - (u : Int)))), (6, .int (zI (u : Int)))] [.int (zI v), .int (zI x7), .ref 50] τ (q_kv K)))) :
    J ω m_Wo_divide (d + 1) 0 0 0 0 54 [(0, .ref 49), (1, .int (zI x1)), (2, .int (zI (a : Int))), (3, .int (zI (b : Int))), (4, .int (zI (w : Int))), (5, .int (zI ((w : Int) - (u : Int)))), (6, .int (zI (u : Int))), (7, .int (zI 0)), (8, .int (zI 0))] [] S0 (q_kv K) := by
  have srl := h.2.2.1
  have l : ∀ (k i : Nat) (x7 : Int) (ρ : q_H) (t : Nat), u ≤ i + k → i ≤ u → PO n σ0 s0 (3 * u - 1) a S0 sr ρ t → (t ≤ sr + (3 * i - 1)) → (i = 0 → x7 = 0 ∧ t = sr) → z ρ 58 = z S0 58 → z ρ 59 = z S0 59 → lit t x7 → (∀ j, j < i → lit t (z ρ 60 j)) → (∀ v, CSv t ρ v → nV v (z ρ 60) i + 2 ^ i * (lvb v x7).toNat + nV v (fun j => z S0 58 (b + j)) i = nV v (z S0 59) i + 2 ^ i) → J ω m_Wo_divide (d + 1) 0 0 0 0 54 [(0, .ref 49), (1, .int (zI x1)), (2, .int (zI (a : Int))), (3, .int (zI (b : Int))), (4, .int (zI (w : Int))), (5, .int (zI ((w : Int) - (u : Int)))), (6, .int (zI (u : Int))), (7, .int (zI x7)), (8, .int (zI (i : Int)))] [] ρ (q_kv K) := by
    intro k
    have fin : ∀ (i : Nat) (x7 : Int) (ρ : q_H) (t : Nat), i = u → PO n σ0 s0 (3 * u - 1) a S0 sr ρ t → (t ≤ sr + (3 * i - 1)) → z ρ 58 = z S0 58 → z ρ 59 = z S0 59 → lit t x7 → (∀ j, j < i → lit t (z ρ 60 j)) → (∀ v, CSv t ρ v → nV v (z ρ 60) i + 2 ^ i * (lvb v x7).toNat + nV v (fun j => z S0 58 (b + j)) i = nV v (z S0 59) i + 2 ^ i) → J ω m_Wo_none d 0 0 0 0 0 [(0, .ref 49), (1, .int (zI ((b : Int) + (u : Int)))), (2, .int (zI ((w : Int) - (u : Int))))] [] ρ (q_ki (fun v τ => J ω m_Wo_divide (d + 1) 0 0 0 0 150 [(0, .ref 49), (1, .int (zI x1)), (2, .int (zI (a : Int))), (3, .int (zI (b : Int))), (4, .int (zI (w : Int))), (5, .int (zI ((w : Int) - (u : Int)))), (6, .int (zI (u : Int)))] [.int (zI v), .int (zI x7), .ref 50] τ (q_kv K))) := by
      intro i x7 ρ t hi hp htb h5 h59 hx hl hv
      subst hi
      exact kk x7 ρ t (PO_tr h hp) htb h5 h59 hl hx hp.2.1 (fun v hvv => ⟨PO_v hp hvv, hv v hvv⟩)
    induction k with
    | zero =>
      intro i x7 ρ t hi hiu hp htb h0 h5 h59 hx hl hv
      exact b_Wo_divide_54 (PO_E hp) ⟨⟨by omega, by omega⟩, ⟨by omega, by omega⟩, fun _ => fin i x7 ρ t (by omega) hp htb h5 h59 hx hl hv, fun c => absurd c (by omega)⟩
    | succ k ih =>
      intro i x7 ρ t hi hiu hp htb h0 h5 h59 hx hl hv
      refine b_Wo_divide_54 (PO_E hp) ⟨⟨by omega, by omega⟩, ⟨by omega, by omega⟩, fun c => fin i x7 ρ t (by omega) hp htb h5 h59 hx hl hv, fun c => ⟨⟨by omega, by omega⟩, ⟨by omega, by omega⟩, ?_⟩⟩
      have iu : i < u := by omega
      rw [Int.toNat_natCast, show ((b : Int) + (i : Int)).toNat = b + i by omega, h5, h59]
      have t10 := PO_s hp
      have lx : lit t (z S0 59 i) := lit_m (hl0 i iu) hp.2.1
      have lb : lit t (z S0 58 (b + i)) := by rw [← h5]; exact PO_ll hp (by omega)
      have lbx := (lit_x t10.2 lb).1
      refine k_xor (by omega) (PO_E hp) (PO_C hp) (PO_H hp) (by omega) lx lbx (fun r1 τ1 s1 ht1 hb1 hr1 hv1 _ _ => b_Wo_divide_90 (fr_E ht1.1.1 (PO_E hp)) ?_)
      have E1 := fr_E ht1.1.1 (PO_E hp)
      have m1 := ht1.1.2.2.1
      refine k_xor (by omega) E1 ht1.1.2.1 ht1.2.1 (by omega) hr1 (lit_m hx m1) (fun r2 τ2 s2 ht2 hb2 hr2 hv2 tr2 _ => b_Wo_divide_109 (fr_E ht2.1.1 E1) ⟨⟨by omega, by omega⟩, ?_⟩)
      have m2 := ht2.1.2.2.1
      have s2b : s2 ≤ sr + (3 * i + 1) := by
        by_cases c0 : i = 0
        · obtain ⟨q1, q2⟩ := h0 c0
          have := tr2 (Or.inr (by omega))
          omega
        · omega
      rw [Int.toNat_natCast]
      have p2 : PO n σ0 s0 (3 * u - 1) a S0 sr (zs τ2 60 i r2) s2 := PO_sc (PO_CX (PO_CX (B' := 3 * i + 1) hp ht1 (by omega)) ht2 (by omega)) (Or.inr rfl)
      refine k_pick (by omega) (PO_E p2) (PO_C p2) (PO_H p2) (by omega) (lit_m hr1 m2) (lit_m hx (by omega)) (lit_m lx (by omega)) (fun r3 τ3 s3 ht3 hb3 hr3 hv3 _ _ _ => b_Wo_divide_123 (fr_E ht3.1.1 (PO_E p2)) ?_)
      have m3 := ht3.1.2.2.1
      have e60 : ∀ j, z τ3 60 j = if j = i then r2 else z ρ 60 j := fun j => by
        rw [fr_z ht3.1.1 (by decide), z_if (lit_R ht2.1.2.1.2.1.2 hr2), fr_z ht2.1.1 (by decide), fr_z ht1.1.1 (by decide)]
        simp only [true_and]
      have e58 : z τ3 58 = z S0 58 := by
        rw [fr_zF ht3.1.1 (by decide), z_oF (by decide), fr_zF ht2.1.1 (by decide), fr_zF ht1.1.1 (by decide)]; exact h5
      have e59 : z τ3 59 = z S0 59 := by
        rw [fr_zF ht3.1.1 (by decide), z_oF (by decide), fr_zF ht2.1.1 (by decide), fr_zF ht1.1.1 (by decide)]; exact h59
      rw [show (i : Int) + 1 = ((i + 1 : Nat) : Int) by omega]
      refine ih (i + 1) r3 τ3 s3 (by omega) (by omega) (PO_CX p2 ht3 (by omega)) (by omega) (fun q => absurd q (by omega)) e58 e59 hr3 (fun j hj => ?_) (fun v hvv => ?_)
      · rw [e60]
        split
        · exact lit_m hr2 m3
        · exact lit_m (hl j (by omega)) (by omega)
      · have c2 : CSv s2 τ2 v := CSv_o (Or.inr (Or.inr rfl)) (CSv_2 hvv ht3)
        have c1 := CSv_2 c2 ht2
        have w1 := hv1 v c1
        have w2 := hv2 v c2
        have w3 := hv3 v hvv
        rw [lvb_x lb.1 (by have := lb.2; omega)] at w1
        rw [w1] at w2 w3
        have e := hv v (CSv_2 c1 ht1)
        rw [nV_s, nV_s, nV_s, Nat.pow_succ, nV_cf (f := z τ3 60) (g := z ρ 60) i (fun j hj => by rw [e60, if_neg (by omega)]), e60 i, if_pos rfl, w2, w3]
        exact fa_minus _ _ _ (2 ^ i) (lvb v (z S0 59 i)) (lvb v (z S0 58 (b + i))) (lvb v x7) e
  exact l u 0 0 S0 sr (by omega) (by omega) (PO_refl h.1) (by omega) (fun _ => ⟨rfl, rfl⟩) rfl rfl (PO_l0 h) (fun j hj => absurd hj (Nat.not_lt_zero _)) (fun v hv => by rw [lvb_0 hv.1]; simp [nV])
/-- which of the two rows stays -/
theorem k_divpick {K : q_H → Prop} {x1 x7 : Int} {b w u C sr : Nat} {S0 : q_H} (hd : 2 ≤ d) (w8 : w ≤ 8) (hu : 1 ≤ u ∧ u ≤ w) (han : a + 8 ≤ 3200) (h : PO n σ0 s0 C a σ s S0 sr) (hl0 : ∀ j, j < u → lit sr (z S0 59 j) ∧ lit sr (z S0 60 j)) (hx7 : lit sr x7) (hB : sr + u < 10240)
    (kk : ∀ (ρ : q_H) (t : Nat), PO n σ0 s0 (C + u) a σ s ρ t → z ρ 58 = z S0 58 → (∀ j, j < u → lit t (z ρ 59 j)) → sr ≤ t → (∀ v, CSv t ρ v → CSv sr S0 v ∧ nV v (z ρ 59) u = if lvb v x7 then nV v (z S0 60) u else nV v (z S0 59) u) → J ω m_Wo_divide (d + 1) 0 0 0 0 6 [(0, .ref 49), (1, .int (zI x1)), (2, .int (zI (a : Int))), (3, .int (zI (b : Int))), (4, .int (zI (w : Int))), (5, .int (zI ((w : Int) - (u : Int) - 1)))] [] (zs ρ 58 (a + (w - u)) x7) (q_kv K)) :
    J ω m_Wo_divide (d + 1) 0 0 0 0 158 [(0, .ref 49), (1, .int (zI x1)), (2, .int (zI (a : Int))), (3, .int (zI (b : Int))), (4, .int (zI (w : Int))), (5, .int (zI ((w : Int) - (u : Int)))), (6, .int (zI (u : Int))), (7, .int (zI x7)), (8, .int (zI 0))] [] S0 (q_kv K) := by
  have l : ∀ (k i : Nat) (ρ : q_H) (t : Nat), u ≤ i + k → i ≤ u → PO n σ0 s0 i a S0 sr ρ t → z ρ 58 = z S0 58 → z ρ 60 = z S0 60 → (∀ j, i ≤ j → z ρ 59 j = z S0 59 j) → (∀ j, j < u → lit t (z ρ 59 j)) → (∀ v, CSv t ρ v → ∀ j, j < i → lvb v (z ρ 59 j) = if lvb v x7 then lvb v (z S0 60 j) else lvb v (z S0 59 j)) → J ω m_Wo_divide (d + 1) 0 0 0 0 158 [(0, .ref 49), (1, .int (zI x1)), (2, .int (zI (a : Int))), (3, .int (zI (b : Int))), (4, .int (zI (w : Int))), (5, .int (zI ((w : Int) - (u : Int)))), (6, .int (zI (u : Int))), (7, .int (zI x7)), (8, .int (zI (i : Int)))] [] ρ (q_kv K) := by
    intro k
    have fin : ∀ (i : Nat) (ρ : q_H) (t : Nat), i = u → PO n σ0 s0 i a S0 sr ρ t → z ρ 58 = z S0 58 → (∀ j, j < u → lit t (z ρ 59 j)) → (∀ v, CSv t ρ v → ∀ j, j < i → lvb v (z ρ 59 j) = if lvb v x7 then lvb v (z S0 60 j) else lvb v (z S0 59 j)) → J ω m_Wo_divide (d + 1) 0 0 0 0 6 [(0, .ref 49), (1, .int (zI x1)), (2, .int (zI (a : Int))), (3, .int (zI (b : Int))), (4, .int (zI (w : Int))), (5, .int (zI ((w : Int) - (u : Int) - 1)))] [] (zs ρ 58 ((a : Int) + ((w : Int) - (u : Int))).toNat x7) (q_kv K) := by
      intro i ρ t hi hp h5 hl hv
      subst hi
      rw [show ((a : Int) + ((w : Int) - (i : Int))).toNat = a + (w - i) by omega]
      exact kk ρ t (PO_tr h hp) h5 hl hp.2.1 (fun v hvv => ⟨PO_v hp hvv, nV_ite (lvb v x7) i (hv v hvv)⟩)
    induction k with
    | zero =>
      intro i ρ t hi hiu hp h5 h60 hu9 hl hv
      exact b_Wo_divide_158 (PO_E hp) ⟨⟨by omega, by omega⟩, ⟨by omega, by omega⟩, fun _ => ⟨⟨by omega, by omega⟩, fin i ρ t (by omega) hp h5 hl hv⟩, fun c => absurd c (by omega)⟩
    | succ k ih =>
      intro i ρ t hi hiu hp h5 h60 hu9 hl hv
      refine b_Wo_divide_158 (PO_E hp) ⟨⟨by omega, by omega⟩, ⟨by omega, by omega⟩, fun c => ⟨⟨by omega, by omega⟩, fin i ρ t (by omega) hp h5 hl hv⟩, fun c => ⟨⟨by omega, by omega⟩, ?_⟩⟩
      have iu : i < u := by omega
      rw [Int.toNat_natCast, h60, hu9 i (Nat.le_refl _)]
      have pl := hp.2.2.1
      have l1 := lit_m (hl0 i iu).1 hp.2.1
      have l2 := lit_m (hl0 i iu).2 hp.2.1
      refine k_pick (by omega) (PO_E hp) (PO_C hp) (PO_H hp) (by omega) (lit_m hx7 hp.2.1) l2 l1 (fun r τ s' ht hb hr hvp _ _ _ => b_Wo_divide_194 (fr_E ht.1.1 (PO_E hp)) ⟨⟨by omega, by omega⟩, ?_⟩)
      rw [Int.toNat_natCast, show (i : Int) + 1 = ((i + 1 : Nat) : Int) by omega]
      have e59 : ∀ j, z (zs τ 59 i r) 59 j = if j = i then r else z ρ 59 j := fun j => by
        rw [z_if (lit_R ht.1.2.1.2.1.2 hr), fr_z ht.1.1 (by decide)]
        simp only [true_and]
      refine ih (i + 1) _ s' (by omega) (by omega) (PO_sc (PO_CX hp ht (by omega)) (Or.inl rfl)) (by rw [z_oF (by decide), fr_zF ht.1.1 (by decide)]; exact h5) (by rw [z_oF (by decide), fr_zF ht.1.1 (by decide)]; exact h60) (fun j hj => by rw [e59, if_neg (by omega)]; exact hu9 j (by omega)) (fun j hj => ?_) (fun v hvv j hj => ?_)
      · rw [e59]
        split
        · exact hr
        · exact lit_m (hl j hj) ht.1.2.2.1
      · have c1 : CSv s' τ v := CSv_o (Or.inr (Or.inl rfl)) hvv
        rw [e59]
        by_cases q : j = i
        · rw [if_pos q, q]; exact hvp v c1
        · rw [if_neg q]; exact hv v (CSv_2 c1 ht) j (by omega)
  exact l u 0 S0 sr (by omega) (by omega) (PO_refl h.1) rfl rfl (fun _ _ => rfl) (fun j hj => (hl0 j hj).1) (fun v hv j hj => absurd hj (by omega))
end W6J
