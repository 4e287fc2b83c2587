/-! WORDS: quotients, whole -/
section NyP
variable {v : Nat → Bool} {f : Nat → Int}
theorem nV_app (k : Nat) : ∀ m, nV v f (k + m) = nV v f k + 2 ^ k * nV v (fun j => f (k + j)) m
  | 0 => by simp [nV]
  | m + 1 => by
    rw [← Nat.add_assoc, nV_s, nV_app k m, nV_s, Nat.mul_add, ← Nat.mul_assoc, ← Nat.pow_add]
    omega
theorem nV_dv {w m : Nat} (hm : m < w) : nV v f w / 2 ^ m = 2 * (nV v f w / 2 ^ (m + 1)) + (lvb v (f m)).toNat := by
  have e := nV_tb (v := v) (f := f) w m hm
  rw [Nat.testBit_eq_decide_div_mod_eq] at e
  rw [Nat.pow_succ, ← Nat.div_div_eq_div_mul]
  generalize nV v f w / 2 ^ m = X at *
  cases hb : lvb v (f m) with
  | true => rw [hb] at e; have := of_decide_eq_true e; show X = 2 * (X / 2) + 1; omega
  | false => rw [hb] at e; have := of_decide_eq_false e; show X = 2 * (X / 2) + 0; omega
end NyP
/-- what fits -/
theorem fits_eq {S Y Yl Yh X f u : Nat} (hf : f ≤ 1) (hS : S < 2 ^ u) (hX : X < 2 ^ u) (hY : Y = Yl + 2 ^ u * Yh) (e : X + 2 ^ u * f + Yl = S + 2 ^ u) : (f = 1 ∧ Yh = 0 ↔ Y ≤ S) ∧ (f = 1 → Yh = 0 → X = S - Y) := by
  rcases (show f = 0 ∨ f = 1 by omega) with q | q
  · subst q
    refine ⟨⟨fun h => absurd h.1 (by decide), fun h => ?_⟩, fun h => absurd h (by decide)⟩
    exfalso
    have : Yl ≤ Y := by omega
    omega
  · subst q
    rcases Nat.eq_zero_or_pos Yh with c | c
    · subst c
      refine ⟨⟨fun _ => by omega, fun _ => ⟨rfl, rfl⟩⟩, fun _ _ => by omega⟩
    · have : 2 ^ u ≤ 2 ^ u * Yh := Nat.le_mul_of_pos_right _ c
      exact ⟨⟨fun h => absurd h.2 (by omega), fun h => absurd h (by omega)⟩, fun _ h => absurd h (by omega)⟩
section W7J
variable {ω : q_W} {d s n s0 : Nat} {σ σ0 : q_H} {B a : Nat} {π : q_H} {sπ : Nat}
/-- between rows, k of them done -/
def DVI (a b w k : Nat) (σ ρ : q_H) (t : Nat) : Prop :=
  (∀ j, j + k < w ∨ (w ≤ j ∧ j < 8) → z ρ 58 (a + j) = z σ 58 (a + j)) ∧ (∀ j, j < k → lit t (z ρ 59 j)) ∧ ∀ v, CSv t ρ v → nV v (z ρ 59) k = rsY (nV v (fun j => z σ 58 (b + j)) w) (nV v (fun j => z σ 58 (a + j)) w / 2 ^ (w - k)) ∧ nV v (fun j => z ρ 58 (a + (w - k) + j)) k = qtY (nV v (fun j => z σ 58 (b + j)) w) (nV v (fun j => z σ 58 (a + j)) w / 2 ^ (w - k)) k
theorem k_divrow {K : q_H → Prop} {x1 : Int} {b w k t : Nat} {ρ : q_H} (hd : 2 ≤ d) (hn : n ≤ 3200) (hab : a + 8 ≤ b) (hb8 : b + 8 ≤ n) (w8 : w ≤ 8) (hk : k < w) (h : PO n σ0 s0 (dC w k) a σ s ρ t) (hI : DVI a b w k σ ρ t) (hB : s + dC w (k + 1) < 10240)
    (kk : ∀ (τ : q_H) (t' : Nat), PO n σ0 s0 (dC w (k + 1)) a σ s τ t' → DVI a b w (k + 1) σ τ t' → J ω m_Wo_divide (d + 1) 0 0 0 0 6 [(0, .ref 49), (1, .int (zI x1)), (2, .int (zI (a : Int))), (3, .int (zI (b : Int))), (4, .int (zI (w : Int))), (5, .int (zI ((w : Int) - ((k + 1 : Nat) : Int) - 1)))] [] τ (q_kv K)) :
    J ω m_Wo_divide (d + 1) 0 0 0 0 54 [(0, .ref 49), (1, .int (zI x1)), (2, .int (zI (a : Int))), (3, .int (zI (b : Int))), (4, .int (zI (w : Int))), (5, .int (zI ((w : Int) - ((k + 1 : Nat) : Int)))), (6, .int (zI ((k + 1 : Nat) : Int))), (7, .int (zI 0)), (8, .int (zI 0))] [] (zs (zcp ρ 59 0 59 1 7) 59 0 (z ρ 58 (a + (w - (k + 1))))) (q_kv K) := by
  obtain ⟨hu, hl, hv⟩ := hI
  have dcs : dC w (k + 1) = dC w k + (4 * (k + 1) - 1 + (w - (k + 1))) := rfl
  have pl := h.2.2.1
  have f0 : fr [59, 60] ρ (zs (zcp ρ 59 0 59 1 7) 59 0 (z ρ 58 (a + (w - (k + 1))))) := fr_s (fr_c fr_refl (by simp)) (by simp)
  have hbit : lit t (z ρ 58 (a + (w - (k + 1)))) := PO_ll h (by omega)
  have t10 := PO_s h
  have z0 : z (zs (zcp ρ 59 0 59 1 7) 59 0 (z ρ 58 (a + (w - (k + 1))))) 59 0 = z ρ 58 (a + (w - (k + 1))) := z_s (lit_R t10.2 hbit)
  have zj : ∀ j, j < 7 → z (zs (zcp ρ 59 0 59 1 7) 59 0 (z ρ 58 (a + (w - (k + 1))))) 59 (j + 1) = z ρ 59 j := fun j hj => by
    rw [z_k (by omega), z_cp_in (by omega)]; congr 1; omega
  have e58 : z (zs (zcp ρ 59 0 59 1 7) 59 0 (z ρ 58 (a + (w - (k + 1))))) 58 = z ρ 58 := fr_zF f0 (by decide)
  have p0 : PO n σ0 s0 (dC w k) a σ s (zs (zcp ρ 59 0 59 1 7) 59 0 (z ρ 58 (a + (w - (k + 1))))) t := PO_fr h f0
  have cv0 : ∀ v, CSv t (zs (zcp ρ 59 0 59 1 7) 59 0 (z ρ 58 (a + (w - (k + 1))))) v → CSv t ρ v := fun v q => CSv_fr f0 q
  generalize zs (zcp ρ 59 0 59 1 7) 59 0 (z ρ 58 (a + (w - (k + 1)))) = S0 at *
  have lS : ∀ j, j < k + 1 → lit t (z S0 59 j) := fun j hj => by
    cases j with
    | zero => rw [z0]; exact hbit
    | succ j => rw [zj j (by omega)]; exact hl j (by omega)
  refine k_divless (u := k + 1) hd hn hb8 w8 ⟨by omega, by omega⟩ p0 lS (by omega) (fun x7 ρ1 t1 p1 tb1 h58 h59 l60 lx7 tt1 hv1 => ?_)
  rw [show (b : Int) + ((k + 1 : Nat) : Int) = ((b + (k + 1) : Nat) : Int) by omega, show (w : Int) - ((k + 1 : Nat) : Int) = ((w - (k + 1) : Nat) : Int) by omega]
  have mw : min (w - (k + 1)) (w - (k + 1)) = w - (k + 1) := by omega
  refine k_none (k0 := w - (k + 1)) (w := w - (k + 1)) (by omega) hn (by omega) (by omega) p1 (fun j q1 q2 => absurd q1 (by omega)) (by omega) (fun r2 ρ2 t2 p2 ht2 hb2 hl2 hR2 _ => b_Wo_divide_150 (PO_E p2) ?_)
  rw [mw] at hb2 p2
  have m2 := ht2.1.2.2.1
  refine k_and (by omega) (PO_E p2) (PO_C p2) (PO_H p2) (by omega) (lit_m lx7 m2) hl2 (fun r3 ρ3 t3 ht3 hb3 hl3 hRA hf3 => b_Wo_divide_153 (fr_E ht3.1.1 (PO_E p2)) ?_)
  have m3 := ht3.1.2.2.1
  have tb3 : t3 ≤ t1 + (w - (k + 1)) := by
    by_cases c : w - (k + 1) = 0
    · have r0 : r2 = 0 := by rw [c] at hR2; exact hR2
      have := (hf3 ⟨x7, Or.inl (by rw [r0]; exact tA_0r x7 lx7.1)⟩).1
      omega
    · omega
  have p3 : PO n σ0 s0 (dC w k + (3 * (k + 1) - 1) + (w - (k + 1))) a σ s ρ3 t3 := PO_CX p2 ht3 (by have := p1.2.2.1; omega)
  have z58 : z ρ3 58 = z ρ 58 := by rw [fr_zF ht3.1.1 (by decide), fr_zF ht2.1.1 (by decide), h58, e58]
  have z59 : z ρ3 59 = z S0 59 := by rw [fr_zF ht3.1.1 (by decide), fr_zF ht2.1.1 (by decide), h59]
  have z60 : z ρ3 60 = z ρ1 60 := by rw [fr_zF ht3.1.1 (by decide), fr_zF ht2.1.1 (by decide)]
  rw [show ((w - (k + 1) : Nat) : Int) = (w : Int) - ((k + 1 : Nat) : Int) by omega]
  refine k_divpick (u := k + 1) hd w8 ⟨by omega, by omega⟩ (by omega) p3 (fun j hj => ⟨by rw [z59]; exact lit_m (lS j hj) (by omega), by rw [z60]; exact lit_m (l60 j hj) (by omega)⟩) hl3 (by omega) (fun ρ4 t4 p4 q58 l59 tt4 hv4 => ?_)
  have lx3 : lit t4 r3 := lit_m hl3 tt4
  have t410 := PO_s p4
  refine kk _ t4 (PO_le (PO_58 p4 ⟨by omega, by omega⟩ lx3) (by have := p4.2.2.1; omega)) ⟨fun j hj => ?_, fun j hj => ?_, fun v hvv => ?_⟩
  · rw [z_k (by omega), q58, z58]; exact hu j (by omega)
  · rw [z_o (by decide)]; exact l59 j hj
  · have c4 : CSv t4 ρ4 v := CSv_o (Or.inl rfl) hvv
    obtain ⟨c3, e4⟩ := hv4 v c4
    have c2 := CSv_2 c3 ht3
    have c1 := CSv_2 c2 ht2
    obtain ⟨c0, e1⟩ := hv1 v c1
    have cρ := cv0 v c0
    obtain ⟨eR, eQ⟩ := hv v cρ
    have lits1 : ∀ j, j < w - (k + 1) → lit t2 (z ρ1 58 (b + (k + 1) + j)) := fun j hj => lit_m (PO_ll p1 (by omega)) m2
    have w2 := RNn_v (PO_s p2).2 c2 (w - (k + 1)) 0 r2 lits1 (PO_l0 p2) hR2
    rw [lvb_0 c2.1, Bool.true_and] at w2
    have w3 := RA_v hRA ht3.1.2.1.2.1.2 (lit_m (lit_m lx7 m2) m3) (lit_m hl2 m3) c3
    rw [w2] at w3
    -- numbers
    have rowb : ∀ j, j < 8 → z ρ1 58 (b + j) = z σ 58 (b + j) := fun j hj => PO_r p1 (by omega)
    have eYl : nV v (fun j => z S0 58 (b + j)) (k + 1) = nV v (fun j => z σ 58 (b + j)) (k + 1) := nV_cf _ (fun j hj => by show z S0 58 (b + j) = _; rw [← h58]; exact rowb j (by omega))
    have eYh : nV v (fun j => z ρ1 58 (b + (k + 1) + j)) (w - (k + 1)) = nV v (fun j => z σ 58 (b + (k + 1 + j))) (w - (k + 1)) := nV_cf _ (fun j hj => by show z ρ1 58 (b + (k + 1) + j) = _; rw [Nat.add_assoc]; exact rowb _ (by omega))
    have eY := nV_app (v := v) (f := fun j => z σ 58 (b + j)) (k + 1) (w - (k + 1))
    rw [show k + 1 + (w - (k + 1)) = w by omega] at eY
    have eS := nV_hd (v := v) (f := z S0 59) k
    rw [z0, nV_cf (f := fun j => z S0 59 (j + 1)) (g := z ρ 59) k (fun j hj => zj j (by omega)), eR, show z ρ 58 (a + (w - (k + 1))) = z σ 58 (a + (w - (k + 1))) from hu _ (by omega)] at eS
    have eX := nV_dv (v := v) (f := fun j => z σ 58 (a + j)) (w := w) (m := w - (k + 1)) (by omega)
    rw [show w - (k + 1) + 1 = w - k by omega] at eX
    rw [eYl] at e1
    rw [eYh] at w3
    have f1 : (lvb v x7).toNat ≤ 1 := Bool.toNat_le _
    have x1' : (lvb v (z σ 58 (a + (w - (k + 1))))).toNat ≤ 1 := Bool.toNat_le _
    have fe := fits_eq f1 (nV_lt (v := v) (f := z S0 59) (k + 1)) (nV_lt (v := v) (f := z ρ1 60) (k + 1)) eY e1
    have st := dv_step (Y := nV v (fun j => z σ 58 (b + j)) w) (H := nV v (fun j => z σ 58 (a + j)) w / 2 ^ (w - k)) (k := k) x1' (eS.trans (Nat.add_comm _ _))
    rw [← eX] at st
    rw [z60, z59] at e4
    have q1 : nV v (fun j => z (zs ρ4 58 (a + (w - (k + 1))) r3) 58 (a + (w - (k + 1)) + j)) (k + 1) = (lvb v r3).toNat + 2 * qtY (nV v (fun j => z σ 58 (b + j)) w) (nV v (fun j => z σ 58 (a + j)) w / 2 ^ (w - k)) k := by
      have e0 : z (zs ρ4 58 (a + (w - (k + 1))) r3) 58 (a + (w - (k + 1)) + 0) = r3 := z_s (lit_R t410.2 lx3)
      rw [nV_hd, ← eQ, e0]
      congr 2
      refine nV_cf k (fun j hj => ?_)
      show z (zs ρ4 58 (a + (w - (k + 1))) r3) 58 (a + (w - (k + 1)) + (j + 1)) = z ρ 58 (a + (w - k) + j)
      rw [z_k (by omega), q58, z58]
      congr 1
      omega
    rw [q1, show z (zs ρ4 58 (a + (w - (k + 1))) r3) 59 = z ρ4 59 from z_oF (by decide), e4, w3]
    generalize nV v (z S0 59) (k + 1) = S at *
    generalize nV v (z ρ1 60) (k + 1) = L at *
    generalize nV v (fun j => z σ 58 (b + (k + 1 + j))) (w - (k + 1)) = Yh at *
    generalize nV v (fun j => z σ 58 (b + j)) w = Y at *
    generalize nV v (fun j => z σ 58 (a + j)) w / 2 ^ (w - (k + 1)) = H' at *
    by_cases cf : Y ≤ S
    · obtain ⟨g1, g2⟩ := fe.1.mpr cf
      have gx : lvb v x7 = true := by
        cases hb : lvb v x7 with
        | true => rfl
        | false => rw [hb] at g1; exact absurd g1 (by decide)
      obtain ⟨s1, s2⟩ := st.1 cf
      rw [gx, decide_eq_true g2, s1, s2, fe.2 g1 g2]
      exact ⟨rfl, by show 1 + _ = _; omega⟩
    · obtain ⟨s1, s2⟩ := st.2 (by omega)
      have gf : (lvb v x7 && decide (Yh = 0)) = false := by
        cases hb : lvb v x7 with
        | false => rfl
        | true =>
          rw [Bool.true_and]
          exact decide_eq_false (fun q => cf (fe.1.mp ⟨by rw [hb]; rfl, q⟩))
      rw [gf, s1, s2]
      exact ⟨rfl, by show 0 + _ = _; omega⟩
theorem k_divide {K : q_H → Prop} {x1 : Int} {b w wa wb : Nat} (hd : 3 ≤ d) (hn : n ≤ 3200) (hab : a + 8 ≤ b) (hb8 : b + 8 ≤ n) (i1 : x1 = 17 ∨ x1 = 18) (h : PO n σ0 s0 B a π sπ σ s) (w8 : w ≤ 8) (hwa : wa ≤ w ∧ wb ≤ w) (h1 : wdt (fun j => z σ 58 (a + j)) wa) (h2 : wdt (fun j => z σ 58 (b + j)) wb) (hB : s + dC w w < 10240)
    (kk : ∀ τ s', PO n σ0 s0 (B + dC w w) a π sπ τ s' → s ≤ s' → s' ≤ s + dC w w → RO a σ τ → wdt (fun j => z τ 58 (a + j)) w → (∀ v, CSv s' τ v → CSv s σ v ∧ nV v (fun j => z τ 58 (a + j)) 8 = op2 x1 w (nV v (fun j => z σ 58 (a + j)) 8) (nV v (fun j => z σ 58 (b + j)) 8)) → K τ) : J ω m_Wo_divide d 0 0 0 0 0 [(0, .ref 49), (1, .int (zI x1)), (2, .int (zI (a : Int))), (3, .int (zI (b : Int))), (4, .int (zI (w : Int)))] [] σ (q_kv K) := by
  obtain ⟨d, rfl⟩ : ∃ k, d = k + 1 := ⟨d - 1, by omega⟩
  have h1' : wdt (fun j => z σ 58 (a + j)) w := fun j q1 q2 => h1 j (by omega) q2
  have h2' : wdt (fun j => z σ 58 (b + j)) w := fun j q1 q2 => h2 j (by omega) q2
  have out : ∀ (ρ : q_H) (t : Nat), PO n σ0 s0 (dC w w) a σ s ρ t → DVI a b w w σ ρ t → inR x1 ∧ q_imp (x1 ≠ 18) (q_kv K (.inl none) ρ) ∧ q_imp (x1 = 18) (((0 : Int) ≤ 0 ∧ (0 : Int) ≤ (a : Int) ∧ (0 : Int) ≤ (w : Int) ∧ (0 : Int) + (w : Int) ≤ ((8 : Nat) : Int) ∧ ((a : Int) : Int) + (w : Int) ≤ ((3200 : Nat) : Int)) ∧ q_kv K (.inl none) (zcp ρ 59 0 58 (a : Int).toNat (w : Int).toNat)) := by
    intro ρ t hp hI
    obtain ⟨hu, hl, hv⟩ := hI
    have w0 : w - w = 0 := Nat.sub_self w
    refine ⟨by rcases i1 with q | q <;> (rw [q]; exact ⟨by decide, by decide⟩), fun c => ⟨rfl, ?_⟩, fun c => ⟨⟨by omega, by omega, by omega, by omega, by omega⟩, rfl, ?_⟩⟩
    · have wd : wdt (fun j => z ρ 58 (a + j)) w := fun j q1 q2 => by
        show z ρ 58 (a + j) = 1
        rw [hu j (Or.inr ⟨q1, q2⟩)]; exact h1' j q1 q2
      refine kk ρ t (PO_tr h hp) hp.2.1 hp.2.2.1 (fun j q => PO_r hp q) wd (fun v hvv => ⟨PO_v hp hvv, ?_⟩)
      have e := (hv v hvv).2
      rw [w0, Nat.add_zero, Nat.pow_zero, Nat.div_one] at e
      rw [nV_w hvv.1 wd 8 w8 (Nat.le_refl _), nV_w hvv.1 h1' 8 w8 (Nat.le_refl _), nV_w hvv.1 h2' 8 w8 (Nat.le_refl _), e, show x1 = 17 by omega]
      rfl
    · rw [Int.toNat_natCast, Int.toNat_natCast]
      have p := PO_cp hp (m := w) w8 hl
      have e : ∀ j, j < w → z (zcp ρ 59 0 58 a w) 58 (a + j) = z ρ 59 j := fun j hj => by
        rw [z_cp_in (by omega)]; congr 1; omega
      have wd : wdt (fun j => z (zcp ρ 59 0 58 a w) 58 (a + j)) w := fun j q1 q2 => by
        show z (zcp ρ 59 0 58 a w) 58 (a + j) = 1
        rw [z_cp_out (by omega), hu j (Or.inr ⟨q1, q2⟩)]; exact h1' j q1 q2
      refine kk _ t (PO_tr h p) p.2.1 p.2.2.1 (fun j q => PO_r p q) wd (fun v hvv => ⟨PO_v p hvv, ?_⟩)
      have e2 := (hv v (CSv_cp hvv)).1
      rw [w0, Nat.pow_zero, Nat.div_one] at e2
      rw [nV_w hvv.1 wd 8 w8 (Nat.le_refl _), nV_w hvv.1 h1' 8 w8 (Nat.le_refl _), nV_w hvv.1 h2' 8 w8 (Nat.le_refl _), nV_cf (g := z ρ 59) w (fun j hj => e j hj), e2, c]
      rfl
  have l : ∀ (m k : Nat) (ρ : q_H) (t : Nat), w ≤ k + m → k ≤ w → PO n σ0 s0 (dC w k) a σ s ρ t → DVI a b w k σ ρ t → J ω m_Wo_divide (d + 1) 0 0 0 0 6 [(0, .ref 49), (1, .int (zI x1)), (2, .int (zI (a : Int))), (3, .int (zI (b : Int))), (4, .int (zI (w : Int))), (5, .int (zI ((w : Int) - (k : Int) - 1)))] [] ρ (q_kv K) := by
    intro m
    induction m with
    | zero =>
      intro k ρ t hm hk hp hI
      have kw : k = w := by omega
      subst kw
      exact b_Wo_divide_6 (PO_E hp) ⟨⟨by omega, by omega⟩, fun _ => out ρ t hp hI, fun c => absurd c (by omega)⟩
    | succ m ih =>
      intro k ρ t hm hk hp hI
      refine b_Wo_divide_6 (PO_E hp) ⟨⟨by omega, by omega⟩, fun c => ?_, fun c => ⟨by decide, ⟨by omega, by omega⟩, ?_⟩⟩
      · have kw : k = w := by omega
        subst kw
        exact out ρ t hp hI
      · have hmm := dC_mono (w := w) (show k + 1 ≤ w by omega)
        rw [show ((a : Int) + ((w : Int) - (k : Int) - 1)).toNat = a + (w - (k + 1)) by omega, show (w : Int) - ((w : Int) - (k : Int) - 1) = ((k + 1 : Nat) : Int) by omega, show (w : Int) - (k : Int) - 1 = (w : Int) - ((k + 1 : Nat) : Int) by omega]
        exact k_divrow (by omega) hn hab hb8 w8 (by omega) hp hI (by omega) (fun τ t' hp' hI' => ih (k + 1) τ t' (by omega) (by omega) hp' hI')
  have b0 : PO n σ0 s0 (dC w 0) a σ s σ s := PO_refl h.1
  have I0 : DVI a b w 0 σ σ s := by
    refine ⟨fun _ _ => rfl, fun j hj => absurd hj (Nat.not_lt_zero _), fun v hv => ?_⟩
    have lt := nV_lt (v := v) (f := fun j => z σ 58 (a + j)) w
    rw [Nat.sub_zero, Nat.div_eq_of_lt lt]
    refine ⟨?_, ?_⟩
    · show 0 = rsY _ 0
      unfold rsY
      split
      · rfl
      · rw [Nat.zero_mod]
    · show 0 = qtY _ 0 0
      unfold qtY
      split
      · rfl
      · rw [Nat.zero_div]
  have := l w 0 σ s (by omega) (by omega) b0 I0
  rw [show (w : Int) - ((0 : Nat) : Int) - 1 = (w : Int) - 1 by omega] at this
  exact b_Wo_divide_0 (PO_E h) this
end W7J
