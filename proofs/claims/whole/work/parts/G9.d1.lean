/-! THE ENCODER: every EXPR's words are worth what it is worth -/
section EwJ
variable {ω : q_W} {d p V s0 x2 : Nat} {σ0 : q_H} {WI WU : Nat → Int} {K : q_H → Prop}
theorem itA_one {q : Nat} {u w x : Int} (h : itA p σ0 q [(u, x, w)]) : z σ0 (p + 10) q = u ∧ z σ0 (p + 11) q = x ∧ z σ0 (p + 12) q = w := by
  have := h 0 (u, x, w) rfl
  rwa [Nat.add_zero] at this
theorem ev_leaf {it : q_It} (hd : 3 ≤ d) (h4k : x2 ≤ 4096) (he : EB0 p V WI WU σ0 s0) (hc : cI WI WU V it) (hk : 23 ≤ it.1 ∧ it.1 ≤ 25) : EQ8 ω d p σ0 s0 x2 K ([it], it.2.2, 0, none) := by
  intro tp q n t r ρ hA hx hb hw hn hn2 hRm kk
  have h0 := hB_0 hk.1 hb
  have hp := he.1
  have fS := hw.1.2.2.2.1
  have r1 : q_r ρ 48 1 = p := by rw [fr_r fS]; exact he.2.1
  have ep : ∀ o, p ≤ o → o ≤ p + 12 → z ρ o = z σ0 o := fun o h1 h2 => fr_zF fS (by unfold SWo; simp; omega)
  have hx' : q + 1 ≤ x2 := hx
  obtain ⟨g1, g2, g3⟩ := itA_one (u := it.1) (x := it.2.1) (w := it.2.2) hA
  refine b_En_evaluate_5 hp r1 hw.1.1 ⟨⟨by omega, by omega⟩, ⟨by omega, by omega⟩, fun c => absurd c (by omega), fun _ => ⟨⟨by omega, by omega⟩, ?_⟩⟩
  rw [Int.toNat_natCast, ep (p + 10) (by omega) (by omega), ep (p + 11) (by omega) (by omega), g1, g2]
  refine ⟨fun c => absurd c (by omega), fun _ => ⟨⟨by omega, by omega⟩, fun c => absurd c (by omega), fun _ => ?_⟩⟩
  refine k_fetch (by omega) he hw hn hn2 h0.1 hk hc (fun τ h1 h2 h3 h4 h5 => b_En_evaluate_61 hp (by rw [fr_r h1.1.2.2.2.1]; exact he.2.1) h1.1.1 ?_)
  rw [show (tp : Int) + 1 = ((tp + 1 : Nat) : Int) by omega, show (q : Int) + 1 = ((q + [it].length : Nat) : Int) by simp]
  exact kk τ _ t h1 (by omega) (by omega) (by omega) (Nat.le_refl _) (by omega) h2 h3 h4 (fun it' e => by
    have : it = it' := by simpa using e
    rw [← this]; exact h5)
theorem ev_two {u : Int} {a b : q_Ex} {Φ : q_It → Prop} (hd : 6 ≤ d) (h4k : x2 ≤ 4096) (he : EB0 p V WI WU σ0 s0) (hu : 1 ≤ u ∧ u ≤ 18) (pa : EPl Φ a) (pb : EPl Φ b) (ha : EQ8 ω d p σ0 s0 x2 K a) (hb : EQ8 ω d p σ0 s0 x2 K b) : EQ8 ω d p σ0 s0 x2 K (eB u a b) := by
  intro tp q n t r ρ hA hx hh hw hn hn2 hRm kk
  obtain ⟨-, ln, -⟩ := EPl_two hu pa pb
  obtain ⟨a1, a2, a3, -, -⟩ := pa
  obtain ⟨b1, b2, b3, -, -⟩ := pb
  have hp := he.1
  have wk : (eB u a b).2.2.1 = a.2.2.1 + b.2.2.1 + oP u (max a.2.1 b.2.1) := rfl
  have wd : (eB u a b).2.1 = oW u a.2.1 b.2.1 := rfl
  obtain ⟨A1, A2⟩ := itA_app (show itA p σ0 q (a.1 ++ b.1 ++ [(u, 0, oW u a.2.1 b.2.1)]) from hA)
  obtain ⟨A3, A4⟩ := itA_app A1
  obtain ⟨h1, e1, e2⟩ := hB_un _ _ _ _ (show hB (a.1 ++ b.1 ++ [(u, 0, oW u a.2.1 b.2.1)]) tp = some r from hh)
  obtain ⟨h0, e3, e4⟩ := hB_un _ _ _ _ e1
  have q1 := a3 _ _ e3
  subst q1
  have q2 := b3 _ _ e4
  subst q2
  have rg := oW_rng hu a1 b1
  rw [ln] at hx
  rw [wk] at hRm
  refine ha tp q n t _ ρ A3 (by omega) e3 hw hn hn2 (by omega) (fun τ1 n1 t1 w1 l1 l2 l3 l4 l5 ro1 wd1 v1 _ => ?_)
  refine hb (tp + 1) (q + a.1.length) n1 t1 _ τ1 A4 (by omega) e4 w1 (by omega) l3 (by omega) (fun τ2 n2 t2 w2 m1 m2 m3 m4 m5 ro2 wd2 v2 _ => ?_)
  rw [show 8 * (tp + 1) = 8 * tp + 8 by omega] at m2 ro2 wd2 v2
  rw [List.length_append] at A2
  rw [← Nat.add_assoc] at A2
  obtain ⟨g1, g2, g3⟩ := itA_one A2
  have fS := w2.1.2.2.2.1
  have r1 : q_r τ2 48 1 = p := by rw [fr_r fS]; exact he.2.1
  have ep : ∀ o, p ≤ o → o ≤ p + 12 → z τ2 o = z σ0 o := fun o h1 h2 => fr_zF fS (by unfold SWo; simp; omega)
  have ra : ∀ j, j < 8 → z τ2 58 (8 * tp + j) = z τ1 58 (8 * tp + j) := fun j hj => ro2 _ (by omega)
  have wda : wdt (fun j => z τ2 58 (8 * tp + j)) a.2.1.toNat := wdt_cg wd1 ra
  have c16 : ((tp + 1 + 1 : Nat) : Int) * 8 - 16 = ((8 * tp : Nat) : Int) := by omega
  have c8 : ((tp + 1 + 1 : Nat) : Int) * 8 - 8 = ((8 * tp + 8 : Nat) : Int) := by omega
  have pe : oP u ((max a.2.1.toNat b.2.1.toNat : Nat) : Int) = oP u (max a.2.1 b.2.1) := by rw [mxc _ _ a1.1 b1.1]
  have wI : (((oW u a.2.1 b.2.1).toNat : Nat) : Int) = oW u a.2.1 b.2.1 := by omega
  have ca : ((a.2.1.toNat : Nat) : Int) = a.2.1 := by omega
  have cb : ((b.2.1.toNat : Nat) : Int) = b.2.1 := by omega
  have fin : ∀ (τ : q_H) (s' : Nat), PO n2 σ0 s0 (0 + 3 * oP u (max a.2.1 b.2.1)) (8 * tp) τ2 t2 τ s' → t2 ≤ s' → s' ≤ t2 + 3 * oP u (max a.2.1 b.2.1) → RO (8 * tp) τ2 τ → wdt (fun j => z τ 58 (8 * tp + j)) (oW u a.2.1 b.2.1).toNat → (∀ v, CSv s' τ v → CSv t2 τ2 v ∧ nV v (fun j => z τ 58 (8 * tp + j)) 8 = op2 u (oW u a.2.1 b.2.1).toNat (nV v (fun j => z τ2 58 (8 * tp + j)) 8) (nV v (fun j => z τ2 58 (8 * tp + 8 + j)) 8)) → J ω m_En_evaluate (d + 1) 0 0 0 0 5 [(0, .ref 48), (2, .int (zI (x2 : Int))), (3, .int (zI (((tp + 1 + 1 : Nat) : Int) - 1))), (4, .int (zI (((q + a.1.length + b.1.length : Nat) : Int) + 1)))] [] τ (q_kv K) := by
    intro τ s' hpo k1 k2 hro hwd hv
    rw [show ((tp + 1 + 1 : Nat) : Int) - 1 = ((tp + 1 : Nat) : Int) by omega, show ((q + a.1.length + b.1.length : Nat) : Int) + 1 = ((q + (eB u a b).1.length : Nat) : Int) by rw [ln]; omega]
    refine kk τ n2 s' hpo.1 (by omega) (by omega) (by omega) (by omega) (by rw [wk]; omega) (fun j hj => ?_) hwd (fun v cv => ?_) (fun it e => ?_)
    · rw [hro j (Or.inl hj), ro2 j (by omega), ro1 j hj]
    · obtain ⟨c2, ev⟩ := hv v cv
      obtain ⟨c1, evb⟩ := v2 v c2
      obtain ⟨c0, eva⟩ := v1 v c1
      refine ⟨c0, ?_⟩
      rw [ev, nV_cf 8 ra]
      exact EV_two eva evb hu
    · have : (eB u a b).1.length = 1 := by rw [e]; rfl
      omega
  refine b_En_evaluate_5 hp r1 w2.1.1 ⟨⟨by omega, by omega⟩, ⟨by omega, by omega⟩, fun c => absurd c (by omega), fun _ => ⟨⟨by omega, by omega⟩, ?_⟩⟩
  rw [Int.toNat_natCast, ep (p + 10) (by omega) (by omega), g1]
  refine ⟨fun _ => ?_, fun c => absurd c (by omega)⟩
  refine b_En_evaluate_67 hp r1 w2.1.1 ⟨⟨by omega, by omega⟩, fun _ => ?_, fun c => absurd c (by omega)⟩
  refine b_En_evaluate_107 hp r1 w2.1.1 ⟨⟨by omega, by omega⟩, fun _ => ?_, fun c => absurd c (by omega)⟩
  refine b_En_evaluate_146 hp r1 w2.1.1 ⟨⟨by omega, by omega⟩, fun c => ?_, fun c => ⟨⟨by omega, by omega⟩, fun c2 => absurd c2 (by omega), fun _ => ⟨⟨by omega, by omega⟩, ?_⟩⟩⟩
  · refine b_En_evaluate_193 hp r1 w2.1.1 ⟨⟨by omega, by omega⟩, fun c2 => absurd c2 (by omega), fun _ => ?_⟩
    rw [c16, c8]
    have pe1 : oP u (max a.2.1 b.2.1) = max a.2.1.toNat b.2.1.toNat := by rw [← pe, oP_1 (by omega)]; omega
    rw [pe1] at fin hRm
    refine k_logic (w := (oW u a.2.1 b.2.1).toNat) (wa := a.2.1.toNat) (wb := b.2.1.toNat) (B := 0) (π := τ2) (sπ := t2) (by omega) (by omega) (by omega) (by omega) (by omega) (PO_refl w2) (by omega) (by rw [ca, cb]; exact wI) wda wd2 (by omega) (fun τ s' k1 k2 k3 k4 k5 k6 => b_En_evaluate_217 hp (by rw [fr_r k1.1.1.2.2.2.1]; exact he.2.1) (PO_E k1) (fin τ s' k1 k2 k3 k4 k5 k6))
  · rw [c16, c8, Int.toNat_natCast, ep (p + 12) (by omega) (by omega), g3, ← wI]
    rw [← pe] at fin hRm
    refine k_arithmetic (w := (oW u a.2.1 b.2.1).toNat) (wa := a.2.1.toNat) (wb := b.2.1.toNat) (B := 0) (π := τ2) (sπ := t2) (by omega) (by omega) (by omega) (by omega) (by omega) (PO_refl w2) (by omega) (by rw [ca, cb]; exact wI) wda wd2 (by omega) (fun τ s' k1 k2 k3 k4 k5 k6 => b_En_evaluate_187 hp (by rw [fr_r k1.1.1.2.2.2.1]; exact he.2.1) (PO_E k1) (fin τ s' k1 k2 k3 k4 k5 k6))
theorem ev_one {u : Int} {a : q_Ex} {Φ : q_It → Prop} (hd : 6 ≤ d) (h4k : x2 ≤ 4096) (he : EB0 p V WI WU σ0 s0) (hu : 19 ≤ u ∧ u ≤ 21) (pa : EPl Φ a) (ha : EQ8 ω d p σ0 s0 x2 K a) : EQ8 ω d p σ0 s0 x2 K (eU u a) := by
  intro tp q n t r ρ hA hx hh hw hn hn2 hRm kk
  obtain ⟨-, ln, -⟩ := EPl_one hu pa
  obtain ⟨a1, a2, a3, -, -⟩ := pa
  have hp := he.1
  have wk : (eU u a).2.2.1 = a.2.2.1 + a.2.1.toNat := rfl
  have wd : (eU u a).2.1 = uW u a.2.1 := rfl
  have rg : 1 ≤ uW u a.2.1 ∧ uW u a.2.1 ≤ a.2.1 := by unfold uW; split <;> omega
  obtain ⟨A1, A2⟩ := itA_app (show itA p σ0 q (a.1 ++ [(u, 0, uW u a.2.1)]) from hA)
  obtain ⟨h1, e1, e2⟩ := hB_un _ _ _ _ (show hB (a.1 ++ [(u, 0, uW u a.2.1)]) tp = some r from hh)
  have q1 := a3 _ _ e1
  subst q1
  rw [ln] at hx
  rw [wk] at hRm
  refine ha tp q n t _ ρ A1 (by omega) e1 hw hn hn2 (by omega) (fun τ2 n2 t2 w2 l1 l2 l3 l4 l5 ro1 wd1 v1 _ => ?_)
  obtain ⟨g1, g2, g3⟩ := itA_one A2
  have fS := w2.1.2.2.2.1
  have r1 : q_r τ2 48 1 = p := by rw [fr_r fS]; exact he.2.1
  have ep : ∀ o, p ≤ o → o ≤ p + 12 → z τ2 o = z σ0 o := fun o h1 h2 => fr_zF fS (by unfold SWo; simp; omega)
  have c8 : ((tp + 1 : Nat) : Int) * 8 - 8 = ((8 * tp : Nat) : Int) := by omega
  have wI : (((uW u a.2.1).toNat : Nat) : Int) = uW u a.2.1 := by omega
  have ca : ((a.2.1.toNat : Nat) : Int) = a.2.1 := by omega
  refine b_En_evaluate_5 hp r1 w2.1.1 ⟨⟨by omega, by omega⟩, ⟨by omega, by omega⟩, fun c => absurd c (by omega), fun _ => ⟨⟨by omega, by omega⟩, ?_⟩⟩
  rw [Int.toNat_natCast, ep (p + 10) (by omega) (by omega), g1]
  refine ⟨fun _ => ?_, fun c => absurd c (by omega)⟩
  refine b_En_evaluate_67 hp r1 w2.1.1 ⟨⟨by omega, by omega⟩, fun _ => ?_, fun c => absurd c (by omega)⟩
  refine b_En_evaluate_107 hp r1 w2.1.1 ⟨⟨by omega, by omega⟩, fun c => absurd c (by omega), fun _ => ⟨⟨by omega, by omega⟩, fun c => absurd c (by omega), fun _ => ⟨⟨by omega, by omega⟩, ?_⟩⟩⟩
  rw [c8, Int.toNat_natCast, ep (p + 12) (by omega) (by omega), g3, ← wI]
  refine k_single (w := (uW u a.2.1).toNat) (wa := a.2.1.toNat) (B := 0) (π := τ2) (sπ := t2) (by omega) (by omega) (by omega) hu (PO_refl w2) (by omega) (by rw [ca]; exact wI) wd1 (by omega) (fun τ s' k1 k2 k3 hro hwd hv => b_En_evaluate_143 hp (by rw [fr_r k1.1.1.2.2.2.1]; exact he.2.1) (PO_E k1) ?_)
  rw [show ((q + a.1.length : Nat) : Int) + 1 = ((q + (eU u a).1.length : Nat) : Int) by rw [ln]; omega]
  refine kk τ n2 s' k1.1 (by omega) (by omega) (by omega) (by omega) (by rw [wk]; omega) (fun j hj => ?_) hwd (fun v cv => ?_) (fun it e => ?_)
  · rw [hro j (Or.inl hj), ro1 j hj]
  · obtain ⟨c2, ev⟩ := hv v cv
    obtain ⟨c0, eva⟩ := v1 v c2
    refine ⟨c0, ?_⟩
    rw [ev]
    exact EV_one eva hu
  · have : (eU u a).1.length = 1 := by rw [e]; rfl
    omega
theorem ev_cho {a b c : q_Ex} {Φ : q_It → Prop} (hd : 6 ≤ d) (h4k : x2 ≤ 4096) (he : EB0 p V WI WU σ0 s0) (pa : EPl Φ a) (pb : EPl Φ b) (pc : EPl Φ c) (ha : EQ8 ω d p σ0 s0 x2 K a) (hb : EQ8 ω d p σ0 s0 x2 K b) (hc : EQ8 ω d p σ0 s0 x2 K c) : EQ8 ω d p σ0 s0 x2 K (eC a b c) := by
  intro tp q n t r ρ hA hx hh hw hn hn2 hRm kk
  obtain ⟨-, ln, -⟩ := EPl_cho pa pb pc
  obtain ⟨a1, a2, a3, -, -⟩ := pa
  obtain ⟨b1, b2, b3, -, -⟩ := pb
  obtain ⟨c1, c2, c3, -, -⟩ := pc
  have hp := he.1
  have wk : (eC a b c).2.2.1 = a.2.2.1 + b.2.2.1 + c.2.2.1 + (max a.2.1 (max b.2.1 c.2.1)).toNat := rfl
  have wd : (eC a b c).2.1 = max b.2.1 c.2.1 := rfl
  obtain ⟨A1, A2⟩ := itA_app (show itA p σ0 q (a.1 ++ b.1 ++ c.1 ++ [(22, 0, max b.2.1 c.2.1)]) from hA)
  obtain ⟨A3, A4⟩ := itA_app A1
  obtain ⟨A5, A6⟩ := itA_app A3
  obtain ⟨h1, e1, e2⟩ := hB_un _ _ _ _ (show hB (a.1 ++ b.1 ++ c.1 ++ [(22, 0, max b.2.1 c.2.1)]) tp = some r from hh)
  obtain ⟨h0, e3, e4⟩ := hB_un _ _ _ _ e1
  obtain ⟨h9, e5, e6⟩ := hB_un _ _ _ _ e3
  have q1 := a3 _ _ e5
  subst q1
  have q2 := b3 _ _ e6
  subst q2
  have q3 := c3 _ _ e4
  subst q3
  rw [ln] at hx
  rw [wk] at hRm
  refine ha tp q n t _ ρ A5 (by omega) e5 hw hn hn2 (by omega) (fun τ1 n1 t1 w1 l1 l2 l3 l4 l5 ro1 wd1 v1 _ => ?_)
  refine hb (tp + 1) (q + a.1.length) n1 t1 _ τ1 A6 (by omega) e6 w1 (by omega) l3 (by omega) (fun τ2 n2 t2 w2 m1 m2 m3 m4 m5 ro2 wd2 v2 _ => ?_)
  rw [List.length_append, ← Nat.add_assoc] at A4
  refine hc (tp + 1 + 1) (q + a.1.length + b.1.length) n2 t2 _ τ2 A4 (by omega) e4 w2 (by omega) m3 (by omega) (fun τ3 n3 t3 w3 o1 o2 o3 o4 o5 ro3 wd3 v3 _ => ?_)
  rw [show 8 * (tp + 1) = 8 * tp + 8 by omega] at m2 ro2 wd2 v2
  rw [show 8 * (tp + 1 + 1) = 8 * tp + 16 by omega] at o2 ro3 wd3 v3
  rw [List.length_append, List.length_append, ← Nat.add_assoc, ← Nat.add_assoc] at A2
  obtain ⟨g1, g2, g3⟩ := itA_one A2
  have fS := w3.1.2.2.2.1
  have r1 : q_r τ3 48 1 = p := by rw [fr_r fS]; exact he.2.1
  have ep : ∀ o, p ≤ o → o ≤ p + 12 → z τ3 o = z σ0 o := fun o h1 h2 => fr_zF fS (by unfold SWo; simp; omega)
  have ra : ∀ j, j < 8 → z τ3 58 (8 * tp + j) = z τ1 58 (8 * tp + j) := fun j hj => by rw [ro3 _ (by omega), ro2 _ (by omega)]
  have rb : ∀ j, j < 8 → z τ3 58 (8 * tp + 8 + j) = z τ2 58 (8 * tp + 8 + j) := fun j hj => ro3 _ (by omega)
  have c24 : ((tp + 1 + 1 + 1 : Nat) : Int) * 8 - 24 = ((8 * tp : Nat) : Int) := by omega
  have c16 : ((tp + 1 + 1 + 1 : Nat) : Int) * 8 - 16 = ((8 * tp + 8 : Nat) : Int) := by omega
  have c8 : ((tp + 1 + 1 + 1 : Nat) : Int) * 8 - 8 = ((8 * tp + 16 : Nat) : Int) := by omega
  refine b_En_evaluate_5 hp r1 w3.1.1 ⟨⟨by omega, by omega⟩, ⟨by omega, by omega⟩, fun c => absurd c (by omega), fun _ => ⟨⟨by omega, by omega⟩, ?_⟩⟩
  rw [Int.toNat_natCast, ep (p + 10) (by omega) (by omega), g1]
  refine ⟨fun _ => ?_, fun c => absurd c (by omega)⟩
  refine b_En_evaluate_67 hp r1 w3.1.1 ⟨⟨by omega, by omega⟩, fun c => absurd rfl c, fun _ => ⟨⟨by omega, by omega⟩, fun c => absurd c (by omega), fun _ => ?_⟩⟩
  rw [c24, c16, c8]
  refine k_choose (wa := a.2.1.toNat) (wb := b.2.1.toNat) (wc := c.2.1.toNat) (B := 0) (π := τ3) (sπ := t3) (by omega) (by omega) (by omega) (by omega) (by omega) (by omega) (PO_refl w3) (by omega) (wdt_cg wd1 ra) (wdt_cg wd2 rb) wd3 (by omega) (fun τ s' k1 k2 k3 hro hwd hv => b_En_evaluate_101 hp (by rw [fr_r k1.1.1.2.2.2.1]; exact he.2.1) (PO_E k1) ?_)
  rw [show ((tp + 1 + 1 + 1 : Nat) : Int) - 2 = ((tp + 1 : Nat) : Int) by omega, show ((q + a.1.length + b.1.length + c.1.length : Nat) : Int) + 1 = ((q + (eC a b c).1.length : Nat) : Int) by rw [ln]; omega]
  refine kk τ n3 s' k1.1 (by omega) (by omega) (by omega) (by omega) (by rw [wk]; omega) (fun j hj => ?_) (by rw [wd, show (max b.2.1 c.2.1).toNat = max b.2.1.toNat c.2.1.toNat by omega]; exact hwd) (fun v cv => ?_) (fun it e => ?_)
  · rw [hro j (Or.inl hj), ro3 j (by omega), ro2 j (by omega), ro1 j hj]
  · obtain ⟨x3, ev⟩ := hv v cv
    obtain ⟨x2, evc⟩ := v3 v x3
    obtain ⟨x1, evb⟩ := v2 v x2
    obtain ⟨x0, eva⟩ := v1 v x1
    refine ⟨x0, ?_⟩
    rw [ev, nV_cf 8 ra, nV_cf 8 rb]
    exact EV_cho eva evb evc
  · have : (eC a b c).1.length = 1 := by rw [e]; rfl
    omega
theorem ev_tree {e : q_Ex} (hd : 6 ≤ d) (h4k : x2 ≤ 4096) (he : EB0 p V WI WU σ0 s0) (h : PE (cI WI WU V) e) : EPl (cI WI WU V) e ∧ EQ8 ω d p σ0 s0 x2 K e := by
  refine h (fun e => EPl (cI WI WU V) e ∧ EQ8 ω d p σ0 s0 x2 K e) ⟨fun it hc hk => ⟨⟨hc.1, Nat.le_refl _, fun tp r h => (hB_0 hk.1 h).2, fun _ => ⟨it, rfl, hc, hk, rfl⟩, fun q => absurd rfl q⟩, ev_leaf (by omega) h4k he hc hk⟩, fun u a b hu ha hb => ⟨(EPl_two hu ha.1 hb.1).1, ev_two hd h4k he hu ha.1 hb.1 ha.2 hb.2⟩, fun u a hu ha => ⟨(EPl_one hu ha.1).1, ev_one hd h4k he hu ha.1 ha.2⟩, fun a b c ha hb hc => ⟨(EPl_cho ha.1 hb.1 hc.1).1, ev_cho hd h4k he ha.1 hb.1 hc.1 ha.2 hb.2 hc.2⟩⟩
/-- evaluate, of an EXPR -/
theorem k_evaluate {e : q_Ex} {q : Nat} (hd : 7 ≤ d) (he : EB0 p V WI WU σ0 s0) (hE : q_E σ0) (hC : CI s0 σ0) (hH : HI s0 σ0) (h : PE (cI WI WU V) e) (hg : hB e.1 0 = some 1) (hA : itA p σ0 q e.1) (hq : q + e.1.length ≤ 4096) (hB : s0 + 3 * e.2.2.1 < 10240)
    (kk : ∀ τ t, WT 8 σ0 s0 τ t → s0 ≤ t → t ≤ s0 + 3 * e.2.2.1 → wdt (z τ 58) e.2.1.toNat → (∀ v, CSv t τ v → CSv s0 σ0 v ∧ EV (IvN σ0 v) (UvN σ0 v) e.1 (nV v (z τ 58) 8)) → EPl (cI WI WU V) e → (∀ it, e.1 = [it] → LF σ0 it (z τ 58)) → K τ) : J ω m_En_evaluate d 0 0 0 0 0 [(0, .ref 48), (1, .int (zI (q : Int))), (2, .int (zI ((q + e.1.length : Nat) : Int)))] [] σ0 (q_kv K) := by
  obtain ⟨d, rfl⟩ : ∃ k, d = k + 1 := ⟨d - 1, by omega⟩
  obtain ⟨pl, ev⟩ := ev_tree (ω := ω) (d := d) (x2 := q + e.1.length) (K := K) (by omega) hq he h
  have w0 : WT 0 σ0 s0 σ0 s0 := ⟨⟨hE, hC, fun i hi => absurd hi (Nat.not_lt_zero _), fr_refl, Nat.le_refl _⟩, hH, rfl, fun _ _ => ⟨rfl, rfl, rfl, rfl⟩⟩
  refine b_En_evaluate_0 he.1 he.2.1 hE (ev 0 q 0 s0 1 σ0 hA (Nat.le_refl _) hg w0 (by omega) (by omega) hB (fun τ n' t' h1 h2 h3 h4 h5 h6 h7 h8 h9 h10 => ?_))
  have z0 : (fun j => z τ 58 (8 * 0 + j)) = z τ 58 := funext fun j => by rw [Nat.mul_zero, Nat.zero_add]
  rw [z0] at h8 h9 h10
  refine b_En_evaluate_5 he.1 (by rw [fr_r h1.1.2.2.2.1]; exact he.2.1) h1.1.1 ⟨⟨by omega, by omega⟩, ⟨by omega, by omega⟩, fun _ => ⟨rfl, kk τ t' ?_ h5 h6 h8 h9 pl h10⟩, fun c => absurd c (by omega)⟩
  exact ⟨⟨h1.1.1, h1.1.2.1, fun i hi => h1.1.2.2.1 i (by omega), h1.1.2.2.2⟩, h1.2⟩
end EwJ
