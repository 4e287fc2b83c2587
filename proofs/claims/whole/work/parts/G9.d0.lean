/-! THE ENCODER: what an EXPR's words are worth -/
def IvN (σ : q_H) (v : Nat → Bool) (i : Nat) : Nat := if i < 12 then nV v (fun j => z σ 61 (8 * i + j)) 8 else 0
def UvN (σ : q_H) (v : Nat → Bool) (i : Nat) : Nat := if i < 12 then nV v (fun j => z σ 62 (8 * i + j)) 8 else 0
/-- where evaluate begins: the words of INPUTS and VARIABLES -/
def EB0 (p V : Nat) (WI WU : Nat → Int) (σ : q_H) (s : Nat) : Prop :=
  (p = 16 ∨ p = 29) ∧ q_r σ 48 1 = p ∧ (∀ j, j < 96 → lit s (z σ 61 j) ∧ lit s (z σ 62 j)) ∧ (∀ i, i < 12 → WI i ≤ 8 → wdt (fun j => z σ 61 (8 * i + j)) (WI i).toNat) ∧ ∀ i, i < V → i < 12 → wdt (fun j => z σ 62 (8 * i + j)) (WU i).toNat
theorem wdt_cg {f g : Nat → Int} {w : Nat} (h : wdt g w) (e : ∀ j, j < 8 → f j = g j) : wdt f w := fun j h1 h2 => (e j h2).trans (h j h1 h2)
theorem hB_un : ∀ (a b : List q_It) (h r : Nat), hB (a ++ b) h = some r → ∃ h', hB a h = some h' ∧ hB b h' = some r
  | [], b, h, r, e => ⟨h, rfl, e⟩
  | x :: a, b, h, r, e => by
    have e' : hB (x :: (a ++ b)) h = some r := e
    rw [hB_s] at e'
    rw [hB_s]
    split at e'
    · next c =>
      rw [if_pos c]
      split at e'
      · next c1 => rw [if_pos c1]; exact hB_un a b _ _ e'
      · cases e'
    · next c =>
      rw [if_neg c]
      split at e'
      · next c1 =>
        rw [if_pos c1]
        split at e'
        · next c2 => rw [if_pos c2]; exact hB_un a b _ _ e'
        · cases e'
      · next c1 =>
        rw [if_neg c1]
        split at e'
        · next c2 =>
          rw [if_pos c2]
          split at e'
          · next c3 => rw [if_pos c3]; exact hB_un a b _ _ e'
          · cases e'
        · next c2 =>
          rw [if_neg c2]
          split at e'
          · next c3 => rw [if_pos c3]; exact hB_un a b _ _ e'
          · cases e'
theorem hB_2 {u w : Int} {h r : Nat} (hu : 1 ≤ u ∧ u ≤ 18) (e : hB [(u, 0, w)] h = some r) : 2 ≤ h ∧ r = h - 1 := by
  rw [hB_s, if_neg (by show ¬ 23 ≤ u; omega), if_neg (by show ¬ u = 22; omega), if_neg (by show ¬ 19 ≤ u; omega)] at e
  split at e
  · next c => exact ⟨c, (Option.some.inj e).symm⟩
  · cases e
theorem hB_1 {u w : Int} {h r : Nat} (hu : 19 ≤ u ∧ u ≤ 21) (e : hB [(u, 0, w)] h = some r) : 1 ≤ h ∧ r = h := by
  rw [hB_s, if_neg (by show ¬ 23 ≤ u; omega), if_neg (by show ¬ u = 22; omega), if_pos (by show 19 ≤ u; omega)] at e
  split at e
  · next c => exact ⟨c, (Option.some.inj e).symm⟩
  · cases e
theorem hB_3 {w : Int} {h r : Nat} (e : hB [(22, 0, w)] h = some r) : 3 ≤ h ∧ r = h - 2 := by
  rw [hB_s, if_neg (by show ¬ (23 : Int) ≤ 22; decide), if_pos rfl] at e
  split at e
  · next c => exact ⟨c, (Option.some.inj e).symm⟩
  · cases e
theorem hB_0 {x : q_It} {h r : Nat} (hx : 23 ≤ x.1) (e : hB [x] h = some r) : h < 400 ∧ r = h + 1 := by
  rw [hB_s, if_pos hx] at e
  split at e
  · next c => exact ⟨c, (Option.some.inj e).symm⟩
  · cases e
theorem itA_app {p q : Nat} {σ : q_H} {a b : List q_It} (h : itA p σ q (a ++ b)) : itA p σ q a ∧ itA p σ (q + a.length) b := by
  refine ⟨fun j x hx => h j x ?_, fun j x hx => ?_⟩
  · rw [List.getElem?_append_left ?_]
    · exact hx
    · obtain ⟨hl, -⟩ := List.getElem?_eq_some_iff.mp hx; exact hl
  · have := h (a.length + j) x (by rw [List.getElem?_append_right (by omega), show a.length + j - a.length = j by omega]; exact hx)
    rw [show q + (a.length + j) = q + a.length + j by omega] at this
    exact this
section EvJ
variable {ω : q_W} {d p V s0 : Nat} {σ0 : q_H} {WI WU : Nat → Int}
theorem WT_up {n n' t : Nat} {ρ : q_H} (h : WT n σ0 s0 ρ t) (hl : ∀ i, n ≤ i → i < n' → lit t (z ρ 58 i)) : WT n' σ0 s0 ρ t := by
  obtain ⟨⟨a1, a2, a3, a4, a5⟩, h2⟩ := h
  refine ⟨⟨a1, a2, fun i hi => ?_, a4, a5⟩, h2⟩
  by_cases c : i < n
  · exact a3 i c
  · exact hl i (by omega) hi
theorem WT_cp {n t o sp dp m : Nat} {ρ : q_H} (ho : o ≠ 58) (h : WT n σ0 s0 ρ t) (hl : ∀ j, sp ≤ j → j < sp + m → lit t (z ρ o j)) : WT n σ0 s0 (zcp ρ o sp 58 dp m) t := by
  obtain ⟨h1, h2, h3, h4⟩ := h
  have e : ∀ a, a ≠ 58 → z (zcp ρ o sp 58 dp m) a = z ρ a := fun a ha => funext fun j => z_cp_o ha
  refine ⟨WS_cp h1 hl, ?_, by rw [e 50 (by decide)]; exact h3, fun g hg => ?_⟩
  · unfold HI
    rw [e 51 (by decide), e 52 (by decide), e 53 (by decide), e 54 (by decide), e 55 (by decide), e 56 (by decide), e 57 (by decide), e 61 (by decide)]; exact h2
  · rw [e 51 (by decide), e 52 (by decide), e 53 (by decide), e 54 (by decide)]; exact h4 g hg
/-- what an item of its own brings -/
def LF (σ0 : q_H) (it : q_It) (f : Nat → Int) : Prop := (it.1 = 23 → ∀ j, j < 8 → 0 ≤ f j ∧ f j ≤ 1) ∧ (it.1 = 24 → ∀ j, j < 8 → f j = z σ0 61 (8 * it.2.1.toNat + j)) ∧ (it.1 = 25 → ∀ j, j < 8 → f j = z σ0 62 (8 * it.2.1.toNat + j))
theorem k_fetch {K : q_H → Prop} {it : q_It} {tp n t : Nat} {ρ : q_H} (hd : 2 ≤ d) (he : EB0 p V WI WU σ0 s0) (hw : WT n σ0 s0 ρ t) (hn : 8 * tp ≤ n) (hn2 : n ≤ 3200) (h4 : tp < 400) (hk : 23 ≤ it.1 ∧ it.1 ≤ 25) (hc : cI WI WU V it)
    (kk : ∀ τ, WT (max n (8 * tp + 8)) σ0 s0 τ t → (∀ j, j < 8 * tp → z τ 58 j = z ρ 58 j) → wdt (fun j => z τ 58 (8 * tp + j)) it.2.2.toNat → (∀ v, CSv t τ v → CSv t ρ v ∧ EV (IvN σ0 v) (UvN σ0 v) [it] (nV v (fun j => z τ 58 (8 * tp + j)) 8)) → LF σ0 it (fun j => z τ 58 (8 * tp + j)) → K τ) : J ω m_En_fetch d 0 0 0 0 0 [(0, .ref 48), (1, .int (zI it.1)), (2, .int (zI it.2.1)), (3, .int (zI ((tp : Int) * 8)))] [] ρ (q_kv K) := by
  obtain ⟨d, rfl⟩ : ∃ k, d = k + 1 := ⟨d - 1, by omega⟩
  obtain ⟨hp, r0, hl, hI, hU⟩ := he
  obtain ⟨c0, c1, c2, c3⟩ := hc
  have fS := hw.1.2.2.2.1
  have r1 : q_r ρ 48 1 = p := by rw [fr_r fS]; exact r0
  have e61 : z ρ 61 = z σ0 61 := fr_zF fS (by decide)
  have e62 : z ρ 62 = z σ0 62 := fr_zF fS (by decide)
  have s0t := hw.1.2.2.2.2
  obtain ⟨u, x, w⟩ := it
  dsimp only at *
  have ld : ∀ (o : Nat), (o = 61 ∨ o = 62) → (∀ j, j < 96 → lit t (z ρ o j)) → (0 ≤ x ∧ x < 12) → wdt (fun j => z ρ o (8 * x.toNat + j)) w.toNat → (∀ τ v, (∀ j, j < 8 → z τ 58 (8 * tp + j) = z ρ o (8 * x.toNat + j)) → EV (IvN σ0 v) (UvN σ0 v) [(u, x, w)] (nV v (fun j => z τ 58 (8 * tp + j)) 8)) → (∀ τ, (∀ j, j < 8 → z τ 58 (8 * tp + j) = z ρ o (8 * x.toNat + j)) → LF σ0 (u, x, w) (fun j => z τ 58 (8 * tp + j))) → ∀ K' : q_H → Prop, (∀ τ, q_E τ → q_r τ 48 1 = p → K τ → K' τ) → J ω m_Wo_load d 0 0 0 0 0 [(0, .ref 49), (1, .int (zI ((tp : Int) * 8))), (2, .ref o), (3, .int (zI (x * 8)))] [] ρ (q_kv K') := by
    intro o ho hlo hx hwd hev hlf K' hK'
    obtain ⟨d, rfl⟩ : ∃ k, d = k + 1 := ⟨d - 1, by omega⟩
    refine b_Wo_load_0 ho hw.1.1 ⟨⟨by omega, by omega, by omega, by omega, by omega⟩, rfl, ?_⟩
    rw [show (x * 8).toNat = 8 * x.toNat by omega, show ((tp : Int) * 8).toNat = 8 * tp by omega]
    have cp : WT n σ0 s0 (zcp ρ o (8 * x.toNat) 58 (8 * tp) 8) t := WT_cp (by omega) hw (fun j h1 h2 => hlo j (by omega))
    have e : ∀ j, j < 8 → z (zcp ρ o (8 * x.toNat) 58 (8 * tp) 8) 58 (8 * tp + j) = z ρ o (8 * x.toNat + j) := fun j hj => by
      rw [z_cp_in (by omega), show 8 * x.toNat + (8 * tp + j - 8 * tp) = 8 * x.toNat + j by omega]
    have u8 : WT (max n (8 * tp + 8)) σ0 s0 (zcp ρ o (8 * x.toNat) 58 (8 * tp) 8) t := WT_up cp (fun i h1 h2 => by
      have := e (i - 8 * tp) (by omega)
      rw [show 8 * tp + (i - 8 * tp) = i by omega] at this
      rw [this]; exact hlo _ (by omega))
    refine hK' _ u8.1.1 (by rw [fr_r u8.1.2.2.2.1]; exact r0) (kk _ u8 (fun j hj => z_cp_out (by omega)) (wdt_cg hwd e) (fun v hv => ⟨?_, hev _ v e⟩) (hlf _ e))
    exact CSv_z (funext fun j => z_cp_o (by decide)) (funext fun j => z_cp_o (by decide)) (funext fun j => z_cp_o (by decide)) (funext fun j => z_cp_o (by decide)) hv
  refine b_En_fetch_0 hp r1 hw.1.1 ⟨⟨by omega, by omega⟩, fun c => ⟨fun c' => ?_, fun c' => ?_⟩, fun c => ?_⟩
  · have u25 : u = 25 := by omega
    obtain ⟨h1, h2, h3⟩ := c3 u25
    refine ld 62 (Or.inr rfl) (fun j hj => by rw [e62]; exact lit_m (hl j hj).2 s0t) h1 ?_ (fun τ v he => ?_) (fun τ he => ⟨fun q => absurd q (by show ¬ u = 23; omega), fun q => absurd q (by show ¬ u = 24; omega), fun _ j hj => ?_⟩) _ (fun τ e r q => b_En_fetch_59 hp r e ⟨rfl, q⟩)
    · rw [e62, h3]; exact hU x.toNat (by omega) (by omega)
    · rw [u25]
      have : nV v (fun j => z τ 58 (8 * tp + j)) 8 = UvN σ0 v x.toNat := by
        unfold UvN; rw [if_pos (by omega)]; exact nV_cf 8 (fun j hj => by rw [he j hj, e62])
      rw [this]; exact EV_var
    · show z τ 58 (8 * tp + j) = _
      rw [he j hj, e62]
  · obtain ⟨h1, h3⟩ := c2 c'
    refine ld 61 (Or.inl rfl) (fun j hj => by rw [e61]; exact lit_m (hl j hj).1 s0t) h1 ?_ (fun τ v he => ?_) (fun τ he => ⟨fun q => absurd q (by show ¬ u = 23; omega), fun _ j hj => ?_, fun q => absurd q (by show ¬ u = 25; omega)⟩) _ (fun τ e r q => b_En_fetch_40 hp r e ⟨rfl, q⟩)
    · rw [e61, h3]; exact hI x.toNat (by omega) (by omega)
    · rw [c']
      have : nV v (fun j => z τ 58 (8 * tp + j)) 8 = IvN σ0 v x.toNat := by
        unfold IvN; rw [if_pos (by omega)]; exact nV_cf 8 (fun j hj => by rw [he j hj, e61])
      rw [this]; exact EV_inp
    · show z τ 58 (8 * tp + j) = _
      rw [he j hj, e61]
  · obtain ⟨h1, h3⟩ := c1 c
    have w8 : w.toNat ≤ 8 := by omega
    have x256 : x.toNat < 256 := Nat.lt_of_lt_of_le h3 (Nat.pow_le_pow_right (n := 2) (by decide) w8)
    rw [show (tp : Int) * 8 = ((8 * tp : Nat) : Int) by omega, show zI x = zI ((x.toNat : Nat) : Int) by congr 1; omega]
    refine k_loadNumber (B := 0) (π := ρ) (sπ := t) x256 (by omega) (PO_refl hw) (fun τ hp2 ho hro hj => b_En_fetch_15 hp (by rw [fr_r hp2.1.1.2.2.2.1]; exact r0) (PO_E hp2) ⟨rfl, ?_⟩)
    have t1 := (PO_s hp2).1
    have cv : ∀ v, CSv t τ v → CSv t ρ v := fun v hv => hp2.2.2.2.1 v hv
    refine kk τ (WT_up hp2.1 (fun i h1 h2 => ?_)) (fun j hj => hro j (Or.inl hj)) (fun j h1 h2 => ?_) (fun v hv => ⟨cv v hv, ?_⟩) ⟨fun _ j h8 => ?_, fun q => absurd q (by show ¬ u = 24; omega), fun q => absurd q (by show ¬ u = 25; omega)⟩
    · have := hj (i - 8 * tp) (by omega)
      rw [show 8 * tp + (i - 8 * tp) = i by omega] at this
      rw [this]
      split <;> exact ⟨by decide, by omega⟩
    · show z τ 58 (8 * tp + j) = 1
      rw [hj j h2, Nat.testBit_lt_two_pow (Nat.lt_of_lt_of_le h3 (Nat.pow_le_pow_right (n := 2) (by decide) h1))]
      rfl
    · have : nV v (fun j => z τ 58 (8 * tp + j)) 8 = x.toNat := nV_eq x256 (fun j h8 => by
        show lvb v (z τ 58 (8 * tp + j)) = _
        rw [hj j h8]
        cases x.toNat.testBit j with
        | true => exact lvb_0 hv.1
        | false => exact lvb_1 hv.1)
      rw [this, c]; exact EV_num
    · show 0 ≤ z τ 58 (8 * tp + j) ∧ z τ 58 (8 * tp + j) ≤ 1
      rw [hj j h8]
      split <;> decide
/-- the claim for an EXPR: from height tp, item q -/
def EQ8 (ω : q_W) (d p : Nat) (σ0 : q_H) (s0 : Nat) (x2 : Nat) (K : q_H → Prop) (e : q_Ex) : Prop :=
  ∀ (tp q n t r : Nat) (ρ : q_H), itA p σ0 q e.1 → q + e.1.length ≤ x2 → hB e.1 tp = some r → WT n σ0 s0 ρ t → 8 * tp ≤ n → n ≤ 3200 → t + 3 * e.2.2.1 < 10240 →
    (∀ (τ : q_H) (n' t' : Nat), WT n' σ0 s0 τ t' → n ≤ n' → 8 * tp + 8 ≤ n' → n' ≤ 3200 → t ≤ t' → t' ≤ t + 3 * e.2.2.1 → (∀ j, j < 8 * tp → z τ 58 j = z ρ 58 j) → wdt (fun j => z τ 58 (8 * tp + j)) e.2.1.toNat →
      (∀ v, CSv t' τ v → CSv t ρ v ∧ EV (IvN σ0 v) (UvN σ0 v) e.1 (nV v (fun j => z τ 58 (8 * tp + j)) 8)) → (∀ it, e.1 = [it] → LF σ0 it (fun j => z τ 58 (8 * tp + j))) →
      J ω m_En_evaluate (d + 1) 0 0 0 0 5 [(0, .ref 48), (2, .int (zI (x2 : Int))), (3, .int (zI ((tp + 1 : Nat) : Int))), (4, .int (zI ((q + e.1.length : Nat) : Int)))] [] τ (q_kv K)) →
    J ω m_En_evaluate (d + 1) 0 0 0 0 5 [(0, .ref 48), (2, .int (zI (x2 : Int))), (3, .int (zI (tp : Int))), (4, .int (zI (q : Int)))] [] ρ (q_kv K)
/-- what is plain of an EXPR -/
def EPl (Φ : q_It → Prop) (e : q_Ex) : Prop := (1 ≤ e.2.1 ∧ e.2.1 ≤ 8) ∧ 1 ≤ e.1.length ∧ (∀ tp r, hB e.1 tp = some r → r = tp + 1) ∧ (e.2.2.1 = 0 → ∃ it, e.1 = [it] ∧ Φ it ∧ (23 ≤ it.1 ∧ it.1 ≤ 25) ∧ e.2.1 = it.2.2) ∧ (e.2.2.1 ≠ 0 → e.2.1.toNat ≤ e.2.2.1)
theorem oW_rng {u w1 w2 : Int} (hu : 1 ≤ u ∧ u ≤ 18) (h1 : 1 ≤ w1 ∧ w1 ≤ 8) (h2 : 1 ≤ w2 ∧ w2 ≤ 8) : 1 ≤ oW u w1 w2 ∧ oW u w1 w2 ≤ max w1 w2 := by
  by_cases c : u = 12 ∨ u = 13
  · rw [oW_s c]; omega
  · by_cases c2 : u = 3 ∨ u = 4 ∨ u = 5 ∨ u = 14 ∨ u = 15 ∨ u = 16 ∨ u = 17 ∨ u = 18
    · rw [oW_m c2]; omega
    · rw [oW_1 (by omega)]; omega
theorem mxc (a b : Int) (ha : 1 ≤ a) (hb : 1 ≤ b) : ((max a.toNat b.toNat : Nat) : Int) = max a b := by omega
theorem EPl_two {Φ : q_It → Prop} {u : Int} {a b : q_Ex} (hu : 1 ≤ u ∧ u ≤ 18) (ha : EPl Φ a) (hb : EPl Φ b) : EPl Φ (eB u a b) ∧ (eB u a b).1.length = a.1.length + b.1.length + 1 ∧ 1 ≤ (eB u a b).2.2.1 := by
  obtain ⟨a1, a2, a3, -, -⟩ := ha
  obtain ⟨b1, b2, b3, -, -⟩ := hb
  have rg := oW_rng hu a1 b1
  have ge := oP_ge (w := max a.2.1.toNat b.2.1.toNat) hu (by omega)
  rw [mxc _ _ a1.1 b1.1] at ge
  have ln : (eB u a b).1.length = a.1.length + b.1.length + 1 := by unfold eB; simp; omega
  have wk : (eB u a b).2.2.1 = a.2.2.1 + b.2.2.1 + oP u (max a.2.1 b.2.1) := rfl
  have wd : (eB u a b).2.1 = oW u a.2.1 b.2.1 := rfl
  refine ⟨⟨by rw [wd]; omega, by omega, fun tp r h => ?_, fun h => ?_, fun _ => ?_⟩, ln, by omega⟩
  · obtain ⟨h1, e1, e2⟩ := hB_un _ _ _ _ h
    obtain ⟨h0, e3, e4⟩ := hB_un _ _ _ _ e1
    have q1 := a3 _ _ e3
    have q2 := b3 _ _ e4
    have q3 := hB_2 hu e2
    omega
  · omega
  · rw [wd, wk]; omega
theorem EPl_one {Φ : q_It → Prop} {u : Int} {a : q_Ex} (hu : 19 ≤ u ∧ u ≤ 21) (ha : EPl Φ a) : EPl Φ (eU u a) ∧ (eU u a).1.length = a.1.length + 1 ∧ 1 ≤ (eU u a).2.2.1 := by
  obtain ⟨a1, a2, a3, -, -⟩ := ha
  have ln : (eU u a).1.length = a.1.length + 1 := by unfold eU; simp
  have wk : (eU u a).2.2.1 = a.2.2.1 + a.2.1.toNat := rfl
  have wd : (eU u a).2.1 = uW u a.2.1 := rfl
  have rg : 1 ≤ uW u a.2.1 ∧ uW u a.2.1 ≤ a.2.1 := by unfold uW; split <;> omega
  refine ⟨⟨by rw [wd]; omega, by omega, fun tp r h => ?_, fun h => ?_, fun _ => ?_⟩, ln, by omega⟩
  · obtain ⟨h1, e1, e2⟩ := hB_un _ _ _ _ h
    have q1 := a3 _ _ e1
    have q3 := hB_1 hu e2
    omega
  · omega
  · rw [wd, wk]; omega
theorem EPl_cho {Φ : q_It → Prop} {a b c : q_Ex} (ha : EPl Φ a) (hb : EPl Φ b) (hc : EPl Φ c) : EPl Φ (eC a b c) ∧ (eC a b c).1.length = a.1.length + b.1.length + c.1.length + 1 ∧ 1 ≤ (eC a b c).2.2.1 := by
  obtain ⟨a1, a2, a3, -, -⟩ := ha
  obtain ⟨b1, b2, b3, -, -⟩ := hb
  obtain ⟨c1, c2, c3, -, -⟩ := hc
  have ln : (eC a b c).1.length = a.1.length + b.1.length + c.1.length + 1 := by unfold eC; simp; omega
  have wk : (eC a b c).2.2.1 = a.2.2.1 + b.2.2.1 + c.2.2.1 + (max a.2.1 (max b.2.1 c.2.1)).toNat := rfl
  have wd : (eC a b c).2.1 = max b.2.1 c.2.1 := rfl
  refine ⟨⟨by rw [wd]; omega, by omega, fun tp r h => ?_, fun h => ?_, fun _ => ?_⟩, ln, by omega⟩
  · obtain ⟨h1, e1, e2⟩ := hB_un _ _ _ _ h
    obtain ⟨h0, e3, e4⟩ := hB_un _ _ _ _ e1
    obtain ⟨h9, e5, e6⟩ := hB_un _ _ _ _ e3
    have q1 := a3 _ _ e5
    have q2 := b3 _ _ e6
    have q4 := c3 _ _ e4
    have q3 := hB_3 e2
    omega
  · omega
  · rw [wd, wk]; omega
end EvJ
