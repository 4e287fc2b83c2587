/-! WORDS: numbers, choice, single signs, bits, comparisons -/
section NwP
variable {v : Nat → Bool} {f g : Nat → Int}
theorem nV_e (i : Nat) : (nV v f (i + 1) = nV v g (i + 1)) ↔ (nV v f i = nV v g i ∧ lvb v (f i) = lvb v (g i)) := by
  have a := nV_lt (v := v) (f := f) i
  have b := nV_lt (v := v) (f := g) i
  rw [nV_s, nV_s]
  cases lvb v (f i) <;> cases lvb v (g i) <;> simp <;> omega
theorem nV_l (i : Nat) : decide (nV v f (i + 1) < nV v g (i + 1)) = if xor (lvb v (f i)) (lvb v (g i)) then lvb v (g i) else decide (nV v f i < nV v g i) := by
  have a := nV_lt (v := v) (f := f) i
  have b := nV_lt (v := v) (f := g) i
  rw [nV_s, nV_s]
  cases lvb v (f i) <;> cases lvb v (g i) <;> simp <;> omega
end NwP
theorem half_add (X Y M c0 : Nat) (x c : Bool) (e : X + M * c.toNat + Y + 1 = M + c0) : X + M * (xor (!x) c).toNat + M * 2 * (!x && c).toNat + (Y + M * x.toNat) + 1 = M * 2 + c0 := by
  cases x <;> cases c <;> simp [Bool.toNat] at e ⊢ <;> omega
section W3J
variable {ω : q_W} {d s n s0 : Nat} {σ σ0 : q_H} {B a : Nat} {π : q_H} {sπ : Nat}
/-- a gate, then a bit of the row -/
theorem PO_w {W i t s' : Nat} {ρ τ : q_H} {r : Int} (h : PO n σ0 s0 (min i W) a σ s ρ t) (ht : CX2 t s' ρ τ) (hb : s' ≤ t + 1) (hw : W ≤ i → s' = t) (hi : i < 8) (hr : lit s' r) : PO n σ0 s0 (min (i + 1) W) a σ s (zs τ 58 (a + i) r) s' := by
  have h3 := h.2.2.1
  refine PO_58 (PO_CX h ht ?_) ⟨by omega, by omega⟩ hr
  by_cases c : W ≤ i
  · rw [hw c]; omega
  · omega
theorem PO_v {t : Nat} {ρ : q_H} (h : PO n σ0 s0 B a σ s ρ t) {v : Nat → Bool} (hv : CSv t ρ v) : CSv s σ v := h.2.2.2.1 v hv
theorem PO_r {t : Nat} {ρ : q_H} (h : PO n σ0 s0 B a σ s ρ t) {j : Nat} (hj : j < a ∨ a + 8 ≤ j) : z ρ 58 j = z σ 58 j := h.2.2.2.2 j hj
theorem PO_ll {t : Nat} {ρ : q_H} (h : PO n σ0 s0 B a σ s ρ t) {j : Nat} (hj : j < n) : lit t (z ρ 58 j) := h.1.1.2.2.1 j hj
theorem k_loadNumber {K : q_H → Prop} {x : Nat} (hx : x < 256) (ha : a + 8 ≤ 3200) (h : PO n σ0 s0 B a π sπ σ s) (kk : ∀ τ, PO n σ0 s0 B a π sπ τ s → (∀ o, o ≠ 58 → z τ o = z σ o) → RO a σ τ → (∀ j, j < 8 → z τ 58 (a + j) = if x.testBit j then 0 else 1) → K τ) : J ω m_Wo_loadNumber d 0 0 0 0 0 [(0, .ref 49), (1, .int (zI (a : Int))), (2, .int (zI (x : Int)))] [] σ (q_kv K) := by
  have l : ∀ (k i : Nat) (ρ : q_H), 8 ≤ i + k → i ≤ 8 → PO n σ0 s0 B a π sπ ρ s → (∀ o, o ≠ 58 → z ρ o = z σ o) → RO a σ ρ → (∀ j, j < i → z ρ 58 (a + j) = if x.testBit j then 0 else 1) → J ω m_Wo_loadNumber d 0 0 0 0 2 [(0, .ref 49), (1, .int (zI (a : Int))), (2, .int (zI (x : Int))), (3, .int (zI (i : Int)))] [] ρ (q_kv K) := by
    intro k
    induction k with
    | zero =>
      intro i ρ hi h8 hp ho hr hj
      exact b_Wo_loadNumber_2 (PO_E hp) ⟨⟨by omega, by omega⟩, fun _ => ⟨rfl, kk ρ hp ho hr (fun j hj2 => hj j (by omega))⟩, fun c => absurd c (by omega)⟩
    | succ k ih =>
      intro i ρ hi h8 hp ho hr hj
      refine b_Wo_loadNumber_2 (PO_E hp) ⟨⟨by omega, by omega⟩, fun c => ⟨rfl, kk ρ hp ho hr (fun j hj2 => hj j (by omega))⟩, fun c => ?_⟩
      have i8 : i < 8 := by omega
      have e : zAnd (zShr (x : Int) (i : Int)) 1 = if x.testBit i then 1 else 0 := by
        rw [zShr_e (k := i) ⟨by omega, by omega⟩ (by omega)]
        have : (x : Int) / 2 ^ i = ((x / 2 ^ i : Nat) : Int) := by simp
        rw [this, zAnd_1 (Int.natCast_nonneg _), Nat.testBit_eq_decide_div_mod_eq]
        generalize x / 2 ^ i = m
        by_cases c : m % 2 = 1
        · rw [decide_eq_true c]
          show (m : Int) % 2 = 1
          omega
        · rw [decide_eq_false c]
          show (m : Int) % 2 = 0
          omega
      have nx : ∀ y : Int, y = (if x.testBit i then 0 else 1) → J ω m_Wo_loadNumber d 0 0 0 0 2 [(0, .ref 49), (1, .int (zI (a : Int))), (2, .int (zI (x : Int))), (3, .int (zI ((i : Int) + 1)))] [] (zs ρ 58 ((a : Int) + (i : Int)).toNat y) (q_kv K) := fun y hy => by
        have ly : lit s y := by
          rw [hy]
          split
          · exact PO_l0 hp
          · exact PO_l1 hp
        rw [show ((a : Int) + (i : Int)).toNat = a + i by omega]
        refine ih (i + 1) _ (by omega) (by omega) (PO_58 hp ⟨by omega, by omega⟩ ly) (fun o ho2 => by rw [z_oF ho2]; exact ho o ho2) (fun j hj2 => by rw [z_k (by omega)]; exact hr j hj2) (fun j hj2 => ?_)
        by_cases c : j = i
        · rw [c, z_s (lit_R (PO_s hp).2 ly)]; exact hy
        · rw [z_k (by omega)]; exact hj j (by omega)
      refine ⟨fun c1 => ⟨⟨by omega, by omega⟩, nx 1 ?_⟩, fun c1 => ⟨⟨by omega, by omega⟩, nx 0 ?_⟩⟩
      · rw [e] at c1
        cases hb : x.testBit i with
        | false => rfl
        | true => rw [hb] at c1; exact absurd rfl c1
      · rw [e] at c1
        cases hb : x.testBit i with
        | true => rfl
        | false => rw [hb] at c1; exact absurd c1 (by decide)
  exact b_Wo_loadNumber_0 (PO_E h) (l 8 0 σ (by decide) (by decide) h (fun _ _ => rfl) (fun _ _ => rfl) (fun j hj => absurd hj (by omega)))
/-- leave: one literal, FALSE above it -/
theorem k_leave {K : q_H → Prop} {x2 : Int} (hd : 1 ≤ d) (ha : a + 8 ≤ n) (hn : n ≤ 3200) (h : PO n σ0 s0 B a π sπ σ s) (h2 : lit s x2) (kk : ∀ τ, PO n σ0 s0 B a π sπ τ s → (∀ o, o ≠ 58 → z τ o = z σ o) → RO a σ τ → z τ 58 a = x2 → wdt (fun j => z τ 58 (a + j)) 1 → K τ) : J ω m_Wo_leave d 0 0 0 0 0 [(0, .ref 49), (1, .int (zI (a : Int))), (2, .int (zI x2))] [] σ (q_kv K) := by
  obtain ⟨d, rfl⟩ : ∃ k, d = k + 1 := ⟨d - 1, by omega⟩
  refine b_Wo_leave_0 (PO_E h) (k_loadNumber (x := 0) (by decide) (by omega) h (fun τ hp ho hr hj => b_Wo_leave_6 (PO_E hp) ⟨⟨by omega, by omega⟩, rfl, ?_⟩))
  rw [Int.toNat_natCast]
  refine kk _ (PO_58 hp ⟨by omega, by omega⟩ h2) (fun o ho2 => by rw [z_oF ho2]; exact ho o ho2) (fun j hj2 => by rw [z_k (by omega)]; exact hr j hj2) (z_s (lit_R (PO_s hp).2 h2)) (fun j h1 h8 => ?_)
  show z (zs τ 58 a x2) 58 (a + j) = 1
  rw [z_k (by omega), hj j h8]
  simp
theorem nV_leave {f : Nat → Int} {v : Nat → Bool} (hv : v 0 = true) (hw : wdt f 1) : nV v f 8 = (lvb v (f 0)).toNat := by
  rw [nV_w hv hw 8 (by decide) (Nat.le_refl _), nV_s]
  simp [nV]
theorem k_choose {K : q_H → Prop} {b c wa wb wc : Nat} (hd : 4 ≤ d) (hn : n ≤ 3200) (ha : a + 8 ≤ b) (hb : a + 8 ≤ c) (hb8 : b + 8 ≤ n) (hc : c + 8 ≤ n) (h : PO n σ0 s0 B a π sπ σ s) (w8 : wa ≤ 8 ∧ wb ≤ 8 ∧ wc ≤ 8) (h1 : wdt (fun j => z σ 58 (a + j)) wa) (h2 : wdt (fun j => z σ 58 (b + j)) wb) (h3 : wdt (fun j => z σ 58 (c + j)) wc) (hB : s + ((wa - 1) + max wb wc) < 10240)
    (kk : ∀ τ s', PO n σ0 s0 (B + ((wa - 1) + max wb wc)) a π sπ τ s' → s ≤ s' → s' ≤ s + ((wa - 1) + max wb wc) → RO a σ τ → wdt (fun j => z τ 58 (a + j)) (max wb wc) → (∀ v, CSv s' τ v → CSv s σ v ∧ nV v (fun j => z τ 58 (a + j)) 8 = if nV v (fun j => z σ 58 (a + j)) 8 ≠ 0 then nV v (fun j => z σ 58 (b + j)) 8 else nV v (fun j => z σ 58 (c + j)) 8) → K τ) : J ω m_Wo_choose d 0 0 0 0 0 [(0, .ref 49), (1, .int (zI (a : Int))), (2, .int (zI (b : Int))), (3, .int (zI (c : Int)))] [] σ (q_kv K) := by
  obtain ⟨d, rfl⟩ : ∃ k, d = k + 1 := ⟨d - 1, by omega⟩
  refine b_Wo_choose_0 (PO_E h) (k_truth (by omega) hn (by omega) h w8.1 h1 (by omega) (fun x4 σ1 s1 hp1 ht1 hb1 hl1 hR hv1 hf1 => b_Wo_choose_5 (PO_E hp1) ?_))
  have e58 : z σ1 58 = z σ 58 := fr_zF ht1.1.1 (by decide)
  have base : PO n σ0 s0 (min 0 (max wb wc)) a σ1 s1 σ1 s1 := PO_refl hp1.1
  have fin : ∀ (i : Nat) (ρ : q_H) (t : Nat), i = 8 → PO n σ0 s0 (min i (max wb wc)) a σ1 s1 ρ t → (∀ j, j < i → (∀ v, CSv t ρ v → lvb v (z ρ 58 (a + j)) = if lvb v x4 then lvb v (z σ 58 (b + j)) else lvb v (z σ 58 (c + j))) ∧ (max wb wc ≤ j → z ρ 58 (a + j) = 1)) → q_kv K (.inl none) ρ := by
    intro i ρ t hi hp hj
    subst hi
    have s1s := ht1.1.2.2.1
    have pl := hp.2.2.1
    have m8 : min 8 (max wb wc) = max wb wc := by omega
    have p1 := PO_tr hp1 hp
    rw [m8] at p1 pl
    refine ⟨rfl, kk ρ t (PO_le p1 (by have := h.2.2.1; have := hp1.2.2.1; omega)) (by have := hp.2.1; omega) (by omega) (fun j q => by rw [PO_r hp q, e58]) (fun j q1 q2 => (hj j q2).2 q1) (fun v hv => ?_)⟩
    have cv := PO_v hp hv
    refine ⟨CSv_2 cv ht1, ?_⟩
    rw [nV_ite (lvb v x4) 8 (fun j q => (hj j q).1 v hv), hv1 v cv]
    by_cases q : nV v (fun j => z σ 58 (a + j)) 8 = 0
    · rw [if_neg (by simp [q]), if_neg (by simp [q])]
    · rw [if_pos (by simp [q]), if_pos q]
  have l : ∀ (k i : Nat) (ρ : q_H) (t : Nat), 8 ≤ i + k → i ≤ 8 → PO n σ0 s0 (min i (max wb wc)) a σ1 s1 ρ t → (∀ j, j < i → (∀ v, CSv t ρ v → lvb v (z ρ 58 (a + j)) = if lvb v x4 then lvb v (z σ 58 (b + j)) else lvb v (z σ 58 (c + j))) ∧ (max wb wc ≤ j → z ρ 58 (a + j) = 1)) → J ω m_Wo_choose (d + 1) 0 0 0 0 10 [(0, .ref 49), (1, .int (zI (a : Int))), (2, .int (zI (b : Int))), (3, .int (zI (c : Int))), (4, .int (zI x4)), (5, .int (zI (i : Int)))] [] ρ (q_kv K) := by
    intro k
    induction k with
    | zero =>
      intro i ρ t hi h8 hp hj
      exact b_Wo_choose_10 (PO_E hp) ⟨⟨by omega, by omega⟩, fun _ => fin i ρ t (by omega) hp hj, fun c => absurd c (by omega)⟩
    | succ k ih =>
      intro i ρ t hi h8 hp hj
      refine b_Wo_choose_10 (PO_E hp) ⟨⟨by omega, by omega⟩, fun q => fin i ρ t (by omega) hp hj, fun c8 => ⟨⟨by omega, by omega⟩, ⟨by omega, by omega⟩, ?_⟩⟩
      have i8 : i < 8 := by omega
      have pl := hp.2.2.1
      have eb : z ρ 58 (b + i) = z σ 58 (b + i) := by rw [PO_r hp (by omega), e58]
      have ec : z ρ 58 (c + i) = z σ 58 (c + i) := by rw [PO_r hp (by omega), e58]
      rw [show ((b : Int) + (i : Int)).toNat = b + i by omega, show ((c : Int) + (i : Int)).toNat = c + i by omega, eb, ec]
      have lb : lit t (z σ 58 (b + i)) := by rw [← eb]; exact PO_ll hp (by omega)
      have lc : lit t (z σ 58 (c + i)) := by rw [← ec]; exact PO_ll hp (by omega)
      refine k_pick (by omega) (PO_E hp) (PO_C hp) (PO_H hp) (by omega) (lit_m hl1 hp.2.1) lb lc (fun r τ s' ht hbb hr hv t0 t1 t2 => b_Wo_choose_52 (fr_E ht.1.1 (PO_E hp)) ⟨⟨by omega, by omega⟩, ?_⟩)
      have tr : max wb wc ≤ i → r = 1 ∧ s' = t := fun q => by
        have e1 : z σ 58 (b + i) = 1 := h2 i (by omega) i8
        have e2 : z σ 58 (c + i) = 1 := h3 i (by omega) i8
        have := t2 (by rw [e1, e2])
        rw [e1] at this; exact this
      rw [show ((a : Int) + (i : Int)).toNat = a + i by omega]
      refine ih (i + 1) _ s' (by omega) (by omega) (PO_w hp ht hbb (fun q => (tr q).2) i8 hr) (fun j hj2 => ?_)
      by_cases cj : j = i
      · rw [cj, z_s (lit_R ht.1.2.1.2.1.2 hr)]
        exact ⟨fun v hv2 => hv v (CSv_o (Or.inl rfl) hv2), fun q => (tr q).1⟩
      · rw [z_k (by omega), fr_z ht.1.1 (by decide)]
        have := hj j (by omega)
        exact ⟨fun v hv2 => this.1 v (CSv_2 (CSv_o (Or.inl rfl) hv2) ht), this.2⟩
  exact l 8 0 σ1 s1 (by decide) (by decide) base (fun j hj => absurd hj (by omega))
theorem k_single {K : q_H → Prop} {x1 : Int} {w wa : Nat} (hd : 4 ≤ d) (hn : n ≤ 3200) (ha : a + 8 ≤ n) (i1 : 19 ≤ x1 ∧ x1 ≤ 21) (h : PO n σ0 s0 B a π sπ σ s) (w8 : 1 ≤ wa ∧ wa ≤ 8) (hww : (w : Int) = uW x1 (wa : Int)) (h1 : wdt (fun j => z σ 58 (a + j)) wa) (hB : s + 2 * wa < 10240)
    (kk : ∀ τ s', PO n σ0 s0 (B + 2 * wa) a π sπ τ s' → s ≤ s' → s' ≤ s + 2 * wa → RO a σ τ → wdt (fun j => z τ 58 (a + j)) w → (∀ v, CSv s' τ v → CSv s σ v ∧ nV v (fun j => z τ 58 (a + j)) 8 = op1 x1 w (nV v (fun j => z σ 58 (a + j)) 8)) → K τ) : J ω m_Wo_single d 0 0 0 0 0 [(0, .ref 49), (1, .int (zI x1)), (2, .int (zI (a : Int))), (3, .int (zI (w : Int)))] [] σ (q_kv K) := by
  obtain ⟨d, rfl⟩ : ∃ k, d = k + 1 := ⟨d - 1, by omega⟩
  have sB := h.2.2.1
  by_cases c19 : x1 = 19
  · subst c19
    have w1 : w = 1 := by have : uW 19 (wa : Int) = 1 := by { unfold uW; rw [if_pos rfl] }; omega
    refine b_Wo_single_0 (PO_E h) ⟨⟨by decide, by decide⟩, fun q => absurd rfl q, fun _ => ?_⟩
    refine k_truth (by omega) hn ha h w8.2 h1 (by omega) (fun r σ1 s1 hp1 ht1 hb1 hl1 hR hv1 hf1 => b_Wo_single_13 (PO_E hp1) ?_)
    have t10 := ht1.1.2.1.2.1
    refine k_leave (by omega) ha hn hp1 (lit_x t10.2 hl1).1 (fun τ hp ho hr h0 hw => b_Wo_single_18 (PO_E hp) ⟨rfl, kk τ s1 (PO_le hp (by omega)) ht1.1.2.2.1 (by omega) (fun j q => by rw [hr j q, fr_z ht1.1.1 (by decide)]) (by rw [w1]; exact hw) (fun v hv => ?_)⟩)
    have cv : CSv s1 σ1 v := CSv_z (ho 51 (by decide)) (ho 52 (by decide)) (ho 53 (by decide)) (ho 54 (by decide)) hv
    refine ⟨CSv_2 cv ht1, ?_⟩
    rw [nV_leave hv.1 hw]
    show (lvb v (z τ 58 (a + 0))).toNat = tru (nV v (fun j => z σ 58 (a + j)) 8 = 0)
    rw [Nat.add_zero, h0, lvb_x hl1.1 (by have := hl1.2; omega), hv1 v cv]
    unfold tru
    by_cases q : nV v (fun j => z σ 58 (a + j)) 8 = 0
    · rw [if_pos q]; simp [q]
    · rw [if_neg q]; simp [q]
  · have w1 : w = wa := by have : uW x1 (wa : Int) = wa := by { unfold uW; rw [if_neg c19] }; omega
    subst w1
    -- c0: what is added
    have l : ∀ (c0 : Nat) (k i : Nat) (x4 : Int) (ρ : q_H) (t : Nat), w ≤ i + k → i ≤ w → (c0 = 0 ∧ x1 = 20 ∨ c0 = 1 ∧ x1 = 21) → PO n σ0 s0 (2 * i) a σ s ρ t → lit t x4 → (∀ j, i ≤ j → j < 8 → z ρ 58 (a + j) = z σ 58 (a + j)) → (∀ v, CSv t ρ v → nV v (fun j => z ρ 58 (a + j)) i + 2 ^ i * (lvb v x4).toNat + nV v (fun j => z σ 58 (a + j)) i + 1 = 2 ^ i + c0) → J ω m_Wo_single (d + 1) 0 0 0 0 35 [(0, .ref 49), (2, .int (zI (a : Int))), (3, .int (zI (w : Int))), (4, .int (zI x4)), (5, .int (zI (i : Int)))] [] ρ (q_kv K) := by
      intro c0 k
      have fin : ∀ (i : Nat) (x4 : Int) (ρ : q_H) (t : Nat), i = w → (c0 = 0 ∧ x1 = 20 ∨ c0 = 1 ∧ x1 = 21) → PO n σ0 s0 (2 * i) a σ s ρ t → (∀ j, i ≤ j → j < 8 → z ρ 58 (a + j) = z σ 58 (a + j)) → (∀ v, CSv t ρ v → nV v (fun j => z ρ 58 (a + j)) i + 2 ^ i * (lvb v x4).toNat + nV v (fun j => z σ 58 (a + j)) i + 1 = 2 ^ i + c0) → q_kv K (.inl none) ρ := by
        intro i x4 ρ t hi hc hp hj hv
        subst hi
        have wd : wdt (fun j => z ρ 58 (a + j)) i := fun j q1 q2 => by
          show z ρ 58 (a + j) = 1
          rw [hj j q1 q2]; exact h1 j q1 q2
        refine ⟨rfl, kk ρ t (PO_le (PO_tr h hp) (by have := hp.2.2.1; omega)) hp.2.1 hp.2.2.1 (fun j q => PO_r hp q) wd (fun v hvv => ⟨PO_v hp hvv, ?_⟩)⟩
        have e := hv v hvv
        have b1 := nV_lt (v := v) (f := fun j => z ρ 58 (a + j)) i
        have b2 := nV_lt (v := v) (f := fun j => z σ 58 (a + j)) i
        rw [nV_w hvv.1 wd 8 w8.2 (Nat.le_refl _), nV_w hvv.1 h1 8 w8.2 (Nat.le_refl _)]
        unfold op1
        have p := Nat.two_pow_pos i
        generalize nV v (fun j => z ρ 58 (a + j)) i = X at *
        generalize nV v (fun j => z σ 58 (a + j)) i = Y at *
        generalize 2 ^ i = M at *
        rcases hc with ⟨hc, hx⟩ | ⟨hc, hx⟩
        · rw [if_neg (by omega), if_pos hx]
          cases hb : lvb v x4 with
          | false => rw [hb] at e; simp at e; omega
          | true => rw [hb] at e; simp at e; omega
        · rw [if_neg (by omega), if_neg (by omega)]
          cases hb : lvb v x4 with
          | false =>
            rw [hb] at e; simp at e
            rw [show M - Y = X by omega, Nat.mod_eq_of_lt b1]
          | true =>
            rw [hb] at e; simp at e
            rw [show M - Y = M by omega, Nat.mod_self]
            omega
      induction k with
      | zero =>
        intro i x4 ρ t hi hiw hc hp hl hj hv
        exact b_Wo_single_35 (PO_E hp) ⟨⟨by omega, by omega⟩, ⟨by omega, by omega⟩, fun _ => fin i x4 ρ t (by omega) hc hp hj hv, fun q => absurd q (by omega)⟩
      | succ k ih =>
        intro i x4 ρ t hi hiw hc hp hl hj hv
        refine b_Wo_single_35 (PO_E hp) ⟨⟨by omega, by omega⟩, ⟨by omega, by omega⟩, fun q => fin i x4 ρ t (by omega) hc hp hj hv, fun c8 => ⟨⟨by omega, by omega⟩, ?_⟩⟩
        have i8 : i < w := by omega
        have pl := hp.2.2.1
        have t10 := PO_s hp
        rw [show ((a : Int) + (i : Int)).toNat = a + i by omega]
        have la : lit t (z ρ 58 (a + i)) := PO_ll hp (by omega)
        have lx := (lit_x t10.2 la).1
        have ei : z ρ 58 (a + i) = z σ 58 (a + i) := hj i (Nat.le_refl _) (by omega)
        refine k_xor (by omega) (PO_E hp) (PO_C hp) (PO_H hp) (by omega) lx hl (fun r τ s' ht hbb hr hvx _ _ => b_Wo_single_73 (fr_E ht.1.1 (PO_E hp)) ⟨⟨by omega, by omega⟩, ?_⟩)
        rw [show ((a : Int) + (i : Int)).toNat = a + i by omega]
        have p1 : PO n σ0 s0 (2 * i + 1) a σ s (zs τ 58 (a + i) r) s' := PO_58 (PO_CX hp ht (by omega)) ⟨by omega, by omega⟩ hr
        have l1 := p1.2.2.1
        refine k_and (by omega) (PO_E p1) (PO_C p1) (PO_H p1) (by omega) (lit_m lx ht.1.2.2.1) (lit_m hl ht.1.2.2.1) (fun r2 τ2 s2 ht2 hb2 hr2 hRA _ => b_Wo_single_85 (fr_E ht2.1.1 (PO_E p1)) ?_)
        have e2 : z τ2 58 = z (zs τ 58 (a + i) r) 58 := fr_zF ht2.1.1 (by decide)
        have e3 : z τ 58 = z ρ 58 := fr_zF ht.1.1 (by decide)
        have bi : z τ2 58 (a + i) = r := by rw [e2, z_s (lit_R (PO_s p1).2 hr)]
        have bo : ∀ j, j ≠ i → z τ2 58 (a + j) = z ρ 58 (a + j) := fun j q => by rw [e2, z_k (by omega), e3]
        refine ih (i + 1) r2 τ2 s2 (by omega) (by omega) hc (PO_CX p1 ht2 (by omega)) hr2 (fun j q1 q2 => by rw [bo j (by omega)]; exact hj j (by omega) q2) (fun v hvv => ?_)
        have c1 : CSv s' τ v := CSv_o (Or.inl rfl) (CSv_2 hvv ht2)
        have c0' := CSv_2 c1 ht
        have e := hv v c0'
        have sx := hvx v c1
        have sa := RA_v hRA (PO_s (PO_CX p1 ht2 (B' := 2 * i + 2) (by omega))).2 (lit_m (lit_m lx ht.1.2.2.1) ht2.1.2.2.1) (lit_m (lit_m hl ht.1.2.2.1) ht2.1.2.2.1) hvv
        rw [lvb_x la.1 (by have := la.2; omega)] at sx sa
        rw [nV_s, nV_s, Nat.pow_succ, nV_cf (f := fun j => z τ2 58 (a + j)) (g := fun j => z ρ 58 (a + j)) i (fun j hj2 => bo j (by omega))]
        show nV v (fun j => z ρ 58 (a + j)) i + 2 ^ i * (lvb v (z τ2 58 (a + i))).toNat + 2 ^ i * 2 * (lvb v r2).toNat + (nV v (fun j => z σ 58 (a + j)) i + 2 ^ i * (lvb v (z σ 58 (a + i))).toNat) + 1 = 2 ^ i * 2 + c0
        rw [bi, sx, sa, ← ei]
        exact half_add _ _ _ _ _ _ e
    have b0 : PO n σ0 s0 (2 * 0) a σ s σ s := PO_refl h.1
    refine b_Wo_single_0 (PO_E h) ⟨⟨by omega, by omega⟩, fun _ => ⟨fun q => l 0 w 0 1 σ s (by omega) (by omega) (by omega) b0 (PO_l1 h) (fun _ _ _ => rfl) (fun v hv => by rw [lvb_1 hv.1]; rfl), fun q => l 1 w 0 0 σ s (by omega) (by omega) (by omega) b0 (PO_l0 h) (fun _ _ _ => rfl) (fun v hv => by rw [lvb_0 hv.1]; rfl)⟩, fun q => absurd q c19⟩
end W3J
