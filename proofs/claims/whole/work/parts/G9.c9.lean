/-! WORDS, by the sign: what two operands come to -/
theorem wdt_le {f : Nat → Int} {w w' : Nat} (h : wdt f w) (hw : w ≤ w') : wdt f w' := fun j h1 h2 => h j (Nat.le_trans hw h1) h2
theorem tru_d {p : Prop} [Decidable p] : (decide p).toNat = tru p := by
  unfold tru
  by_cases c : p
  · rw [if_pos c, decide_eq_true c]; rfl
  · rw [if_neg c, decide_eq_false c]; rfl
theorem tru_c {p q : Prop} [Decidable p] [Decidable q] (h : p ↔ q) : tru p = tru q := by
  unfold tru
  by_cases c : p
  · rw [if_pos c, if_pos (h.mp c)]
  · rw [if_neg c, if_neg (fun q => c (h.mpr q))]
theorem tru_n {p q : Prop} [Decidable p] [Decidable q] (h : ¬ p ↔ q) : (!decide p).toNat = tru q := by
  unfold tru
  by_cases c : p
  · rw [if_neg (fun x => (h.mpr x) c), decide_eq_true c]; rfl
  · rw [if_pos (h.mp c), decide_eq_false c]; rfl
theorem oW_1 {u p q : Int} (h : u = 1 ∨ u = 2 ∨ u = 6 ∨ u = 7 ∨ u = 8 ∨ u = 9 ∨ u = 10 ∨ u = 11) : oW u p q = 1 := by
  rcases h with h | h | h | h | h | h | h | h <;> subst h <;> exact if_pos (by decide)
theorem oW_s {u p q : Int} (h : u = 12 ∨ u = 13) : oW u p q = p := by
  rcases h with h | h <;> subst h <;> (unfold oW; rw [if_neg (by decide), if_pos (by decide)])
theorem oW_m {u p q : Int} (h : u = 3 ∨ u = 4 ∨ u = 5 ∨ u = 14 ∨ u = 15 ∨ u = 16 ∨ u = 17 ∨ u = 18) : oW u p q = max p q := by
  rcases h with h | h | h | h | h | h | h | h <;> subst h <;> (unfold oW; rw [if_neg (by decide), if_neg (by decide)])
theorem oP_1 {u w : Int} (h : (1 ≤ u ∧ u ≤ 11) ∨ u = 14 ∨ u = 15) : oP u w = w.toNat := by
  obtain ⟨j, rfl⟩ : ∃ j : Nat, u = (j : Int) := ⟨u.toNat, by omega⟩
  have c : j = 1 ∨ j = 2 ∨ j = 3 ∨ j = 4 ∨ j = 5 ∨ j = 6 ∨ j = 7 ∨ j = 8 ∨ j = 9 ∨ j = 10 ∨ j = 11 ∨ j = 14 ∨ j = 15 := by omega
  rcases c with h | h | h | h | h | h | h | h | h | h | h | h | h <;> subst h <;> (unfold oP; rw [if_neg (by decide), if_neg (by decide)])
theorem oP_s {u w : Int} (h : u = 12 ∨ u = 13) : oP u w = (4 * w).toNat := by
  rcases h with h | h <;> subst h <;> (unfold oP; rw [if_neg (by decide), if_pos (by decide)])
theorem oP_q {u w : Int} (h : u = 16 ∨ u = 17 ∨ u = 18) : oP u w = (w * w).toNat := by
  rcases h with h | h | h <;> subst h <;> (unfold oP; rw [if_pos (by decide)])
theorem oP_ge {u : Int} {w : Nat} (hu : 1 ≤ u ∧ u ≤ 18) (h1 : 1 ≤ w) : w ≤ oP u (w : Int) := by
  by_cases c : u = 12 ∨ u = 13
  · rw [oP_s c]; omega
  · by_cases c2 : u = 16 ∨ u = 17 ∨ u = 18
    · rw [oP_q c2]
      have : ((w : Int) * (w : Int)).toNat = w * w := by rw [← Int.natCast_mul, Int.toNat_natCast]
      rw [this]
      exact Nat.le_mul_of_pos_left w h1
    · rw [oP_1 (by omega)]; omega
section W9J
variable {ω : q_W} {d s n s0 : Nat} {σ σ0 : q_H} {B a : Nat} {π : q_H} {sπ : Nat}
/-- a literal is left as a number -/
theorem k_lv {K : q_H → Prop} {ρ : q_H} {t C : Nat} {r : Int} {P : (Nat → Bool) → Nat} (hd : 1 ≤ d) (ha : a + 8 ≤ n) (hn : n ≤ 3200) (hp : PO n σ0 s0 C a π sπ ρ t) (hx : CX2 s t σ ρ) (hl : lit t r) (hv : ∀ v, CSv t ρ v → (lvb v r).toNat = P v)
    (kk : ∀ τ, PO n σ0 s0 C a π sπ τ t → RO a σ τ → wdt (fun j => z τ 58 (a + j)) 1 → (∀ v, CSv t τ v → CSv s σ v ∧ nV v (fun j => z τ 58 (a + j)) 8 = P v) → K τ) : J ω m_Wo_leave d 0 0 0 0 0 [(0, .ref 49), (1, .int (zI (a : Int))), (2, .int (zI r))] [] ρ (q_kv K) := by
  refine k_leave hd ha hn hp hl (fun τ hp ho hr h0 hw => kk τ hp (fun j q => by rw [hr j q, fr_z hx.1.1 (by decide)]) hw (fun v hv2 => ?_))
  have cv : CSv t ρ v := CSv_z (ho 51 (by decide)) (ho 52 (by decide)) (ho 53 (by decide)) (ho 54 (by decide)) hv2
  refine ⟨CSv_2 cv hx, ?_⟩
  rw [nV_leave hv2.1 hw]
  show (lvb v (z τ 58 (a + 0))).toNat = P v
  rw [Nat.add_zero, h0, hv v cv]
theorem k_logic {K : q_H → Prop} {x1 : Int} {b w wa wb : Nat} (hd : 4 ≤ d) (hn : n ≤ 3200) (hab : a + 8 ≤ b) (hb8 : b + 8 ≤ n) (i1 : 1 ≤ x1 ∧ x1 ≤ 11) (h : PO n σ0 s0 B a π sπ σ s) (w8 : (1 ≤ wa ∧ wa ≤ 8) ∧ 1 ≤ wb ∧ wb ≤ 8) (hww : (w : Int) = oW x1 (wa : Int) (wb : Int)) (h1 : wdt (fun j => z σ 58 (a + j)) wa) (h2 : wdt (fun j => z σ 58 (b + j)) wb) (hB : s + 3 * max wa wb < 10240)
    (kk : ∀ τ s', PO n σ0 s0 (B + 3 * max wa wb) a π sπ τ s' → s ≤ s' → s' ≤ s + 3 * max wa wb → RO a σ τ → wdt (fun j => z τ 58 (a + j)) w → (∀ v, CSv s' τ v → CSv s σ v ∧ nV v (fun j => z τ 58 (a + j)) 8 = op2 x1 w (nV v (fun j => z σ 58 (a + j)) 8) (nV v (fun j => z σ 58 (b + j)) 8)) → K τ) : J ω m_Wo_logic d 0 0 0 0 0 [(0, .ref 49), (1, .int (zI x1)), (2, .int (zI (a : Int))), (3, .int (zI (b : Int)))] [] σ (q_kv K) := by
  obtain ⟨d, rfl⟩ : ∃ k, d = k + 1 := ⟨d - 1, by omega⟩
  have ha : a + 8 ≤ n := by omega
  have sB := h.2.2.1
  have m1 : wdt (fun j => z σ 58 (a + j)) (max wa wb) := wdt_le h1 (by omega)
  have m2 : wdt (fun j => z σ 58 (b + j)) (max wa wb) := wdt_le h2 (by omega)
  have fin : ∀ (K' : q_H → Prop) (ρ : q_H) (t C : Nat) (r : Int), PO n σ0 s0 C a π sπ ρ t → CX2 s t σ ρ → t ≤ s + 3 * max wa wb → lit t r → (x1 = 1 ∨ x1 = 2 ∨ x1 = 6 ∨ x1 = 7 ∨ x1 = 8 ∨ x1 = 9 ∨ x1 = 10 ∨ x1 = 11) → (∀ v, CSv t ρ v → (lvb v r).toNat = op2 x1 w (nV v (fun j => z σ 58 (a + j)) 8) (nV v (fun j => z σ 58 (b + j)) 8)) → (∀ τ, q_E τ → K τ → K' τ) → J ω m_Wo_leave d 0 0 0 0 0 [(0, .ref 49), (1, .int (zI (a : Int))), (2, .int (zI r))] [] ρ (q_kv K') := by
    intro K' ρ t C r hp hx hb hl hc hv hk
    have w1 : w = 1 := by have := oW_1 (p := (wa : Int)) (q := (wb : Int)) hc; omega
    refine k_lv (by omega) ha hn hp hx hl hv (fun τ hp2 hro hw hv2 => hk τ (PO_E hp2) (kk τ t (PO_le hp2 (by omega)) hx.1.2.2.1 hb hro (by rw [w1]; exact hw) hv2))
  have two : ∀ (K' : Int → q_H → Prop) (r1 : Int) (σ1 : q_H) (s1 : Nat), PO n σ0 s0 (B + (wa - 1)) a π sπ σ1 s1 → CX2 s s1 σ σ1 → s1 ≤ s + (wa - 1) → (∀ v, CSv s1 σ1 v → lvb v r1 = decide (nV v (fun j => z σ 58 (a + j)) 8 ≠ 0)) →
      (∀ r σ2 s2, PO n σ0 s0 (B + (wa - 1) + (wb - 1)) a π sπ σ2 s2 → CX2 s s2 σ σ2 → CX2 s1 s2 σ1 σ2 → s2 ≤ s + (wa - 1) + (wb - 1) → lit s2 r → (∀ v, CSv s2 σ2 v → lvb v r1 = decide (nV v (fun j => z σ 58 (a + j)) 8 ≠ 0) ∧ lvb v r = decide (nV v (fun j => z σ 58 (b + j)) 8 ≠ 0)) → K' r σ2) → J ω m_Wo_truth d 0 0 0 0 0 [(0, .ref 49), (1, .int (zI (b : Int)))] [] σ1 (q_ki K') := by
    intro K' r1 σ1 s1 hp1 hx1 hb1 hv1 k2
    have e58 : z σ1 58 = z σ 58 := fr_zF hx1.1.1 (by decide)
    refine k_truth (w := wb) (by omega) hn hb8 hp1 (by omega) (by rw [e58]; exact h2) (by omega) (fun r σ2 s2 hp2 hx2 hb2 hl2 _ hv2 _ => k2 r σ2 s2 hp2 (CX2_trans hx1 hx2) hx2 (by omega) hl2 (fun v cv => ⟨hv1 v (CSv_2 cv hx2), ?_⟩))
    rw [hv2 v cv, e58]
  refine b_Wo_logic_0 (PO_E h) ⟨⟨by omega, by omega⟩, fun c => ?_, fun c => ?_, fun c => ?_, fun c => ?_, fun c => ?_, fun c => ?_, fun c => ?_, fun c => ?_, fun c => ?_⟩
  · refine k_truth (w := wa) (by omega) hn ha h (by omega) h1 (by omega) (fun r1 σ1 s1 hp1 hx1 hb1 hl1 _ hv1 _ => b_Wo_logic_71 (PO_E hp1) (two _ r1 σ1 s1 hp1 hx1 hb1 hv1 (fun r σ2 s2 hp2 hx2 hx12 hb2 hl2 hv2 => b_Wo_logic_76 (PO_E hp2) ?_)))
    refine k_or (by omega) (PO_E hp2) (PO_C hp2) (PO_H hp2) (by omega) (lit_m hl1 hx12.1.2.2.1) hl2 (fun r3 σ3 s3 hx3 hb3 hl3 hv3 _ _ => b_Wo_logic_79 (fr_E hx3.1.1 (PO_E hp2)) ?_)
    refine fin _ σ3 s3 _ r3 (PO_CX hp2 hx3 (B' := B + (wa - 1) + (wb - 1) + 1) (by have := hp2.2.2.1; omega)) (CX2_trans hx2 hx3) (by omega) hl3 (Or.inl c) (fun v cv => ?_) (fun τ e q => b_Wo_logic_82 e ⟨rfl, q⟩)
    rw [hv3 v cv, (hv2 v (CSv_2 cv hx3)).1, (hv2 v (CSv_2 cv hx3)).2, c]
    show _ = tru _
    rw [← tru_d, Bool.decide_or]
  · refine k_truth (w := wa) (by omega) hn ha h (by omega) h1 (by omega) (fun r1 σ1 s1 hp1 hx1 hb1 hl1 _ hv1 _ => b_Wo_logic_96 (PO_E hp1) (two _ r1 σ1 s1 hp1 hx1 hb1 hv1 (fun r σ2 s2 hp2 hx2 hx12 hb2 hl2 hv2 => b_Wo_logic_101 (PO_E hp2) ?_)))
    refine k_and (by omega) (PO_E hp2) (PO_C hp2) (PO_H hp2) (by omega) (lit_m hl1 hx12.1.2.2.1) hl2 (fun r3 σ3 s3 hx3 hb3 hl3 hv3 _ => b_Wo_logic_104 (fr_E hx3.1.1 (PO_E hp2)) ?_)
    refine fin _ σ3 s3 _ r3 (PO_CX hp2 hx3 (B' := B + (wa - 1) + (wb - 1) + 1) (by have := hp2.2.2.1; omega)) (CX2_trans hx2 hx3) (by omega) hl3 (Or.inr (Or.inl c)) (fun v cv => ?_) (fun τ e q => b_Wo_logic_107 e ⟨rfl, q⟩)
    have g := lit_m (lit_m hl1 hx12.1.2.2.1) hx3.1.2.2.1
    rw [RA_v hv3 hx3.1.2.1.2.1.2 g (lit_m hl2 hx3.1.2.2.1) cv, (hv2 v (CSv_2 cv hx3)).1, (hv2 v (CSv_2 cv hx3)).2, c]
    show _ = tru _
    rw [← tru_d, Bool.decide_and]
  · refine k_same (w := max wa wb) (by omega) hn ha hb8 h (by omega) m1 m2 (by omega) (fun r ρ t hp hx hb hl hv => b_Wo_logic_118 (PO_E hp) (fin _ ρ t _ r hp hx (by omega) hl (by omega) (fun v cv => ?_) (fun τ e q => b_Wo_logic_121 e ⟨rfl, q⟩)))
    rw [hv v cv, c]
    exact tru_d
  · refine k_same (w := max wa wb) (by omega) hn ha hb8 h (by omega) m1 m2 (by omega) (fun r ρ t hp hx hb hl hv => b_Wo_logic_132 (PO_E hp) (fin _ ρ t _ _ hp hx (by omega) (lit_x (PO_s hp).2 hl).1 (by omega) (fun v cv => ?_) (fun τ e q => b_Wo_logic_137 e ⟨rfl, q⟩)))
    rw [lvb_x hl.1 (by have := hl.2; have := (PO_s hp).2; omega), hv v cv, c]
    exact tru_n Iff.rfl
  · refine k_below (w := max wa wb) (by omega) hn ha hb8 h (by omega) m1 m2 (by omega) (fun r ρ t hp hx hb hl hv => b_Wo_logic_148 (PO_E hp) (fin _ ρ t _ r hp hx (by omega) hl (by omega) (fun v cv => ?_) (fun τ e q => b_Wo_logic_151 e ⟨rfl, q⟩)))
    rw [hv v cv, c]
    exact tru_d
  · refine k_below (w := max wa wb) (by omega) hn hb8 ha h (by omega) m2 m1 (by omega) (fun r ρ t hp hx hb hl hv => b_Wo_logic_162 (PO_E hp) (fin _ ρ t _ _ hp hx (by omega) (lit_x (PO_s hp).2 hl).1 (by omega) (fun v cv => ?_) (fun τ e q => b_Wo_logic_167 e ⟨rfl, q⟩)))
    rw [lvb_x hl.1 (by have := hl.2; have := (PO_s hp).2; omega), hv v cv, c]
    exact tru_n Nat.not_lt
  · refine k_below (w := max wa wb) (by omega) hn hb8 ha h (by omega) m2 m1 (by omega) (fun r ρ t hp hx hb hl hv => b_Wo_logic_178 (PO_E hp) (fin _ ρ t _ r hp hx (by omega) hl (by omega) (fun v cv => ?_) (fun τ e q => b_Wo_logic_181 e ⟨rfl, q⟩)))
    rw [hv v cv, c]
    exact tru_d
  · refine k_below (w := max wa wb) (by omega) hn ha hb8 h (by omega) m1 m2 (by omega) (fun r ρ t hp hx hb hl hv => b_Wo_logic_192 (PO_E hp) (fin _ ρ t _ _ hp hx (by omega) (lit_x (PO_s hp).2 hl).1 (by omega) (fun v cv => ?_) (fun τ e q => b_Wo_logic_197 e ⟨rfl, q⟩)))
    rw [lvb_x hl.1 (by have := hl.2; have := (PO_s hp).2; omega), hv v cv, c]
    exact tru_n Nat.not_lt
  · have wm : w = max wa wb := by have := oW_m (u := x1) (p := (wa : Int)) (q := (wb : Int)) (by omega); omega
    subst wm
    exact k_bitwise (by omega) hn hab hb8 (by omega) h ⟨w8.1.2, w8.2.2⟩ h1 h2 (by omega) (fun τ s' hp h3 h4 hro hw hv => b_Wo_logic_207 (PO_E hp) ⟨rfl, kk τ s' (PO_le hp (by have := hp.2.2.1; omega)) h3 (by omega) hro hw hv⟩)
theorem sq_c {w : Nat} : ((w : Int) * (w : Int)).toNat = w * w := by rw [← Int.natCast_mul, Int.toNat_natCast]
theorem k_arithmetic {K : q_H → Prop} {x1 : Int} {b w wa wb : Nat} (hd : 4 ≤ d) (hn : n ≤ 3200) (hab : a + 8 ≤ b) (hb8 : b + 8 ≤ n) (i1 : 12 ≤ x1 ∧ x1 ≤ 18) (h : PO n σ0 s0 B a π sπ σ s) (w8 : (1 ≤ wa ∧ wa ≤ 8) ∧ 1 ≤ wb ∧ wb ≤ 8) (hww : (w : Int) = oW x1 (wa : Int) (wb : Int)) (h1 : wdt (fun j => z σ 58 (a + j)) wa) (h2 : wdt (fun j => z σ 58 (b + j)) wb) (hB : s + 3 * oP x1 ((max wa wb : Nat) : Int) < 10240)
    (kk : ∀ τ s', PO n σ0 s0 (B + 3 * oP x1 ((max wa wb : Nat) : Int)) a π sπ τ s' → s ≤ s' → s' ≤ s + 3 * oP x1 ((max wa wb : Nat) : Int) → RO a σ τ → wdt (fun j => z τ 58 (a + j)) w → (∀ v, CSv s' τ v → CSv s σ v ∧ nV v (fun j => z τ 58 (a + j)) 8 = op2 x1 w (nV v (fun j => z σ 58 (a + j)) 8) (nV v (fun j => z σ 58 (b + j)) 8)) → K τ) : J ω m_Wo_arithmetic d 0 0 0 0 0 [(0, .ref 49), (1, .int (zI x1)), (2, .int (zI (a : Int))), (3, .int (zI (b : Int))), (4, .int (zI (w : Int)))] [] σ (q_kv K) := by
  obtain ⟨d, rfl⟩ : ∃ k, d = k + 1 := ⟨d - 1, by omega⟩
  have sB := h.2.2.1
  have mx : ∀ _ : x1 = 14 ∨ x1 = 15 ∨ x1 = 16 ∨ x1 = 17 ∨ x1 = 18, w = max wa wb := fun c => by have := oW_m (u := x1) (p := (wa : Int)) (q := (wb : Int)) (by omega); omega
  refine b_Wo_arithmetic_0 (PO_E h) ⟨⟨by omega, by omega⟩, fun c => ?_, fun c => ?_, fun c => ?_, fun c => ?_, fun c => ?_⟩
  · have ww : w = wa := by have := oW_s (p := (wa : Int)) (q := (wb : Int)) c; omega
    subst ww
    have pe : oP x1 ((max w wb : Nat) : Int) = 4 * max w wb := by rw [oP_s c]; omega
    rw [pe] at hB kk
    exact k_shift (by omega) hn hab hb8 c h ⟨w8.1.1, w8.1.2⟩ h1 (by omega) (fun τ s' hp h3 h4 hro hw hv => b_Wo_arithmetic_45 (PO_E hp) ⟨rfl, kk τ s' (PO_le hp (by have := hp.2.2.1; omega)) h3 (by omega) hro hw hv⟩)
  · have wm := mx (by omega)
    have pe : oP x1 ((max wa wb : Nat) : Int) = max wa wb := by rw [oP_1 (by omega)]; omega
    rw [pe] at hB kk
    subst wm
    exact k_sum (by omega) hn hab hb8 (Or.inr rfl) h (by omega) (by omega) h1 h2 (by omega) (fun τ s' hp h3 h4 hro hw hv => b_Wo_arithmetic_57 (PO_E hp) ⟨rfl, kk τ s' hp h3 (by omega) hro hw (by rw [c]; exact hv)⟩)
  · have wm := mx (by omega)
    have pe : oP x1 ((max wa wb : Nat) : Int) = max wa wb := by rw [oP_1 (by omega)]; omega
    rw [pe] at hB kk
    subst wm
    exact k_sum (by omega) hn hab hb8 (Or.inl rfl) h (by omega) (by omega) h1 h2 (by omega) (fun τ s' hp h3 h4 hro hw hv => b_Wo_arithmetic_69 (PO_E hp) ⟨rfl, kk τ s' hp h3 (by omega) hro hw (by rw [c]; exact hv)⟩)
  · have wm := mx (by omega)
    have pe : oP x1 ((max wa wb : Nat) : Int) = max wa wb * max wa wb := by rw [oP_q (by omega)]; exact sq_c
    rw [pe] at hB kk
    have le := mC_le (max wa wb) (by omega)
    subst wm
    generalize max wa wb * max wa wb = Q at hB kk le
    exact k_multiply (by omega) hn hab hb8 h (by omega) (by omega) h1 h2 (by omega) (fun τ s' hp h3 h4 hro hw hv => b_Wo_arithmetic_80 (PO_E hp) ⟨rfl, kk τ s' (PO_le hp (by have := hp.2.2.1; omega)) h3 (by omega) hro hw (by rw [c]; exact hv)⟩)
  · have wm := mx (by omega)
    have pe : oP x1 ((max wa wb : Nat) : Int) = max wa wb * max wa wb := by rw [oP_q (by omega)]; exact sq_c
    rw [pe] at hB kk
    have le := dC_le (max wa wb) (by omega)
    subst wm
    generalize max wa wb * max wa wb = Q at hB kk le
    exact k_divide (by omega) hn hab hb8 (by omega) h (by omega) (by omega) h1 h2 (by omega) (fun τ s' hp h3 h4 hro hw hv => b_Wo_arithmetic_92 (PO_E hp) ⟨rfl, kk τ s' (PO_le hp (by have := hp.2.2.1; omega)) h3 (by omega) hro hw hv⟩)
end W9J
