/-! INQUIRY: what must be less -/
theorem tb_less : ∀ (n X Y : Nat), Y < 2 ^ n → X < Y → ∃ b, b < n ∧ X.testBit b = false ∧ Y.testBit b = true ∧ ∀ c, b < c → X.testBit c = Y.testBit c
  | 0, X, Y, h, l => absurd l (by have : Y < 1 := h; omega)
  | n + 1, X, Y, h, l => by
    have h' : Y < 2 ^ n * 2 := h
    by_cases c : X / 2 < Y / 2
    · obtain ⟨b, b1, b2, b3, b4⟩ := tb_less n (X / 2) (Y / 2) (by omega) c
      refine ⟨b + 1, by omega, by rw [Nat.testBit_succ]; exact b2, by rw [Nat.testBit_succ]; exact b3, fun k hk => ?_⟩
      obtain ⟨k, rfl⟩ : ∃ j, k = j + 1 := ⟨k - 1, by omega⟩
      rw [Nat.testBit_succ, Nat.testBit_succ]; exact b4 k (by omega)
    · have e : X / 2 = Y / 2 := by omega
      refine ⟨0, by omega, ?_, ?_, fun k hk => ?_⟩
      · rw [Nat.testBit_zero]; exact decide_eq_false (by omega)
      · rw [Nat.testBit_zero]; exact decide_eq_true (by omega)
      · obtain ⟨k, rfl⟩ : ∃ j, k = j + 1 := ⟨k - 1, by omega⟩
        rw [Nat.testBit_succ, Nat.testBit_succ, e]
theorem le_bits {w m X : Nat} (hm : m < 2 ^ w) (hX : X < 2 ^ w) : (∀ i, i < w → m.testBit i = false → ∃ a, i ≤ a ∧ a < w ∧ (a = i ∨ m.testBit a = true) ∧ X.testBit a = false) ↔ X ≤ m := by
  constructor
  · intro h
    apply Decidable.byContradiction
    intro q
    obtain ⟨b, b1, b2, b3, b4⟩ := tb_less w m X hX (by omega)
    obtain ⟨a, a1, a2, a3, a4⟩ := h b b1 b2
    rcases a3 with e | e
    · rw [e, b3] at a4; cases a4
    · by_cases c : a = b
      · rw [c, b3] at a4; cases a4
      · rw [b4 a (by omega), a4] at e; cases e
  · intro h i hi mi
    by_cases e : X = m
    · exact ⟨i, Nat.le_refl _, hi, Or.inl rfl, by rw [e]; exact mi⟩
    · obtain ⟨b, b1, b2, b3, b4⟩ := tb_less w X m hm (by omega)
      rcases Nat.lt_trichotomy b i with c | c | c
      · exact ⟨i, Nat.le_refl _, hi, Or.inl rfl, by rw [b4 i c]; exact mi⟩
      · exact ⟨i, Nat.le_refl _, hi, Or.inl rfl, by rw [← c]; exact b2⟩
      · exact ⟨b, by omega, b1, Or.inr b3, b2⟩
theorem z_tb {m i : Nat} (hm : m < 2147483648) (hi : i < 32) : zAnd (zShr (m : Int) (i : Int)) 1 = if m.testBit i then 1 else 0 := by
  rw [zShr_e ⟨by omega, by omega⟩ hi, zAnd_1 (Int.ediv_nonneg (by omega) (Int.le_of_lt (Int.pow_pos (by decide))))]
  rw [Nat.testBit_eq_decide_div_mod_eq]
  have e : (m : Int) / 2 ^ i % 2 = ((m / 2 ^ i % 2 : Nat) : Int) := by simp
  rw [e]
  rcases (show m / 2 ^ i % 2 = 0 ∨ m / 2 ^ i % 2 = 1 by omega) with q | q <;> rw [q] <;> simp
section I5J
variable {ω : q_W} {d p s0 s V rc wc rq : Nat} {WI R : Nat → Int} {S : List q_St} {σ σ0 : q_H} {D : (Nat → Bool) → Prop}
theorem QQ_D {D' : (Nat → Bool) → Prop} (h : QQ p s0 s V WI S rc R wc rq D σ0 σ) (hd : ∀ v, CSv s σ v → (D v ↔ D' v)) : QQ p s0 s V WI S rc R wc rq D' σ0 σ := by
  obtain ⟨q1, q2, q3, q4, q5, q6⟩ := h
  exact ⟨q1, q2, q3, QP_D q4 hd, q5, q6⟩
theorem QQ_rq {rq' : Nat} (h : QQ p s0 s V WI S rc R wc rq D σ0 σ) (hr : rq ≤ rq') : QQ p s0 s V WI S rc R wc rq' D σ0 σ := by
  obtain ⟨q1, q2, q3, q4, q5, q6⟩ := h
  exact ⟨q1, q2, q3, QP_rq q4 hr, q5, q6⟩
theorem i_require2 {K : q_H → Prop} {sz : Nat} (hd : 4 ≤ d) (hp : p = 16 ∨ p = 29) (h : QQ p s0 s V WI S rc R wc rq D σ0 σ) (hrq : rq ≤ 28000) (hsz : sz ≤ 12) (hl : ∀ i, i < sz → lit s (z σ 93 i)) (hrl : ∀ i, i < sz → RLv (z σ 74) wc (z σ 83) (gt (z σ 93 i)))
    (kk : ∀ τ, QQ p s0 s V WI S rc R wc (rq + 3 + sz) (fun v => D v ∧ ∃ i, i < sz ∧ lvb v (z σ 93 i) = true) σ0 τ → fr [70, 71, 72, 73, 78, 79, 80, 81, 93] σ τ → K τ) : J ω m_So_require d 0 0 0 0 0 [(0, .ref 70), (1, .ref 93), (2, .int (zI (sz : Int)))] [] σ (q_kv K) := by
  obtain ⟨q1, q2, q3, q4, q5, q6⟩ := id h
  refine q_require hd q1.1.1.1 q1.1.2.2.1.2.1.2 q4 hrq hsz hl hrl (fun τ hτ G fm f84 => kk τ ⟨IS_fr hp q1 (fq_of G) (by simp), EXq_fq hp q2 (fq_of G) (by simp) (by rw [fr_zF G (by decide)]; exact q2.2.2.2.2.2), MKq_tr q3 ⟨by rw [fr_zF G (by decide)], by rw [fr_zF G (by decide)], fm⟩, hτ, ?_, by rw [fr_zF G (by decide)]; exact q6⟩ G)
  unfold WSH iW iN at q5 ⊢
  rw [fr_zF G (show (83 : Nat) ∉ _ by decide), fr_zF G (show (61 : Nat) ∉ _ by decide), fr_zF G (show p ∉ _ by simp; omega), fr_zF G (show p + 1 ∉ _ by simp; omega)]
  exact q5
/-- one place: not more there, unless less above -/
def LCl (m w : Nat) (f : Nat → Int) (v : Nat → Bool) (i : Nat) : Prop := m.testBit i = false → ∃ a, i ≤ a ∧ a < w ∧ (a = i ∨ m.testBit a = true) ∧ lvb v (zXor (f a) 1) = true
theorem i_requireLess2 {K : q_H → Prop} {v m wn : Nat} {x2 : Int} (hd : 5 ≤ d) (hp : p = 16 ∨ p = 29) (h : QQ p s0 s V WI S rc R wc rq D σ0 σ) (hrq : rq ≤ 27912) (hv : v < 12) (hw : z σ (p + 3) v = (wn : Int)) (hwb : 1 ≤ wn ∧ wn ≤ 8) (h2 : x2 = 0 ∨ x2 = 1) (hm : m < 2 ^ wn) (hrt : ∀ a, a < 8 → z σ 74 (gt (z σ 62 (8 * v + a))) = 1)
    (kk : ∀ τ, QQ p s0 s V WI S rc R wc (rq + 88) (fun u => D u ∧ nV u (fun a => zXor (z σ 62 (8 * v + a)) x2) wn ≤ m) σ0 τ → fr [70, 71, 72, 73, 78, 79, 80, 81, 93] σ τ → K τ) : J ω m_In_requireLess d 0 0 0 0 0 [(0, .ref 47), (1, .int (zI (v : Int))), (2, .int (zI x2)), (3, .int (zI ((m : Int) + 1)))] [] σ (q_kv K) := by
  obtain ⟨d, rfl⟩ : ∃ k, d = k + 1 := ⟨d - 1, by omega⟩
  have hs := h.1.1.2.2.1.2.1.2
  have s0s := h.1.1.2.2.2.1.2
  have lf : ∀ a, a < 8 → lit s (z σ 62 (8 * v + a)) := fun a ha => lit_m (h.1.1.2.2.2.2.2.1 _ (by omega)) s0s
  have l2 : ∀ a, a < 8 → lit s (zXor (z σ 62 (8 * v + a)) x2) := fun a ha => lit_b hs (lf a ha) h2
  have l3 : ∀ a, a < 8 → lit s (zXor (zXor (z σ 62 (8 * v + a)) x2) 1) := fun a ha => lit_b hs (l2 a ha) (Or.inr rfl)
  have g3 : ∀ a, a < 8 → gt (zXor (zXor (z σ 62 (8 * v + a)) x2) 1) = gt (z σ 62 (8 * v + a)) := fun a ha => by
    rw [zX_ng hs (l2 a ha), gt_ng]
    rcases h2 with e | e
    · rw [e, zXor_00 hs (lf a ha)]
    · rw [e, zX_ng hs (lf a ha), gt_ng]
  have mb : m < 256 := by
    have : 2 ^ wn ≤ 2 ^ 8 := Nat.pow_le_pow_right (by decide) hwb.2
    omega
  have fin : ∀ τ, QQ p s0 s V WI S rc R wc (rq + 88) (fun u => D u ∧ ∀ j, j < wn → LCl m wn (fun a => zXor (z σ 62 (8 * v + a)) x2) u j) σ0 τ → fr [70, 71, 72, 73, 78, 79, 80, 81, 93] σ τ → K τ := fun τ q ft => by
    refine kk τ (QQ_D q (fun u cu => ?_)) ft
    refine and_congr_right (fun _ => ?_)
    rw [← le_bits hm (nV_lt (v := u) (f := fun a => zXor (z σ 62 (8 * v + a)) x2) wn)]
    refine forall_congr' (fun i => forall_congr' (fun hi => ?_))
    unfold LCl
    refine forall_congr' (fun hmi => exists_congr (fun a => ?_))
    constructor
    · rintro ⟨a1, a2, a3, a4⟩
      refine ⟨a1, a2, a3, ?_⟩
      rw [nV_tb wn a a2]
      rw [zX_ng hs (l2 a (by omega)), lvb_ng (l2 a (by omega)).1] at a4
      simpa using a4
    · rintro ⟨a1, a2, a3, a4⟩
      refine ⟨a1, a2, a3, ?_⟩
      rw [nV_tb wn a a2] at a4
      rw [zX_ng hs (l2 a (by omega)), lvb_ng (l2 a (by omega)).1]
      simpa using a4
  have l : ∀ (k i : Nat) (ρ : q_H), 8 ≤ i + k → i ≤ wn → QQ p s0 s V WI S rc R wc (rq + 11 * i) (fun u => D u ∧ ∀ j, j < i → LCl m wn (fun a => zXor (z σ 62 (8 * v + a)) x2) u j) σ0 ρ → fr [70, 71, 72, 73, 78, 79, 80, 81, 93] σ ρ → J ω m_In_requireLess (d + 1) 0 0 0 0 8 [(0, .ref 47), (1, .int (zI (v : Int))), (2, .int (zI x2)), (4, .int (zI (m : Int))), (5, .int (zI (i : Int)))] [] ρ (q_kv K) := by
    intro k
    have out : ∀ (i : Nat) (ρ : q_H), i = wn → QQ p s0 s V WI S rc R wc (rq + 11 * i) (fun u => D u ∧ ∀ j, j < i → LCl m wn (fun a => zXor (z σ 62 (8 * v + a)) x2) u j) σ0 ρ → fr [70, 71, 72, 73, 78, 79, 80, 81, 93] σ ρ → K ρ := fun i ρ e a3 a4 => by
      subst e
      exact fin ρ (QQ_rq a3 (by omega)) a4
    induction k with
    | zero =>
      intro i ρ a1 a2 a3 a4
      have hI := a3.1
      refine b_In_requireLess_8 hp hI.1.1.2.1 hI.1.1.1 ?_
      rw [fr_zF a4 (show p + 3 ∉ _ by simp; omega), Int.toNat_natCast, hw]
      exact ⟨⟨by omega, by omega⟩, ⟨by omega, by omega⟩, fun _ => ⟨rfl, out i ρ (by omega) a3 a4⟩, fun c => absurd c (by omega)⟩
    | succ k ih =>
      intro i ρ a1 a2 a3 a4
      have hI := a3.1
      refine b_In_requireLess_8 hp hI.1.1.2.1 hI.1.1.1 ?_
      rw [fr_zF a4 (show p + 3 ∉ _ by simp; omega), Int.toNat_natCast, hw]
      refine ⟨⟨by omega, by omega⟩, ⟨by omega, by omega⟩, fun _ => ⟨rfl, out i ρ (by omega) a3 a4⟩, fun c => ?_⟩
      rw [z_tb (by omega) (by omega)]
      refine ⟨fun cb => ?_, fun cb => ?_⟩
      · have mi : m.testBit i = true := by
          cases hq : m.testBit i with
          | true => rfl
          | false => rw [hq] at cb; exact absurd rfl cb
        rw [show (i : Int) + 1 = ((i + 1 : Nat) : Int) by omega]
        refine ih (i + 1) ρ (by omega) (by omega) (QQ_D (QQ_rq a3 (by omega)) (fun u _ => ⟨fun q => ⟨q.1, fun j hj => ?_⟩, fun q => ⟨q.1, fun j hj => q.2 j (by omega)⟩⟩)) a4
        by_cases e : j = i
        · rw [e]; intro q; rw [mi] at q; cases q
        · exact q.2 j (by omega)
      · have mi : m.testBit i = false := by
          cases hq : m.testBit i with
          | true => rw [hq] at cb; exact absurd cb (by decide)
          | false => rfl
        have l2' : ∀ (k j n : Nat) (ρ : q_H), 8 ≤ j + k → i ≤ j → j ≤ wn → n ≤ j → QQ p s0 s V WI S rc R wc (rq + 11 * i) (fun u => D u ∧ ∀ j, j < i → LCl m wn (fun a => zXor (z σ 62 (8 * v + a)) x2) u j) σ0 ρ → fr [70, 71, 72, 73, 78, 79, 80, 81, 93] σ ρ → (∀ y, (∃ b, b < n ∧ z ρ 93 b = y) ↔ ∃ a, i ≤ a ∧ a < j ∧ (a = i ∨ m.testBit a = true) ∧ y = zXor (zXor (z σ 62 (8 * v + a)) x2) 1) → J ω m_In_requireLess (d + 1) 0 0 0 0 39 [(0, .ref 47), (1, .int (zI (v : Int))), (2, .int (zI x2)), (4, .int (zI (m : Int))), (5, .int (zI (i : Int))), (6, .int (zI (n : Int))), (7, .int (zI (j : Int)))] [] ρ (q_kv K) := by
          intro k
          have out : ∀ (j n : Nat) (ρ : q_H), j = wn → n ≤ 8 → QQ p s0 s V WI S rc R wc (rq + 11 * i) (fun u => D u ∧ ∀ j, j < i → LCl m wn (fun a => zXor (z σ 62 (8 * v + a)) x2) u j) σ0 ρ → fr [70, 71, 72, 73, 78, 79, 80, 81, 93] σ ρ → (∀ y, (∃ b, b < n ∧ z ρ 93 b = y) ↔ ∃ a, i ≤ a ∧ a < j ∧ (a = i ∨ m.testBit a = true) ∧ y = zXor (zXor (z σ 62 (8 * v + a)) x2) 1) → J ω m_So_require d 0 0 0 0 0 [(0, .ref 70), (1, .ref 93), (2, .int (zI (n : Int)))] [] ρ (q_kv (fun τ => J ω m_In_requireLess (d + 1) 0 0 0 0 119 [(0, .ref 47), (1, .int (zI (v : Int))), (2, .int (zI x2)), (4, .int (zI (m : Int))), (5, .int (zI (i : Int)))] [] τ (q_kv K))) := fun j n ρ ej b1 b2 b3 b4 => by
            subst ej
            have el : ∀ b, b < n → ∃ a, a < 8 ∧ z ρ 93 b = zXor (zXor (z σ 62 (8 * v + a)) x2) 1 := fun b hb => by
              obtain ⟨a, a1, a2, -, a4⟩ := (b4 (z ρ 93 b)).mp ⟨b, hb, rfl⟩
              exact ⟨a, by omega, a4⟩
            refine i_require2 (by omega) hp b2 (by omega) (by omega) (fun b hb => ?_) (fun b hb => ?_) (fun τ hτ ft => b_In_requireLess_119 hp hτ.1.1.1.2.1 hτ.1.1.1.1 ?_)
            · obtain ⟨a, a1, a2⟩ := el b hb
              rw [a2]; exact l3 a a1
            · obtain ⟨a, a1, a2⟩ := el b hb
              rw [a2, g3 a a1, fr_zF b3 (show (74 : Nat) ∉ _ by decide)]
              exact Or.inr (Or.inl (hrt a a1))
            · rw [show (i : Int) + 1 = ((i + 1 : Nat) : Int) by omega]
              refine ih (i + 1) τ (by omega) (by omega) (QQ_D (QQ_rq hτ (by omega)) (fun u _ => ⟨fun q => ⟨q.1.1, fun j' hj' => ?_⟩, fun q => ⟨⟨q.1, fun j' hj' => q.2 j' (by omega)⟩, ?_⟩⟩)) (fr_trans b3 ft)
              · by_cases e : j' = i
                · rw [e]
                  intro _
                  obtain ⟨b, b5, b6⟩ := q.2
                  obtain ⟨a, a1, a2, a3, a4⟩ := (b4 (z ρ 93 b)).mp ⟨b, b5, rfl⟩
                  exact ⟨a, a1, a2, a3, by rw [← a4]; exact b6⟩
                · exact q.1.2 j' (by omega)
              · obtain ⟨a, a1, a2, a3, a4⟩ := q.2 i (by omega) mi
                obtain ⟨b, b5, b6⟩ := (b4 (zXor (zXor (z σ 62 (8 * v + a)) x2) 1)).mpr ⟨a, a1, a2, a3, rfl⟩
                exact ⟨b, b5, by rw [b6]; exact a4⟩
          induction k with
          | zero =>
            intro j n ρ b0 bi b1 b2 b3 b4 b5
            have hI := b3.1
            refine b_In_requireLess_39 hp hI.1.1.2.1 hI.1.1.1 ?_
            rw [fr_zF b4 (show p + 3 ∉ _ by simp; omega), Int.toNat_natCast, hw]
            exact ⟨⟨by omega, by omega⟩, ⟨by omega, by omega⟩, fun _ => out j n ρ (by omega) (by omega) b3 b4 b5, fun c => absurd c (by omega)⟩
          | succ k ih2 =>
            intro j n ρ b0 bi b1 b2 b3 b4 b5
            have hI := b3.1
            have put : (j : Int) < (wn : Int) → (j = i ∨ m.testBit j = true) → J ω m_In_requireLess (d + 1) 0 0 0 0 71 [(0, .ref 47), (1, .int (zI (v : Int))), (2, .int (zI x2)), (4, .int (zI (m : Int))), (5, .int (zI (i : Int))), (6, .int (zI (n : Int))), (7, .int (zI (j : Int)))] [] ρ (q_kv K) := fun cj mj => by
              refine b_In_requireLess_71 hp hI.1.1.2.1 hI.1.1.1 ⟨⟨by omega, by omega⟩, ⟨by omega, by omega⟩, ?_⟩
              rw [Int.toNat_natCast, show (n : Int) + 1 = ((n + 1 : Nat) : Int) by omega, show (j : Int) + 1 = ((j + 1 : Nat) : Int) by omega, show ((v : Int) * 8 + (j : Int)).toNat = 8 * v + j by omega, fr_zF b4 (show (62 : Nat) ∉ _ by decide)]
              have F : fr [93] ρ (zs ρ 93 n (zXor (zXor (z σ 62 (8 * v + j)) x2) 1)) := fr_s fr_refl (by simp)
              have zu : z (zs ρ 93 n (zXor (zXor (z σ 62 (8 * v + j)) x2) 1)) 93 = up (z ρ 93) n (zXor (zXor (z σ 62 (8 * v + j)) x2) 1) := z_up (lit_R hs (l3 j (by omega)))
              refine ih2 (j + 1) (n + 1) _ (by omega) (by omega) (by omega) (by omega) (QQ_fq hp b3 (fq_of F) (by simp) (by rw [fr_zF F (by decide)]; exact b3.2.1.2.2.2.2.2)) (fr_trans b4 (fr_mono F (by simp))) (fun y => ?_)
              rw [zu]
              constructor
              · rintro ⟨b, c1, c2⟩
                by_cases e : b = n
                · rw [e, up_s] at c2
                  exact ⟨j, bi, by omega, mj, c2.symm⟩
                · rw [up_n e] at c2
                  obtain ⟨a, a1, a2, a3, a4⟩ := (b5 y).mp ⟨b, by omega, c2⟩
                  exact ⟨a, a1, by omega, a3, a4⟩
              · rintro ⟨a, a1, a2, a3, a4⟩
                by_cases e : a = j
                · exact ⟨n, by omega, by rw [up_s, a4, e]⟩
                · obtain ⟨b, c1, c2⟩ := (b5 y).mpr ⟨a, a1, by omega, a3, a4⟩
                  exact ⟨b, by omega, by rw [up_n (by omega)]; exact c2⟩
            refine b_In_requireLess_39 hp hI.1.1.2.1 hI.1.1.1 ?_
            rw [fr_zF b4 (show p + 3 ∉ _ by simp; omega), Int.toNat_natCast, hw]
            refine ⟨⟨by omega, by omega⟩, ⟨by omega, by omega⟩, fun _ => out j n ρ (by omega) (by omega) b3 b4 b5, fun cj => ⟨⟨by omega, by omega⟩, fun e => put cj (Or.inl (by omega)), fun ne => ?_⟩⟩
            rw [z_tb (by omega) (by omega)]
            refine ⟨fun cb => ?_, fun cb => put cj (Or.inr ?_)⟩
            · have mj : m.testBit j = false := by
                cases hq : m.testBit j with
                | true => rw [hq] at cb; exact absurd rfl cb
                | false => rfl
              rw [show (j : Int) + 1 = ((j + 1 : Nat) : Int) by omega]
              refine ih2 (j + 1) n ρ (by omega) (by omega) (by omega) (by omega) b3 b4 (fun y => (b5 y).trans ⟨fun ⟨a, a1, a2, a3, a4⟩ => ⟨a, a1, by omega, a3, a4⟩, fun ⟨a, a1, a2, a3, a4⟩ => ⟨a, a1, ?_, a3, a4⟩⟩)
              by_cases e : a = j
              · rcases a3 with a3 | a3
                · omega
                · rw [e, mj] at a3; cases a3
              · omega
            · cases hq : m.testBit j with
              | true => rfl
              | false => rw [hq] at cb; exact absurd cb (by decide)
        exact l2' 8 i 0 ρ (by omega) (Nat.le_refl _) (by omega) (by omega) a3 a4 (fun y => ⟨fun ⟨b, b1, _⟩ => absurd b1 (by omega), fun ⟨a, a1, a2, _⟩ => absurd a2 (by omega)⟩)
  refine b_In_requireLess_0 hp h.1.1.1.2.1 h.1.1.1.1 ?_
  rw [show (m : Int) + 1 - 1 = (m : Int) by omega]
  exact l 8 0 σ (by decide) (by omega) (QQ_D (QQ_rq h (by omega)) (fun u _ => ⟨fun q => ⟨q, fun j hj => absurd hj (by omega)⟩, fun q => q.1⟩)) fr_refl
end I5J
