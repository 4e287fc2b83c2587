/-! A RUN over a tree: it comes to its end, whatever stood in the rounds -/
def CT (S : List q_St) (W : Nat → Int) (I : Nat → Nat) (i : Nat) (U : Nat → Nat) (j : Nat) (U' : Nat → Nat) (lp : Nat) (Bd : Nat → Prop) : Prop := ∀ R, ∃ E R', mIt S W I E (i, U, R) = .inl (j, U', R') ∧ (∀ k, k < lp → R' k = R k) ∧ Bd E
def SO (S : List q_St) (W : Nat → Int) (I : Nat → Nat) (i : Nat) (U : Nat → Nat) (s : q_Sp) (Bd : Nat → Prop) : Prop := ∀ R, ∃ E, mIt S W I E (i, U, R) = .inr s ∧ Bd E
/-- how a run may stop -/
def vf (as a1 : Nat) (v f : Int) : Prop := (v = 1 ∧ (as : Int) ≤ f ∧ f < (a1 : Int)) ∨ (v = 2 ∧ f = -1)
def TR (S : List q_St) (W : Nat → Int) (I : Nat → Nat) (V k i lp as : Nat) (l : List q_St) (w a1 : Nat) (U : Nat → Nat) : Prop :=
  (∃ U', uO W U' ∧ (V = 0 → U' = U) ∧ CT S W I i U (i + l.length) U' lp (cBd V l.length w)) ∨ ∃ v f U', vf as a1 v f ∧ SO S W I i U (v, f, U') (tBd V k l.length w)
theorem vf_le {as a1 bs b1 : Nat} {v f : Int} (h : vf as a1 v f) (h1 : bs ≤ as) (h2 : a1 ≤ b1) : vf bs b1 v f := by
  rcases h with ⟨a, b, c⟩ | h
  · exact Or.inl ⟨a, by omega, by omega⟩
  · exact Or.inr h
section TwP
variable {S : List q_St} {W : Nat → Int} {I : Nat → Nat} {V : Nat} {Ex : q_Ex → Prop}
theorem CT_1 {i j lp L w : Nat} {U U' : Nat → Nat} (h : ∀ R, mNx S W I (i, U, R) = .inl (j, U', R)) (hL : 1 ≤ L) : CT S W I i U j U' lp (cBd V L w) := fun R => ⟨1, R, mIt_1 (h R), fun _ _ => rfl, cBd_1 hL⟩
theorem SO_1 {i k L w : Nat} {U : Nat → Nat} {s : q_Sp} (h : ∀ R, mNx S W I (i, U, R) = .inr s) (hL : 1 ≤ L) : SO S W I i U s (tBd V (k + 1) L w) := fun R => ⟨1, mIt_1 (h R), tBd_1 hL⟩
/-- a loop, from its test on -/
theorem T_loop {i lp k as a1 : Nat} {e : List q_It} {l1 : List q_St} {w1 : Nat} (a1' : S[i + 1]? = some (8, (lp : Int), ((i + 2 + l1.length + 1 : Nat) : Int), e)) (a2 : S[i + 2 + l1.length]? = some (9, 0, ((i + 1 : Nat) : Int), []))
    (hB : ∀ U, uO W U → TR S W I V k (i + 2) (lp + 1) as l1 w1 a1 U) : ∀ (q : Nat) (U : Nat → Nat), uO W U → q ≤ 8 →
    (∃ U', uO W U' ∧ (V = 0 → U' = U ∧ wth I U e = 0) ∧ ∀ R, R lp = (q : Int) → ∃ E R', mIt S W I E (i + 1, U, R) = .inl (i + 2 + l1.length + 1, U', R') ∧ (∀ j, j < lp → R' j = R j) ∧ (V = 0 → E ≤ 1) ∧ (V ≠ 0 → 8 * E ≤ 8 + q * (16 + l1.length * (8 + w1)))) ∨
    ∃ v f U', vf as a1 v f ∧ ∀ R, R lp = (q : Int) → ∃ E, mIt S W I E (i + 1, U, R) = .inr (v, f, U') ∧ (V = 0 → E ≤ 1 + q * (2 + l1.length) + 9 * (l1.length * k)) ∧ (V ≠ 0 → 8 * E ≤ 8 + q * (16 + l1.length * (8 + w1))) := by
  intro q
  induction q with
  | zero =>
    intro U hU _
    by_cases c : wth I U e = 0
    · refine Or.inl ⟨U, hU, fun _ => ⟨rfl, c⟩, fun R hR => ⟨1, R, mIt_1 ?_, fun _ _ => rfl, fun _ => Nat.le_refl _, fun _ => by omega⟩⟩
      rw [x_test0 a1' c, Int.toNat_natCast]
    · refine Or.inr ⟨2, -1, U, Or.inr ⟨rfl, rfl⟩, fun R hR => ⟨1, mIt_1 (x_test2 a1' c (by rw [Int.toNat_natCast, hR]; rfl)), fun _ => by omega, fun _ => by omega⟩⟩
  | succ q ih =>
    intro U hU hq
    have m2 : (q + 1) * (16 + l1.length * (8 + w1)) = q * (16 + l1.length * (8 + w1)) + (16 + l1.length * (8 + w1)) := Nat.succ_mul _ _
    have m3 : (q + 1) * (2 + l1.length) = q * (2 + l1.length) + (2 + l1.length) := Nat.succ_mul _ _
    by_cases c : wth I U e = 0
    · refine Or.inl ⟨U, hU, fun _ => ⟨rfl, c⟩, fun R hR => ⟨1, R, mIt_1 ?_, fun _ _ => rfl, fun _ => Nat.le_refl _, fun _ => by omega⟩⟩
      rw [x_test0 a1' c, Int.toNat_natCast]
    · have st : ∀ R : Nat → Int, R lp = ((q + 1 : Nat) : Int) → mIt S W I 1 (i + 1, U, R) = .inl (i + 2, U, upq R lp (q : Int)) := fun R hR => by
        refine mIt_1 ?_
        rw [x_test1 a1' c (by rw [Int.toNat_natCast, hR]; omega), Int.toNat_natCast, hR, show (((q + 1 : Nat) : Int) - 1) = (q : Int) by omega, zI_toInt ⟨by omega, by omega⟩]
      rcases hB U hU with ⟨U1, hU1, hV1, hC⟩ | ⟨v, f, U1, hvf, hC⟩
      · have bk : ∀ R : Nat → Int, R lp = ((q + 1 : Nat) : Int) → ∃ E R', mIt S W I E (i + 1, U, R) = .inl (i + 1, U1, R') ∧ R' lp = (q : Int) ∧ (∀ j, j < lp → R' j = R j) ∧ (V = 0 → E ≤ 2 + l1.length) ∧ (V ≠ 0 → 8 * E ≤ 16 + l1.length * (8 + w1)) := fun R hR => by
          obtain ⟨E1, R1, h1, h2, h3⟩ := hC (upq R lp (q : Int))
          refine ⟨1 + E1 + 1, R1, mIt_tr (1 + E1) 1 _ _ _ (mIt_tr 1 E1 _ _ _ (st R hR) h1) (mIt_1 ?_), ?_, fun j hj => ?_, fun w => ?_, fun w => ?_⟩
          · rw [x_go (Or.inr rfl) a2, Int.toNat_natCast]
          · rw [h2 lp (by omega)]; unfold upq; rw [if_pos rfl]
          · rw [h2 j (by omega)]; unfold upq; rw [if_neg (by omega)]
          · have := h3.1 w; omega
          · have := h3.2 w; omega
        rcases ih U1 hU1 (by omega) with ⟨U', hU', hV', g⟩ | ⟨v, f, U', hvf, g⟩
        · refine Or.inl ⟨U', hU', fun w => ?_, fun R hR => ?_⟩
          · exact absurd (by rw [← hV1 w]; exact (hV' w).2) c
          · obtain ⟨E1, R1, h1, h2, h3, h4, h5⟩ := bk R hR
            obtain ⟨E2, R2, g1, g2, g3, g4⟩ := g R1 h2
            refine ⟨E1 + E2, R2, mIt_tr E1 E2 _ _ _ h1 g1, fun j hj => by rw [g2 j hj, h3 j hj], fun w => ?_, fun w => ?_⟩
            · exact absurd (by rw [← hV1 w]; exact (hV' w).2) c
            · have := h5 w; have := g4 w; omega
        · refine Or.inr ⟨v, f, U', hvf, fun R hR => ?_⟩
          obtain ⟨E1, R1, h1, h2, h3, h4, h5⟩ := bk R hR
          obtain ⟨E2, g1, g3, g4⟩ := g R1 h2
          exact ⟨E1 + E2, mIt_tr E1 E2 _ _ _ h1 g1, fun w => by have := h4 w; have := g3 w; omega, fun w => by have := h5 w; have := g4 w; omega⟩
      · refine Or.inr ⟨v, f, U1, hvf, fun R hR => ?_⟩
        obtain ⟨E1, h1, h2⟩ := hC (upq R lp (q : Int))
        exact ⟨1 + E1, mIt_tr 1 E1 _ _ _ (st R hR) h1, fun w => by have := h2.1 w; omega, fun w => by have := h2.2 w; omega⟩
/-- every tree -/
theorem T_run (hW : ∀ i, 0 < 2 ^ (W i).toNat) {b : Bool} {dp i lp as w a1 : Nat} {l : List q_St} (h : TS V Ex b dp i lp as l w a1) : (b = false → dp ≤ 30) ∧ as ≤ a1 ∧ (At S i l → ∀ U, uO W U → TR S W I V (32 - dp) i lp as l w a1 U) := by
  refine h (fun b dp i lp as l w a1 => (b = false → dp ≤ 30) ∧ as ≤ a1 ∧ (At S i l → ∀ U, uO W U → TR S W I V (32 - dp) i lp as l w a1 U)) ⟨?_, ?_, ?_, ?_, ?_, ?_, ?_, ?_, ?_⟩
  · intro dp i lp as v e hd he hv
    refine ⟨fun _ => hd, Nat.le_refl _, fun hA U hU => Or.inl ⟨upq U v.toNat (wth I U e.1 % 2 ^ (W v.toNat).toNat), uO_upq hU (Nat.mod_lt _ (hW _)), fun q => ?_, CT_1 (fun R => x_set (At_cons hA).1) (by simp)⟩⟩
    exact absurd hv (by omega)
  · intro dp i lp as e hd he
    refine ⟨fun _ => hd, by omega, fun hA U hU => ?_⟩
    obtain ⟨a0, -⟩ := At_cons hA
    rw [show 32 - dp = (31 - dp) + 1 by omega]
    by_cases c : wth I U e.1 = 0
    · exact Or.inr ⟨1, as, U, Or.inl ⟨rfl, by omega, by omega⟩, SO_1 (fun R => x_asr0 a0 c) (by simp)⟩
    · exact Or.inl ⟨U, hU, fun _ => rfl, CT_1 (fun R => x_asr1 a0 c) (by simp)⟩
  · intro dp i lp as e hd he
    refine ⟨fun _ => hd, Nat.le_refl _, fun hA U hU => ?_⟩
    obtain ⟨a0, -⟩ := At_cons hA
    rw [show 32 - dp = (31 - dp) + 1 by omega]
    by_cases c : wth I U e.1 = 0
    · exact Or.inr ⟨2, -1, U, Or.inr ⟨rfl, rfl⟩, SO_1 (fun R => x_asm0 a0 c) (by simp)⟩
    · exact Or.inl ⟨U, hU, fun _ => rfl, CT_1 (fun R => x_asm1 a0 c) (by simp)⟩
  · intro dp i lp as e l1 w1 a1 hd he ⟨_, ha, hB⟩
    refine ⟨fun _ => hd, ha, fun hA U hU => ?_⟩
    obtain ⟨a0, A1⟩ := At_cons hA
    obtain ⟨A2, A3⟩ := At_app A1
    have a3 := (At_cons A3).1
    have ll : ((4, 0, ((i + 1 + l1.length : Nat) : Int), e.1) :: (l1 ++ [(6, 0, 0, [])]) : List q_St).length = l1.length + 2 := by simp
    unfold TR
    rw [ll, show 32 - dp = (32 - (dp + 1)) + 1 by omega]
    by_cases c : wth I U e.1 = 0
    · refine Or.inl ⟨U, hU, fun _ => rfl, fun R => ⟨2, R, mIt_tr 1 1 _ _ _ (mIt_1 (x_if0 a0 c)) (mIt_1 ?_), fun _ _ => rfl, cBd_1 (by omega)⟩⟩
      rw [Int.toNat_natCast, x_join a3, show i + 1 + l1.length + 1 = i + (l1.length + 2) by omega]
    · have st : ∀ R, mIt S W I 1 (i, U, R) = .inl (i + 1, U, R) := fun R => mIt_1 (x_if1 a0 c)
      rcases hB A2 U hU with ⟨U1, hU1, hV1, hC⟩ | ⟨v, f, U1, hvf, hC⟩
      · refine Or.inl ⟨U1, hU1, hV1, fun R => ?_⟩
        obtain ⟨E1, R1, h1, h2, h3⟩ := hC R
        refine ⟨1 + E1 + 1, R1, mIt_tr (1 + E1) 1 _ _ _ (mIt_tr 1 E1 _ _ _ (st R) h1) (mIt_1 ?_), h2, ?_⟩
        · rw [x_join a3, show i + 1 + l1.length + 1 = i + (l1.length + 2) by omega]
        · rw [show 1 + E1 + 1 = E1 + 2 by omega]; exact cBd_a h3 (by omega) (Nat.le_refl _)
      · refine Or.inr ⟨v, f, U1, hvf, fun R => ?_⟩
        obtain ⟨E1, h1, h2⟩ := hC R
        refine ⟨1 + E1, mIt_tr 1 E1 _ _ _ (st R) h1, ?_⟩
        rw [show 1 + E1 = E1 + 1 by omega]; exact tBd_a h2 (by omega) (by decide)
  · intro dp i lp as e l1 w1 a1 l2 w2 a2 hd he ⟨_, ha, hB⟩ ⟨_, ha2, hB2⟩
    refine ⟨fun _ => hd, by omega, fun hA U hU => ?_⟩
    obtain ⟨a0, A1⟩ := At_cons hA
    obtain ⟨A2, A3⟩ := At_app A1
    obtain ⟨a3, A4⟩ := At_cons A3
    obtain ⟨A5, A6⟩ := At_app A4
    have a6 := (At_cons A6).1
    have ll : ((4, 0, ((i + 1 + l1.length + 1 : Nat) : Int), e.1) :: (l1 ++ (5, 0, ((i + 1 + l1.length + 1 + l2.length : Nat) : Int), []) :: (l2 ++ [(6, 0, 0, [])])) : List q_St).length = l1.length + l2.length + 3 := by simp; omega
    unfold TR
    rw [ll, show 32 - dp = (32 - (dp + 1)) + 1 by omega]
    by_cases c : wth I U e.1 = 0
    · have st : ∀ R, mIt S W I 1 (i, U, R) = .inl (i + 1 + l1.length + 1, U, R) := fun R => by
        refine mIt_1 ?_
        rw [x_if0 a0 c, Int.toNat_natCast]
      rcases hB2 A5 U hU with ⟨U1, hU1, hV1, hC⟩ | ⟨v, f, U1, hvf, hC⟩
      · refine Or.inl ⟨U1, hU1, hV1, fun R => ?_⟩
        obtain ⟨E1, R1, h1, h2, h3⟩ := hC R
        refine ⟨1 + E1 + 1, R1, mIt_tr (1 + E1) 1 _ _ _ (mIt_tr 1 E1 _ _ _ (st R) h1) (mIt_1 ?_), h2, ?_⟩
        · rw [x_join a6, show i + 1 + l1.length + 1 + l2.length + 1 = i + (l1.length + l2.length + 3) by omega]
        · rw [show 1 + E1 + 1 = E1 + 2 by omega, show l1.length + l2.length + 3 = l2.length + (l1.length + 3) by omega]; exact cBd_a h3 (by omega) (by omega)
      · refine Or.inr ⟨v, f, U1, vf_le hvf ha (Nat.le_refl _), fun R => ?_⟩
        obtain ⟨E1, h1, h2⟩ := hC R
        refine ⟨1 + E1, mIt_tr 1 E1 _ _ _ (st R) h1, ?_⟩
        rw [show 1 + E1 = E1 + 1 by omega, show l1.length + l2.length + 3 = l2.length + (l1.length + 3) by omega]; exact tBd_a h2 (by omega) (by omega)
    · have st : ∀ R, mIt S W I 1 (i, U, R) = .inl (i + 1, U, R) := fun R => mIt_1 (x_if1 a0 c)
      rcases hB A2 U hU with ⟨U1, hU1, hV1, hC⟩ | ⟨v, f, U1, hvf, hC⟩
      · refine Or.inl ⟨U1, hU1, hV1, fun R => ?_⟩
        obtain ⟨E1, R1, h1, h2, h3⟩ := hC R
        refine ⟨1 + E1 + 1 + 1, R1, mIt_tr (1 + E1 + 1) 1 _ _ _ (mIt_tr (1 + E1) 1 _ _ _ (mIt_tr 1 E1 _ _ _ (st R) h1) (mIt_1 (x_go (Or.inl rfl) a3))) (mIt_1 ?_), h2, ?_⟩
        · rw [Int.toNat_natCast, x_join a6, show i + 1 + l1.length + 1 + l2.length + 1 = i + (l1.length + l2.length + 3) by omega]
        · rw [show 1 + E1 + 1 + 1 = E1 + 3 by omega, show l1.length + l2.length + 3 = l1.length + (l2.length + 3) by omega]; exact cBd_a h3 (by omega) (by omega)
      · refine Or.inr ⟨v, f, U1, vf_le hvf (Nat.le_refl _) ha2, fun R => ?_⟩
        obtain ⟨E1, h1, h2⟩ := hC R
        refine ⟨1 + E1, mIt_tr 1 E1 _ _ _ (st R) h1, ?_⟩
        rw [show 1 + E1 = E1 + 1 by omega, show l1.length + l2.length + 3 = l1.length + (l2.length + 3) by omega]; exact tBd_a h2 (by omega) (by omega)
  · intro dp i lp as k e l1 w1 a1 hd he hk ⟨_, ha, hB⟩
    refine ⟨fun _ => hd, ha, fun hA U hU => ?_⟩
    obtain ⟨a0, A1⟩ := At_cons hA
    obtain ⟨b1, A2⟩ := At_cons A1
    obtain ⟨A3, A4⟩ := At_app A2
    have b2 := (At_cons A4).1
    have ll : ((7, (k : Int), (lp : Int), []) :: (8, (lp : Int), ((i + 2 + l1.length + 1 : Nat) : Int), e.1) :: (l1 ++ [(9, 0, ((i + 1 : Nat) : Int), [])]) : List q_St).length = l1.length + 3 := by simp
    unfold TR
    rw [ll, show 32 - dp = (32 - (dp + 1)) + 1 by omega]
    have st : ∀ R : Nat → Int, mIt S W I 1 (i, U, R) = .inl (i + 1, U, upq R lp (k : Int)) := fun R => by
      refine mIt_1 ?_
      rw [x_loop a0, Int.toNat_natCast]
    have u1 : ∀ R : Nat → Int, upq R lp (k : Int) lp = (k : Int) := fun R => by unfold upq; rw [if_pos rfl]
    have u2 : ∀ (R : Nat → Int) j, j < lp → upq R lp (k : Int) j = R j := fun R j hj => by unfold upq; rw [if_neg (by omega)]
    rcases T_loop b1 b2 (fun U hU => hB A3 U hU) k U hU hk with ⟨U', hU', hV', g⟩ | ⟨v, f, U', hvf, g⟩
    · refine Or.inl ⟨U', hU', fun q => (hV' q).1, fun R => ?_⟩
      obtain ⟨E, R', h1, h2, h3, h4⟩ := g _ (u1 R)
      refine ⟨1 + E, R', ?_, fun j hj => by rw [h2 j hj, u2 R j hj], fun q => by have := h3 q; omega, fun q => ?_⟩
      · rw [show i + (l1.length + 3) = i + 2 + l1.length + 1 by omega]
        exact mIt_tr 1 E _ _ _ (st R) h1
      · rw [show 1 + E = E + 1 by omega]; exact wb_c (h4 q) rfl q
    · refine Or.inr ⟨v, f, U', hvf, fun R => ?_⟩
      obtain ⟨E, h1, h3, h4⟩ := g _ (u1 R)
      refine ⟨1 + E, mIt_tr 1 E _ _ _ (st R) h1, fun q => ?_, fun q => ?_⟩
      · have c1 := h3 q
        have b : k * (2 + l1.length) ≤ 8 * (2 + l1.length) := Nat.mul_le_mul_right _ hk
        have c : (l1.length + 3) * (32 - (dp + 1) + 1) = l1.length * (32 - (dp + 1)) + 3 * (32 - (dp + 1)) + (l1.length + 3) := by rw [Nat.mul_succ, Nat.add_mul]
        generalize l1.length * (32 - (dp + 1)) = X at *
        generalize k * (2 + l1.length) = Y at *
        omega
      · rw [show 1 + E = E + 1 by omega]; exact wb_c (h4 q) rfl q
  · intro dp i lp as l w a1 hd ⟨_, ha, hB⟩
    refine ⟨fun _ => hd, ha, fun hA U hU => ?_⟩
    rcases hB hA U hU with h | ⟨v, f, U', hvf, g⟩
    · exact Or.inl h
    · refine Or.inr ⟨v, f, U', hvf, fun R => ?_⟩
      obtain ⟨E, h1, h2⟩ := g R
      refine ⟨E, h1, ?_⟩
      rw [show 32 - dp = (32 - (dp + 1)) + 1 by omega]
      exact tBd_k h2
  · intro dp i lp as
    exact ⟨fun q => by (cases q), Nat.le_refl _, fun _ U hU => Or.inl ⟨U, hU, fun _ => rfl, fun R => ⟨0, R, rfl, fun _ _ => rfl, cBd_1 (Nat.le_refl _)⟩⟩⟩
  · intro dp i lp as l w a1 l2 w2 a2 ⟨_, ha, hB⟩ ⟨hd, ha2, hB2⟩
    have d30 := hd rfl
    refine ⟨fun q => by (cases q), by omega, fun hA U hU => ?_⟩
    have A := At_app hA
    unfold TR
    rw [List.length_append]
    rcases hB A.1 U hU with ⟨U1, hU1, hV1, hC⟩ | ⟨v, f, U1, hvf, hC⟩
    · rcases hB2 A.2 U1 hU1 with ⟨U2, hU2, hV2, hC2⟩ | ⟨v, f, U2, hvf, hC2⟩
      · refine Or.inl ⟨U2, hU2, fun q => (hV2 q).trans (hV1 q), fun R => ?_⟩
        obtain ⟨E1, R1, h1, h2, h3⟩ := hC R
        obtain ⟨E2, R2, g1, g2, g3⟩ := hC2 R1
        refine ⟨E1 + E2, R2, ?_, fun j hj => by rw [g2 j hj, h2 j hj], cBd_add h3 g3⟩
        rw [show i + (l.length + l2.length) = i + l.length + l2.length by omega]
        exact mIt_tr E1 E2 _ _ _ h1 g1
      · refine Or.inr ⟨v, f, U2, vf_le hvf ha (Nat.le_refl _), fun R => ?_⟩
        obtain ⟨E1, R1, h1, h2, h3⟩ := hC R
        obtain ⟨E2, g1, g2⟩ := hC2 R1
        exact ⟨E1 + E2, mIt_tr E1 E2 _ _ _ h1 g1, tBd_add h3 (by omega) g2⟩
    · refine Or.inr ⟨v, f, U1, vf_le hvf (Nat.le_refl _) ha2, fun R => ?_⟩
      obtain ⟨E1, h1, h2⟩ := hC R
      exact ⟨E1, h1, tBd_l h2⟩
/-- THE RUN of a PROGRAM: what it comes to -/
def runF (S : List q_St) (W : Nat → Int) (I : Nat → Nat) : q_Sp := match mIt S W I 999999 (0, fun _ => 0, fun _ => 0) with | .inr s => s | .inl _ => (2, -1, fun _ => 0)
theorem mIt_det {S : List q_St} {W : Nat → Int} {I : Nat → Nat} {a b : Nat} {c : q_Ms} {s s' : q_Sp} (h : mIt S W I a c = .inr s) (g : mIt S W I b c = .inr s') : s = s' := by
  have h1 := mIt_end a b c s h
  have g1 := mIt_end b a c s' g
  rw [Nat.add_comm] at g1
  rw [h1] at g1
  exact Sum.inr.inj g1
theorem T_whole (hW : ∀ i, 0 < 2 ^ (W i).toNat) {w a1 : Nat} (h : TS V Ex true 0 0 0 0 S w a1) (hL : S.length ≤ 1638) (hw : w ≤ 1500) : ((runF S W I).1 = 0 ∧ (runF S W I).2.1 = -1 ∧ uO W (runF S W I).2.2 ∨ vf 0 a1 (runF S W I).1 (runF S W I).2.1) ∧ ∀ R, mIt S W I 999999 (0, fun _ => 0, R) = .inr (runF S W I) := by
  obtain ⟨-, -, hr⟩ := T_run (S := S) (W := W) (I := I) hW h
  have h0 : uO W (fun _ => 0) := fun i _ => hW i
  have key : ∃ s : q_Sp, ((s.1 = 0 ∧ s.2.1 = -1 ∧ uO W s.2.2) ∨ vf 0 a1 s.1 s.2.1) ∧ ∀ R, mIt S W I 999999 (0, fun _ => 0, R) = .inr s := by
    rcases hr (fun j _ => by rw [Nat.zero_add]) _ h0 with ⟨U', hU', -, hC⟩ | ⟨v, f, U', hvf, hC⟩
    · refine ⟨(0, -1, U'), Or.inl ⟨rfl, rfl, hU'⟩, fun R => ?_⟩
      obtain ⟨E, R', h1, -, h3⟩ := hC R
      have b : E ≤ 999990 := bnd_E (k := 1) ⟨fun q => by have := h3.1 q; omega, h3.2⟩ (by decide) hL hw
      have : mIt S W I (E + 1) (0, fun _ => 0, R) = .inr (0, -1, U') := by
        refine mIt_tr E 1 _ _ _ h1 (mIt_1 (x_end ?_))
        rw [Nat.zero_add]; exact List.getElem?_eq_none (Nat.le_refl _)
      have := mIt_end (E + 1) (999999 - (E + 1)) _ _ this
      rwa [show E + 1 + (999999 - (E + 1)) = 999999 by omega] at this
    · refine ⟨(v, f, U'), Or.inr hvf, fun R => ?_⟩
      obtain ⟨E, h1, h2⟩ := hC R
      have b : E ≤ 999990 := bnd_E h2 (by decide) hL hw
      have := mIt_end E (999999 - E) _ _ h1
      rwa [show E + (999999 - E) = 999999 by omega] at this
  obtain ⟨s, h1, h2⟩ := key
  have e : runF S W I = s := by unfold runF; rw [h2]
  rw [e]
  exact ⟨h1, h2⟩
end TwP
