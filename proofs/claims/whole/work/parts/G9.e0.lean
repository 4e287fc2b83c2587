/-! WHAT THE GUARD SAYS, as functions: a way that is taken, as the run goes -/
def CTp (S : List q_St) (W : Nat → Int) (I : Nat → Nat) (PR : (Nat → Int) → Prop) (i : Nat) (U : Nat → Nat) (j : Nat) (U' : Nat → Nat) (lp : Nat) : Prop := ∀ R, PR R → ∃ E R', mIt S W I E (i, U, R) = .inl (j, U', R') ∧ ∀ k, k < lp → R' k = R k
def SOp (S : List q_St) (W : Nat → Int) (I : Nat → Nat) (PR : (Nat → Int) → Prop) (i : Nat) (U : Nat → Nat) (s : q_Sp) : Prop := ∀ R, PR R → ∃ E, mIt S W I E (i, U, R) = .inr s
def anyR (_ : Nat → Int) : Prop := True
/-- G: whether the run comes here, U: its VARIABLES, F: which assertion it failed at -/
def SMr (S : List q_St) (W : Nat → Int) (I : Nat → Nat) (PR : (Nat → Int) → Prop) (i j lp : Nat) (G : Bool) (U : Nat → Nat) (F : Nat → Bool) (G' : Bool) (U' : Nat → Nat) (F' : Nat → Bool) : Prop :=
  (G = false → G' = false ∧ F' = F) ∧ (G = true → (CTp S W I PR i U j U' lp ∧ G' = true ∧ F' = F) ∨ ∃ a f U'', SOp S W I PR i U (a, f, U'') ∧ G' = false ∧ ((a = 1 ∧ ∃ g : Nat, f = (g : Int) ∧ F' = upq F g true) ∨ (a = 2 ∧ F' = F)))
section SmP
variable {S : List q_St} {W : Nat → Int} {I : Nat → Nat} {PR : (Nat → Int) → Prop} {i j k lp : Nat} {G G1 G2 G3 G4 G5 : Bool} {U U1 U2 U3 U4 U5 : Nat → Nat} {F F1 F2 F3 F4 F5 : Nat → Bool}
theorem SM_nil : SMr S W I anyR i i lp G U F G U F := ⟨fun h => ⟨h, rfl⟩, fun h => Or.inl ⟨fun R _ => ⟨0, R, rfl, fun _ _ => rfl⟩, h, rfl⟩⟩
theorem SM_tr (h : SMr S W I PR i j lp G U F G1 U1 F1) (g : SMr S W I anyR j k lp G1 U1 F1 G2 U2 F2) : SMr S W I PR i k lp G U F G2 U2 F2 := by
  refine ⟨fun c => ?_, fun c => ?_⟩
  · obtain ⟨a, b⟩ := h.1 c
    obtain ⟨a', b'⟩ := g.1 a
    exact ⟨a', b'.trans b⟩
  · rcases h.2 c with ⟨h1, h2, h3⟩ | ⟨a, f, U', h1, h2, h3⟩
    · rcases g.2 h2 with ⟨g1, g2, g3⟩ | ⟨a, f, U', g1, g2, g3⟩
      · refine Or.inl ⟨fun R hR => ?_, g2, g3.trans h3⟩
        obtain ⟨E, R1, e1, e2⟩ := h1 R hR
        obtain ⟨E', R2, e3, e4⟩ := g1 R1 trivial
        exact ⟨E + E', R2, mIt_tr E E' _ _ _ e1 e3, fun q hq => (e4 q hq).trans (e2 q hq)⟩
      · refine Or.inr ⟨a, f, U', fun R hR => ?_, g2, by rw [← h3]; exact g3⟩
        obtain ⟨E, R1, e1, e2⟩ := h1 R hR
        obtain ⟨E', e3⟩ := g1 R1 trivial
        exact ⟨E + E', mIt_tr E E' _ _ _ e1 e3⟩
    · obtain ⟨a', b'⟩ := g.1 h2
      exact Or.inr ⟨a, f, U', h1, a', by rw [b']; exact h3⟩
theorem SM_set {a : Int} {b : Int} {l : List q_It} (hx : S[i]? = some (1, a, b, l)) (hU : U1 = upq U a.toNat (wth I U l % 2 ^ (W a.toNat).toNat)) : SMr S W I anyR i (i + 1) lp G U F G U1 F :=
  ⟨fun h => ⟨h, rfl⟩, fun h => Or.inl ⟨fun R _ => ⟨1, R, mIt_1 (by rw [x_set hx, hU]), fun _ _ => rfl⟩, h, rfl⟩⟩
theorem SM_asr {g : Nat} {b : Int} {l : List q_It} (hx : S[i]? = some (2, (g : Int), b, l)) (hG : G1 = (G && decide (wth I U l ≠ 0))) (hF : F1 = if G && !decide (wth I U l ≠ 0) then upq F g true else F) : SMr S W I anyR i (i + 1) lp G U F G1 U F1 := by
  refine ⟨fun h => ?_, fun h => ?_⟩
  · subst h; exact ⟨hG, hF⟩
  · subst h
    by_cases c : wth I U l = 0
    · have e : decide (wth I U l ≠ 0) = false := decide_eq_false (fun q => q c)
      rw [e] at hG hF
      exact Or.inr ⟨1, g, U, fun R _ => ⟨1, mIt_1 (x_asr0 hx c)⟩, hG, Or.inl ⟨rfl, g, rfl, hF⟩⟩
    · have e : decide (wth I U l ≠ 0) = true := decide_eq_true c
      rw [e] at hG hF
      exact Or.inl ⟨fun R _ => ⟨1, R, mIt_1 (x_asr1 hx c), fun _ _ => rfl⟩, hG, hF⟩
theorem SM_asm {a b : Int} {l : List q_It} (hx : S[i]? = some (3, a, b, l)) (hG : G1 = (G && decide (wth I U l ≠ 0))) : SMr S W I anyR i (i + 1) lp G U F G1 U F := by
  refine ⟨fun h => ?_, fun h => ?_⟩
  · subst h; exact ⟨hG, rfl⟩
  · subst h
    by_cases c : wth I U l = 0
    · have e : decide (wth I U l ≠ 0) = false := decide_eq_false (fun q => q c)
      rw [e] at hG
      exact Or.inr ⟨2, -1, U, fun R _ => ⟨1, mIt_1 (x_asm0 hx c)⟩, hG, Or.inr ⟨rfl, rfl⟩⟩
    · have e : decide (wth I U l ≠ 0) = true := decide_eq_true c
      rw [e] at hG
      exact Or.inl ⟨fun R _ => ⟨1, R, mIt_1 (x_asm1 hx c), fun _ _ => rfl⟩, hG, rfl⟩
theorem SM_if {a a' b' : Int} {l l' : List q_It} {m : Nat} (hx : S[i]? = some (4, a, ((i + 1 + m : Nat) : Int), l)) (hj : S[i + 1 + m]? = some (6, a', b', l')) (h : SMr S W I anyR (i + 1) (i + 1 + m) lp (G && decide (wth I U l ≠ 0)) U F G2 U2 F2) (hG : G3 = (G2 || (G && !decide (wth I U l ≠ 0)))) (hU : U3 = if decide (wth I U l ≠ 0) then U2 else U) (hF : F3 = F2) : SMr S W I anyR i (i + (m + 2)) lp G U F G3 U3 F3 := by
  have ee : i + (m + 2) = i + 1 + m + 1 := by omega
  rw [ee]
  subst hF
  refine ⟨fun c => ?_, fun c => ?_⟩
  · subst c
    obtain ⟨q1, q2⟩ := h.1 rfl
    exact ⟨by rw [hG, q1]; rfl, q2⟩
  · subst c
    by_cases c : wth I U l = 0
    · have e : decide (wth I U l ≠ 0) = false := decide_eq_false (fun q => q c)
      rw [e] at hG hU h
      obtain ⟨q1, q2⟩ := h.1 rfl
      refine Or.inl ⟨fun R _ => ⟨2, R, mIt_tr 1 1 _ _ _ (mIt_1 (x_if0 hx c)) (mIt_1 ?_), fun _ _ => rfl⟩, by rw [hG, q1]; rfl, q2⟩
      rw [Int.toNat_natCast, x_join hj, hU]
      rfl
    · have e : decide (wth I U l ≠ 0) = true := decide_eq_true c
      rw [e] at hG hU h
      rw [if_pos rfl] at hU
      subst hU
      rcases h.2 rfl with ⟨h1, h2, h3⟩ | ⟨u, f, U', h1, h2, h3⟩
      · refine Or.inl ⟨fun R _ => ?_, by rw [hG, h2]; rfl, h3⟩
        obtain ⟨E, R1, e1, e2⟩ := h1 R trivial
        exact ⟨1 + E + 1, R1, mIt_tr (1 + E) 1 _ _ _ (mIt_tr 1 E _ _ _ (mIt_1 (x_if1 hx c)) e1) (mIt_1 (x_join hj)), e2⟩
      · refine Or.inr ⟨u, f, U', fun R _ => ?_, by rw [hG, h2]; rfl, h3⟩
        obtain ⟨E, e1⟩ := h1 R trivial
        exact ⟨1 + E, mIt_tr 1 E _ _ _ (mIt_1 (x_if1 hx c)) e1⟩
theorem SM_ife {a a' b' a'' : Int} {l l' l'' : List q_It} {m m2 : Nat} (hx : S[i]? = some (4, a, ((i + 1 + m + 1 : Nat) : Int), l)) (hl : S[i + 1 + m]? = some (5, a'', ((i + 1 + m + 1 + m2 : Nat) : Int), l'')) (hj : S[i + 1 + m + 1 + m2]? = some (6, a', b', l')) (h : SMr S W I anyR (i + 1) (i + 1 + m) lp (G && decide (wth I U l ≠ 0)) U F G2 U2 F2) (h4 : SMr S W I anyR (i + 1 + m + 1) (i + 1 + m + 1 + m2) lp (G && !decide (wth I U l ≠ 0)) U F2 G4 U4 F4) (hG : G5 = (G4 || G2)) (hU : U5 = if !decide (wth I U l ≠ 0) then U4 else U2) (hF : F5 = F4) : SMr S W I anyR i (i + (m + m2 + 3)) lp G U F G5 U5 F5 := by
  have ee : i + (m + m2 + 3) = i + 1 + m + 1 + m2 + 1 := by omega
  rw [ee]
  subst hF
  refine ⟨fun c => ?_, fun c => ?_⟩
  · subst c
    obtain ⟨q1, q2⟩ := h.1 rfl
    obtain ⟨q3, q4⟩ := h4.1 rfl
    exact ⟨by rw [hG, q1, q3]; rfl, q4.trans q2⟩
  · subst c
    by_cases c : wth I U l = 0
    · have e : decide (wth I U l ≠ 0) = false := decide_eq_false (fun q => q c)
      rw [e] at hU h h4
      obtain ⟨q1, q2⟩ := h.1 rfl
      rw [show (!false) = true from rfl, if_pos rfl] at hU
      subst hU
      rcases h4.2 rfl with ⟨h1, h2, h3⟩ | ⟨u, f, U', h1, h2, h3⟩
      · refine Or.inl ⟨fun R _ => ?_, by rw [hG, h2]; rfl, h3.trans q2⟩
        obtain ⟨E, R1, e1, e2⟩ := h1 R trivial
        refine ⟨1 + E + 1, R1, mIt_tr (1 + E) 1 _ _ _ (mIt_tr 1 E _ _ _ (mIt_1 ?_) e1) (mIt_1 (x_join hj)), e2⟩
        rw [x_if0 hx c, Int.toNat_natCast]
      · refine Or.inr ⟨u, f, U', fun R _ => ?_, by rw [hG, h2, q1]; rfl, by rw [← q2]; exact h3⟩
        obtain ⟨E, e1⟩ := h1 R trivial
        refine ⟨1 + E, mIt_tr 1 E _ _ _ (mIt_1 ?_) e1⟩
        rw [x_if0 hx c, Int.toNat_natCast]
    · have e : decide (wth I U l ≠ 0) = true := decide_eq_true c
      rw [e] at hU h h4
      obtain ⟨q3, q4⟩ := h4.1 rfl
      rw [show (!true) = false from rfl, if_neg (by decide)] at hU
      subst hU
      rcases h.2 rfl with ⟨h1, h2, h3⟩ | ⟨u, f, U', h1, h2, h3⟩
      · refine Or.inl ⟨fun R _ => ?_, by rw [hG, h2, q3]; rfl, q4.trans h3⟩
        obtain ⟨E, R1, e1, e2⟩ := h1 R trivial
        refine ⟨1 + E + 1 + 1, R1, mIt_tr (1 + E + 1) 1 _ _ _ (mIt_tr (1 + E) 1 _ _ _ (mIt_tr 1 E _ _ _ (mIt_1 (x_if1 hx c)) e1) (mIt_1 (x_go (Or.inl rfl) hl))) (mIt_1 ?_), e2⟩
        rw [Int.toNat_natCast, x_join hj]
      · refine Or.inr ⟨u, f, U', fun R _ => ?_, by rw [hG, h2, q3]; rfl, by rw [q4]; exact h3⟩
        obtain ⟨E, e1⟩ := h1 R trivial
        exact ⟨1 + E, mIt_tr 1 E _ _ _ (mIt_1 (x_if1 hx c)) e1⟩
/-- a loop, from its test on, with q rounds left -/
def SMq (S : List q_St) (W : Nat → Int) (I : Nat → Nat) (l : List q_It) (q : Nat) (i j lp : Nat) (G : Bool) (U : Nat → Nat) (F : Nat → Bool) (G' : Bool) (U' : Nat → Nat) (F' : Nat → Bool) : Prop :=
  SMr S W I (fun R => R lp = (q : Int)) i j lp G U F G' U' F' ∧ (wth I U l = 0 → G' = G ∧ U' = U ∧ F' = F)
theorem SMq_0 {l : List q_It} (hx : S[i]? = some (8, (lp : Int), (j : Int), l)) (hG : G1 = (G && !decide (wth I U l ≠ 0))) : SMq S W I l 0 i j lp G U F G1 U F := by
  refine ⟨⟨fun h => ?_, fun h => ?_⟩, fun c => ?_⟩
  · subst h; exact ⟨hG, rfl⟩
  · subst h
    by_cases c : wth I U l = 0
    · have e : decide (wth I U l ≠ 0) = false := decide_eq_false (fun q => q c)
      rw [e] at hG
      refine Or.inl ⟨fun R _ => ⟨1, R, mIt_1 ?_, fun _ _ => rfl⟩, hG, rfl⟩
      rw [x_test0 hx c, Int.toNat_natCast]
    · have e : decide (wth I U l ≠ 0) = true := decide_eq_true c
      rw [e] at hG
      refine Or.inr ⟨2, -1, U, fun R hR => ⟨1, mIt_1 (x_test2 hx c ?_)⟩, hG, Or.inr ⟨rfl, rfl⟩⟩
      rw [Int.toNat_natCast, hR]; rfl
  · have e : decide (wth I U l ≠ 0) = false := decide_eq_false (fun q => q c)
    rw [e] at hG
    exact ⟨by rw [hG]; cases G <;> rfl, rfl, rfl⟩
theorem SMq_s {l l' : List q_It} {a' : Int} {q m : Nat} (hq : q ≤ 8) (hx : S[i + 1]? = some (8, (lp : Int), (j : Int), l)) (hb : S[i + 2 + m]? = some (9, a', ((i + 1 : Nat) : Int), l')) (h : SMr S W I anyR (i + 2) (i + 2 + m) (lp + 1) (G && decide (wth I U l ≠ 0)) U F G2 U2 F2) (hG : G3 = (G2 || (G && !decide (wth I U l ≠ 0)))) (hU : U3 = if decide (wth I U l ≠ 0) then U2 else U) (hF : F3 = F2) (r : SMq S W I l q (i + 1) j lp G3 U3 F3 G4 U4 F4) : SMq S W I l (q + 1) (i + 1) j lp G U F G4 U4 F4 := by
  subst hF
  have c0 : wth I U l = 0 → G4 = G ∧ U4 = U ∧ F4 = F := fun c => by
    have e : decide (wth I U l ≠ 0) = false := decide_eq_false (fun q => q c)
    rw [e] at hG hU h
    rw [if_neg (by decide)] at hU
    obtain ⟨q1, q2⟩ := h.1 (by cases G <;> rfl)
    subst hU
    obtain ⟨r1, r2, r3⟩ := r.2 c
    exact ⟨by rw [r1, hG, q1]; cases G <;> rfl, r2, r3.trans q2⟩
  refine ⟨⟨fun c => ?_, fun c => ?_⟩, c0⟩
  · subst c
    obtain ⟨q1, q2⟩ := h.1 rfl
    obtain ⟨q3, q4⟩ := r.1.1 (by rw [hG, q1]; rfl)
    exact ⟨q3, q4.trans q2⟩
  · subst c
    by_cases c : wth I U l = 0
    · obtain ⟨r1, r2, r3⟩ := c0 c
      refine Or.inl ⟨fun R _ => ⟨1, R, mIt_1 ?_, fun _ _ => rfl⟩, r1, r3⟩
      rw [x_test0 hx c, Int.toNat_natCast, r2]
    · have e : decide (wth I U l ≠ 0) = true := decide_eq_true c
      rw [e] at hG hU h
      rw [if_pos rfl] at hU
      subst hU
      have st : ∀ R : Nat → Int, R lp = ((q + 1 : Nat) : Int) → mIt S W I 1 (i + 1, U, R) = .inl (i + 2, U, upq R lp (q : Int)) := fun R hR => by
        refine mIt_1 ?_
        rw [x_test1 hx c (by rw [Int.toNat_natCast, hR]; omega), Int.toNat_natCast, hR, show (((q + 1 : Nat) : Int) - 1) = (q : Int) by omega, zI_toInt ⟨by omega, by omega⟩]
      rcases h.2 rfl with ⟨h1, h2, h3⟩ | ⟨u, f, U', h1, h2, h3⟩
      · have g3 : G3 = true := by rw [hG, h2]; rfl
        have bk : ∀ R : Nat → Int, R lp = ((q + 1 : Nat) : Int) → ∃ E R', mIt S W I E (i + 1, U, R) = .inl (i + 1, U3, R') ∧ R' lp = (q : Int) ∧ (∀ j, j < lp → R' j = R j) := fun R hR => by
          obtain ⟨E1, R1, e1, e2⟩ := h1 (upq R lp (q : Int)) trivial
          refine ⟨1 + E1 + 1, R1, mIt_tr (1 + E1) 1 _ _ _ (mIt_tr 1 E1 _ _ _ (st R hR) e1) (mIt_1 ?_), ?_, fun j hj => ?_⟩
          · rw [x_go (Or.inr rfl) hb, Int.toNat_natCast]
          · rw [e2 lp (by omega)]; unfold upq; rw [if_pos rfl]
          · rw [e2 j (by omega)]; unfold upq; rw [if_neg (by omega)]
        rcases r.1.2 g3 with ⟨r1, r2, r3⟩ | ⟨u, f, U', r1, r2, r3⟩
        · refine Or.inl ⟨fun R hR => ?_, r2, r3.trans h3⟩
          obtain ⟨E, R1, b1, b2, b3⟩ := bk R hR
          obtain ⟨E', R2, b4, b5⟩ := r1 R1 b2
          exact ⟨E + E', R2, mIt_tr E E' _ _ _ b1 b4, fun j hj => (b5 j hj).trans (b3 j hj)⟩
        · refine Or.inr ⟨u, f, U', fun R hR => ?_, r2, by rw [← h3]; exact r3⟩
          obtain ⟨E, R1, b1, b2, b3⟩ := bk R hR
          obtain ⟨E', b4⟩ := r1 R1 b2
          exact ⟨E + E', mIt_tr E E' _ _ _ b1 b4⟩
      · obtain ⟨q3, q4⟩ := r.1.1 (by rw [hG, h2]; rfl)
        refine Or.inr ⟨u, f, U', fun R hR => ?_, q3, by rw [q4]; exact h3⟩
        obtain ⟨E, e1⟩ := h1 (upq R lp (q : Int)) trivial
        exact ⟨1 + E, mIt_tr 1 E _ _ _ (st R hR) e1⟩
/-- the loop with its first step -/
theorem SM_loop {l l2 : List q_It} {k' : Nat} (hx : S[i]? = some (7, (k' : Int), (lp : Int), l2)) (h : SMq S W I l k' (i + 1) j lp G U F G1 U1 F1) : SMr S W I anyR i j lp G U F G1 U1 F1 := by
  have st : ∀ R : Nat → Int, mIt S W I 1 (i, U, R) = .inl (i + 1, U, upq R lp (k' : Int)) := fun R => by
    refine mIt_1 ?_
    rw [x_loop hx, Int.toNat_natCast]
  have u1 : ∀ R : Nat → Int, upq R lp (k' : Int) lp = (k' : Int) := fun R => by unfold upq; rw [if_pos rfl]
  have u2 : ∀ (R : Nat → Int) j, j < lp → upq R lp (k' : Int) j = R j := fun R j hj => by unfold upq; rw [if_neg (by omega)]
  refine ⟨h.1.1, fun c => ?_⟩
  rcases h.1.2 c with ⟨h1, h2, h3⟩ | ⟨u, f, U', h1, h2, h3⟩
  · refine Or.inl ⟨fun R _ => ?_, h2, h3⟩
    obtain ⟨E, R1, e1, e2⟩ := h1 _ (u1 R)
    exact ⟨1 + E, R1, mIt_tr 1 E _ _ _ (st R) e1, fun j hj => (e2 j hj).trans (u2 R j hj)⟩
  · refine Or.inr ⟨u, f, U', fun R _ => ?_, h2, h3⟩
    obtain ⟨E, e1⟩ := h1 _ (u1 R)
    exact ⟨1 + E, mIt_tr 1 E _ _ _ (st R) e1⟩
/-- without VARIABLES one round stands for all -/
theorem SMq_1 {l l' : List q_It} {a' : Int} {q m : Nat} (hq : q ≤ 8) (hx : S[i + 1]? = some (8, (lp : Int), (j : Int), l)) (hb : S[i + 2 + m]? = some (9, a', ((i + 1 : Nat) : Int), l')) (h : SMr S W I anyR (i + 2) (i + 2 + m) (lp + 1) (G && decide (wth I U l ≠ 0)) U F G2 U F2) (hG : G3 = (G2 || (G && !decide (wth I U l ≠ 0)))) (hF : F3 = F2) (hG4 : G4 = (G3 && !decide (wth I U l ≠ 0))) : SMq S W I l (q + 1) (i + 1) j lp G U F G4 U F3 := by
  induction q with
  | zero =>
    refine SMq_s (by omega) hx hb h hG (by split <;> rfl) hF (SMq_0 hx hG4)
  | succ q ih =>
    have r := ih (by omega)
    subst hF
    by_cases c : wth I U l = 0
    · have e : decide (wth I U l ≠ 0) = false := decide_eq_false (fun q => q c)
      have z := r.2 c
      refine ⟨⟨r.1.1, fun g => Or.inl ⟨fun R _ => ⟨1, R, mIt_1 ?_, fun _ _ => rfl⟩, z.1.trans g, z.2.2⟩⟩, r.2⟩
      rw [x_test0 hx c, Int.toNat_natCast]
    · have e : decide (wth I U l ≠ 0) = true := decide_eq_true c
      refine ⟨⟨r.1.1, fun g => ?_⟩, fun q => absurd q c⟩
      subst g
      rw [e] at hG hG4 h
      have st : ∀ R : Nat → Int, R lp = ((q + 1 + 1 : Nat) : Int) → mIt S W I 1 (i + 1, U, R) = .inl (i + 2, U, upq R lp ((q + 1 : Nat) : Int)) := fun R hR => by
        refine mIt_1 ?_
        rw [x_test1 hx c (by rw [Int.toNat_natCast, hR]; omega), Int.toNat_natCast, hR, show (((q + 1 + 1 : Nat) : Int) - 1) = ((q + 1 : Nat) : Int) by omega, zI_toInt ⟨by omega, by omega⟩]
      have g4 : G4 = false := by rw [hG4]; cases G3 <;> rfl
      rcases h.2 rfl with ⟨h1, h2, h3⟩ | ⟨u, f, U', h1, h2, h3⟩
      · rcases r.1.2 rfl with ⟨r1, r2, r3⟩ | ⟨u, f, U', r1, r2, r3⟩
        · rw [g4] at r2; cases r2
        · refine Or.inr ⟨u, f, U', fun R hR => ?_, r2, r3⟩
          obtain ⟨E1, R1, e1, e2⟩ := h1 (upq R lp ((q + 1 : Nat) : Int)) trivial
          obtain ⟨E', e3⟩ := r1 R1 (by show R1 lp = _; rw [e2 lp (by omega)]; unfold upq; rw [if_pos rfl])
          refine ⟨1 + E1 + 1 + E', mIt_tr (1 + E1 + 1) E' _ _ _ (mIt_tr (1 + E1) 1 _ _ _ (mIt_tr 1 E1 _ _ _ (st R hR) e1) (mIt_1 ?_)) e3⟩
          rw [x_go (Or.inr rfl) hb, Int.toNat_natCast]
      · refine Or.inr ⟨u, f, U', fun R hR => ?_, g4, h3⟩
        obtain ⟨E, e1⟩ := h1 (upq R lp ((q + 1 : Nat) : Int)) trivial
        exact ⟨1 + E, mIt_tr 1 E _ _ _ (st R hR) e1⟩
end SmP
