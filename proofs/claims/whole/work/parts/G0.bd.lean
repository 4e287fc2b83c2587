/-! The class builds: cut, begin, DECLARATIONS, STATEMENTS, conclude -/
def DQt (p : Nat) (C : Nat → Int64) (D : q_Ds) (σ : q_H) : Prop :=
  z σ p 0 = (D.1.length : Int) ∧ z σ p 4 = (D.2.1.length : Int) ∧ z σ p 1 = (bts D.1 : Int) ∧ (∀ j e, D.1[j]? = some e → z σ (p + 1) j = (e.2 : Int) ∧ q_l σ (p + 2) j = C e.1) ∧ (∀ j e, D.2.1[j]? = some e → z σ (p + 3) j = (e.2 : Int) ∧ q_l σ (p + 4) j = C e.1)
theorem DQ_t2 {p : Nat} {P : Nat → Int} {C : Nat → Int64} {t : Nat} {D : q_Ds} {σ : q_H} (h : DQ p P C t D σ) : DQt p C D σ := ⟨h.2.1, h.2.2.1, h.2.2.2.1, h.2.2.2.2.1, h.2.2.2.2.2.1⟩
section RgT
variable {p : Nat} {K v : Nat → Int} {C : Nat → Int64} {σ σ' : q_H} {D : q_Ds} {t L : Nat}
/-- who is found in the class's tables -/
theorem fnd_Dt (h : DQt p C D σ) (g : DP K C t D) (y : Nat) : (fnd p σ (C y) = -1 ∧ ∀ e, e ∈ D.1 ∨ e ∈ D.2.1 → C e.1 ≠ C y) ∨ (∃ (j : Nat) (e : Nat × Nat), D.1[j]? = some e ∧ C e.1 = C y ∧ fnd p σ (C y) = (j : Int)) ∨ (∃ (j : Nat) (e : Nat × Nat), D.2.1[j]? = some e ∧ C e.1 = C y ∧ fnd p σ (C y) = 12 + (j : Int)) := by
  obtain ⟨h0, h4, -, h1, h2⟩ := h
  obtain ⟨⟨a1, a2⟩, b, -⟩ := g
  unfold fnd
  rw [h0, h4, Int.toNat_natCast, Int.toNat_natCast]
  rcases fnV_spec (x := C y) (g := q_l σ (p + 2)) (n := D.1.length) 12 0 with ⟨q1, q2⟩ | ⟨j, q1, q2, q3, q4, q5, q6⟩
  · rw [if_neg (fun w => w q1)]
    have n1 : ∀ e, e ∈ D.1 → C e.1 ≠ C y := fun e he w => by
      obtain ⟨j, hj⟩ := List.mem_iff_getElem?.mp he
      obtain ⟨lt, -⟩ := List.getElem?_eq_some_iff.mp hj
      exact q2 j (by omega) lt (by omega) ((h1 j e hj).2.trans w)
    rcases fnV_spec (x := C y) (g := q_l σ (p + 4)) (n := D.2.1.length) 12 0 with ⟨r1, r2⟩ | ⟨j, r1, r2, r3, r4, r5, r6⟩
    · rw [if_neg (fun w => w r1)]
      refine Or.inl ⟨rfl, fun e he w => ?_⟩
      rcases he with he | he
      · exact n1 e he w
      · obtain ⟨j, hj⟩ := List.mem_iff_getElem?.mp he
        obtain ⟨lt, -⟩ := List.getElem?_eq_some_iff.mp hj
        exact r2 j (by omega) lt (by omega) ((h2 j e hj).2.trans w)
    · rw [r1, if_pos (by omega)]
      have gj := List.getElem?_eq_getElem r3
      exact Or.inr (Or.inr ⟨j, _, gj, (h2 j _ gj).2.symm.trans r5, rfl⟩)
  · rw [q1, if_pos (by omega)]
    have gj := List.getElem?_eq_getElem q3
    exact Or.inr (Or.inl ⟨j, _, gj, (h1 j _ gj).2.symm.trans q5, rfl⟩)
/-- NAMES and NUMBERS are the same to both -/
theorem NR_eqt (h : DQt p C D σ) (g : DP K C t D) (r : DR D σ') (eK : K = z σ 4) (eC : C = q_l σ 6) (ev : ∀ i, i ≤ L → K i = 23 → v i = zL (C i)) (ht : t ≤ L) (hC : ∀ i j, K i = 30 → K j = 30 → i ≤ L → j ≤ L → (C i = C j ↔ q_l σ' 99 i = q_l σ' 99 j)) : ∀ i, i ≤ L → K i = 23 ∨ K i = 30 → NR K v σ' i = nmI p σ i ∧ BR K σ' i = nmB p σ i := fun i hi hk => by
  unfold NR BR nmI nmB
  rw [← eK, ← eC]
  rcases hk with hk | hk
  · rw [if_pos hk, if_pos hk, ev i hi hk]
    exact ⟨rfl, (decide_eq_true (Or.inl hk)).trans (decide_eq_true (Or.inl hk)).symm⟩
  · have n23 : ¬ K i = 23 := by omega
    rw [if_neg n23, if_neg n23]
    have iff : ∀ e, e ∈ D.1 ∨ e ∈ D.2.1 → (C e.1 = C i ↔ q_l σ' 99 e.1 = q_l σ' 99 i) := fun e he => by
      obtain ⟨-, q2, q3⟩ := g.2.2.1 e he
      exact hC _ _ q2 hk (by omega) hi
    have h1 := h.2.2.2.1
    have h2 := h.2.2.2.2
    have i1 := g.2.2.2.1
    have i2 := g.2.2.2.2.1
    have i3 := g.2.2.2.2.2.1
    rcases DR_lk r g (q_l σ' 99 i) with ⟨q1, q2⟩ | ⟨k, q1, q2, q3⟩
    · have f0 : fnd p σ (C i) = -1 := by
        rcases fnd_Dt h g i with ⟨w, -⟩ | ⟨j, e, w1, w2, -⟩ | ⟨j, e, w1, w2, -⟩
        · exact w
        · have m : e ∈ D.1 ∨ e ∈ D.2.1 := Or.inl (List.mem_of_getElem? w1)
          exact absurd ((iff e m).mp w2) (q2 e m)
        · have m : e ∈ D.1 ∨ e ∈ D.2.1 := Or.inr (List.mem_of_getElem? w1)
          exact absurd ((iff e m).mp w2) (q2 e m)
      rw [if_pos q1, if_pos f0]
      refine ⟨rfl, ?_⟩
      rw [decide_eq_false (fun w => w.elim n23 (fun w => w q1)), decide_eq_false (fun w => w.elim n23 (fun w => w f0))]
    · rw [q2, if_neg (by omega), Int.toNat_natCast]
      rcases r.2.1 k q1 with ⟨s1, j, e, s2, s3, s4, s5⟩ | ⟨s1, j, e, s2, s3, s4, s5⟩
      · have m : e ∈ D.1 ∨ e ∈ D.2.1 := Or.inl (List.mem_of_getElem? s2)
        have ce : C e.1 = C i := (iff e m).mpr (s5.symm.trans q3)
        obtain ⟨lt, -⟩ := List.getElem?_eq_some_iff.mp s2
        have l12 := g.1
        have f0 : fnd p σ (C i) = (j : Int) := by
          rcases fnd_Dt h g i with ⟨-, w⟩ | ⟨j', e', w1, w2, w3⟩ | ⟨j', e', w1, w2, -⟩
          · exact absurd ce (w e m)
          · rw [w3, i1 j' j e' e w1 s2 (w2.trans ce.symm)]
          · exact absurd (ce.trans w2.symm) (i3 e e' (List.mem_of_getElem? s2) (List.mem_of_getElem? w1))
        rw [f0, if_pos s1, if_neg (show ¬ ((j : Int) = -1) by omega), if_pos (show (j : Int) < 12 by omega), s3, s4, Int.toNat_natCast, (h1 j e s2).1]
        exact ⟨rfl, (decide_eq_true (Or.inr (by omega))).trans (decide_eq_true (Or.inr (by omega))).symm⟩
      · have m : e ∈ D.1 ∨ e ∈ D.2.1 := Or.inr (List.mem_of_getElem? s2)
        have ce : C e.1 = C i := (iff e m).mpr (s5.symm.trans q3)
        obtain ⟨lt, -⟩ := List.getElem?_eq_some_iff.mp s2
        have f0 : fnd p σ (C i) = 12 + (j : Int) := by
          rcases fnd_Dt h g i with ⟨-, w⟩ | ⟨j', e', w1, w2, -⟩ | ⟨j', e', w1, w2, w3⟩
          · exact absurd ce (w e m)
          · exact absurd (w2.trans ce.symm) (i3 e' e (List.mem_of_getElem? w1) (List.mem_of_getElem? s2))
          · rw [w3, i2 j' j e' e w1 s2 (w2.trans ce.symm)]
        rw [f0, if_neg (show ¬ z σ' 103 k = 1 by omega), if_neg (show ¬ (12 + (j : Int) = -1) by omega), if_neg (show ¬ (12 + (j : Int) < 12) by omega), s3, s4, show (12 + (j : Int) - 12) = (j : Int) by omega, Int.toNat_natCast, (h2 j e s2).1]
        exact ⟨rfl, (decide_eq_true (Or.inr (by omega))).trans (decide_eq_true (Or.inr (by omega))).symm⟩
end RgT
theorem KT_of {f : Nat → Int} {n T : Nat} {τ : q_H} (hn : n ≤ 4096) (h4 : z τ 2 4 = ((T + 1 : Nat) : Int)) (hlt : ∀ i, i < T → sp f n i < n) (hT : sp f n T = n) (hk : TKi f n τ (T + 1)) : KT T τ ∧ KS T τ ∧ z τ 4 T = 46 := by
  have b := sp_bd (f := f) (n := n) T hlt
  have k46 : tkK f n n = 46 := by unfold tkK; rw [if_neg (by omega)]
  refine ⟨⟨by omega, by rw [h4]; omega, fun i hi => ?_⟩, ⟨fun i hi => ?_, ?_, ?_⟩, ?_⟩
  · obtain ⟨-, a2, a3⟩ := hk i (by omega)
    have r := tkK_R (f := f) (n := n) (s := sp f n i)
    rw [a2, a3]
    refine ⟨r.1, r.2, ⟨fun q => ?_, fun q => ?_⟩, fun q => tkC_num q⟩
    · by_cases c : i = T
      · exact c
      · exact absurd q (tkK_46 (hlt i (by omega)))
    · rw [q, hT]; exact k46
  · obtain ⟨a1, a2, -⟩ := hk i (by omega)
    obtain ⟨b1, -, -⟩ := hk (i + 1) (by omega)
    rw [a1, a2, b1]
    have := sp_kl (hlt i hi)
    omega
  · rw [(hk 0 (by omega)).1]; omega
  · rw [(hk T (by omega)).1, hT]; omega
  · rw [(hk T (by omega)).2.1, hT]; exact k46
/-- what building may change -/
def SPq (q : Nat) : List Nat := [2, 8, 9, 10, 11, 12, 13, 14, 15, q, q + 1, q + 2, q + 3, q + 4, q + 5, q + 6, q + 7, q + 8, q + 9, q + 10, q + 11, q + 12]
def R8 (o k : Nat) : Prop := o = 8 ∧ (k = 0 ∨ k = 1)
theorem frE_refl {S : List Nat} {R : Nat → Nat → Prop} {σ : q_H} : frE S R σ σ := ⟨rfl, rfl, fun _ _ _ => rfl, fun _ _ => ⟨rfl, rfl⟩⟩
theorem frE_trans {S : List Nat} {R : Nat → Nat → Prop} {σ τ ρ : q_H} (h : frE S R σ τ) (g : frE S R τ ρ) : frE S R σ ρ :=
  ⟨g.1.trans h.1, g.2.1.trans h.2.1, fun o k q => (g.2.2.1 o k q).trans (h.2.2.1 o k q), fun o ho => ⟨(g.2.2.2 o ho).1.trans (h.2.2.2 o ho).1, (g.2.2.2 o ho).2.trans (h.2.2.2 o ho).2⟩⟩
theorem frE_of {S T : List Nat} {R : Nat → Nat → Prop} {σ τ : q_H} (h : fr S σ τ) (hs : ∀ x ∈ S, x ∈ T) : frE T R σ τ := ⟨h.1, h.2.1, fun o k _ => by rw [h.2.2.1], fun o ho => h.2.2.2 o (fun hc => ho (hs o hc))⟩
theorem frE_z {S : List Nat} {R : Nat → Nat → Prop} {σ τ : q_H} {o : Nat} (h : frE S R σ τ) (ho : o ∉ S) : z τ o = z σ o := funext fun k => by unfold z; rw [(h.2.2.2 o ho).1]
theorem frE_l {S : List Nat} {R : Nat → Nat → Prop} {σ τ : q_H} {o : Nat} (h : frE S R σ τ) (ho : o ∉ S) : q_l τ o = q_l σ o := (h.2.2.2 o ho).2
theorem frE_r {S : List Nat} {R : Nat → Nat → Prop} {σ τ : q_H} {o k : Nat} (h : frE S R σ τ) (ho : ¬ R o k) : q_r τ o k = q_r σ o k := h.2.2.1 o k ho
/-- FAULT and its place -/
def bO (P : Nat → Int) (n : Nat) (rD : Except Nat (Nat × q_Ds)) (rS : q_SR) : Int × Int :=
  match rD with
  | .error x => (1, P x)
  | .ok (_, D) => match rS with
    | .error x => (1, P x)
    | .ok (_, sm) => match D.2.2.or sm.2.2.1 with
      | some y => (y.1, P y.2)
      | none => if 1500 < sm.2.1 then (7, (n : Int)) else (0, -1)
/-- what the class has read -/
def PB (q T n : Nat) (X : Nat → Nat → q_PR) (rD : Except Nat (Nat × q_Ds)) (rS : q_SR) (τ : q_H) : Prop :=
  (KT T τ ∧ KS T τ ∧ z τ 4 T = 46) ∧ (XO X (z τ 4) (nmI q τ) (nmB q τ) T ∧ ∀ dp t, T < t → X dp t = .error t) ∧ pD (z τ 4) (fun i => zL (q_l τ 6 i)) (q_l τ 6) (T + 1) 0 ([], [], none) = some rD ∧
  (∀ t' D', rD = .ok (t', D') → t' ≤ T ∧ DQt q (q_l τ 6) D' τ ∧ ∃ m, pS X (z τ 4) (nmI q τ) (nmB q τ) D'.2.1.length m (some ([], 0, none, 0)) 0 0 0 0 t' = some rS) ∧
  (z τ q 9 = (bO (z τ 5) n rD rS).1 ∧ (z τ q 9 ≠ 0 → z τ q 10 = (bO (z τ 5) n rD rS).2)) ∧
  ∀ t' D' t'' sm, rD = .ok (t', D') → rS = .ok (t'', sm) → GP q τ ∧ z τ q 11 = (sm.1.length : Int) ∧ lsS (z τ (q + 5)) (z τ (q + 6)) (z τ (q + 9)) (z τ (q + 7)) (z τ (q + 8)) sm.1 0 0 ∧ (z τ q 17 = ((itF sm.1).length : Int) ∧ lsI (itF sm.1) (z τ (q + 10)) (z τ (q + 11)) (z τ (q + 12))) ∧ z τ q 7 = (sm.2.2.2 : Int) ∧ z τ q 8 = ((min sm.2.1 1501 : Nat) : Int)
