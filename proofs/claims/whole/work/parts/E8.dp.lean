/-! DECLARATIONS: one pure reader; the class reads as it does -/
abbrev q_Ds : Type := List (Nat × Nat) × List (Nat × Nat) × Option (Int × Nat)
def bts : List (Nat × Nat) → Nat
  | [] => 0
  | e :: l => e.2 + bts l
theorem bts_app : ∀ (a : List (Nat × Nat)) (e : Nat × Nat), bts (a ++ [e]) = bts a + e.2
  | [], e => by show e.2 + 0 = 0 + e.2; omega
  | x :: a, e => by show x.2 + bts (a ++ [e]) = x.2 + bts a + e.2; rw [bts_app a e]; omega
def dupB (C : Nat → Int64) (l : List (Nat × Nat)) (t : Nat) : Bool := l.any (fun e => decide (C e.1 = C t))
theorem dupB_t {C : Nat → Int64} {l : List (Nat × Nat)} {t : Nat} : dupB C l t = true ↔ ∃ e, e ∈ l ∧ C e.1 = C t := by
  unfold dupB
  rw [List.any_eq_true]
  constructor
  · rintro ⟨e, h1, h2⟩; exact ⟨e, h1, of_decide_eq_true h2⟩
  · rintro ⟨e, h1, h2⟩; exact ⟨e, h1, decide_eq_true h2⟩
def dAdd (K v : Nat → Int) (C : Nat → Int64) (t : Nat) (D : q_Ds) : q_Ds :=
  if (dupB C D.1 (t + 1) || dupB C D.2.1 (t + 1)) = true then (D.1, D.2.1, D.2.2.or (some (3, t + 1)))
  else if v (t + 3) < 1 ∨ 8 < v (t + 3) then (D.1, D.2.1, D.2.2.or (some (5, t + 3)))
  else if K t = 39 then (if 12 < bts D.1 + (v (t + 3)).toNat then (D.1, D.2.1, D.2.2.or (some (6, t + 1))) else (D.1 ++ [(t + 1, (v (t + 3)).toNat)], D.2.1, D.2.2))
  else if 12 ≤ D.2.1.length then (D.1, D.2.1, D.2.2.or (some (6, t + 1))) else (D.1, D.2.1 ++ [(t + 1, (v (t + 3)).toNat)], D.2.2)
def pD (K v : Nat → Int) (C : Nat → Int64) : Nat → Nat → q_Ds → Option (Except Nat (Nat × q_Ds))
  | 0, _, _ => none
  | n + 1, t, D => if K t = 39 ∨ K t = 40 then
      (if K (t + 1) = 30 then (if K (t + 2) = 33 then (if K (t + 3) = 23 then (if K (t + 4) = 32 then pD K v C n (t + 5) (dAdd K v C t D) else some (.error (t + 4))) else some (.error (t + 3))) else some (.error (t + 2))) else some (.error (t + 1)))
    else some (.ok (t, D))
theorem pD_s {K v : Nat → Int} {C : Nat → Int64} {n t : Nat} {D : q_Ds} : pD K v C (n + 1) t D = if K t = 39 ∨ K t = 40 then
      (if K (t + 1) = 30 then (if K (t + 2) = 33 then (if K (t + 3) = 23 then (if K (t + 4) = 32 then pD K v C n (t + 5) (dAdd K v C t D) else some (.error (t + 4))) else some (.error (t + 3))) else some (.error (t + 2))) else some (.error (t + 1)))
    else some (.ok (t, D)) := rfl
theorem pD_ends {K v : Nat → Int} {C : Nat → Int64} {T : Nat} (hT : K T = 46) : ∀ (n t : Nat) (D : q_Ds), t ≤ T → T < t + n → ∃ r, pD K v C n t D = some r
  | 0, t, D, h, g => absurd g (by omega)
  | n + 1, t, D, h, g => by
    rw [pD_s]
    split
    · split
      · split
        · split
          · split
            · next c0 c1 c2 c3 c4 =>
              have ne : ∀ j, K j ≠ 46 → j ≠ T := fun j q e => q (by rw [e]; exact hT)
              have := ne t (by omega); have := ne (t + 1) (by omega); have := ne (t + 2) (by omega); have := ne (t + 3) (by omega); have := ne (t + 4) (by omega)
              exact pD_ends hT n (t + 5) _ (by omega) (by omega)
            · exact ⟨_, rfl⟩
          · exact ⟨_, rfl⟩
        · exact ⟨_, rfl⟩
      · exact ⟨_, rfl⟩
    · exact ⟨_, rfl⟩
/-! searching NAMES -/
theorem fnV_spec {x : Int64} {g : Nat → Int64} {n : Nat} : ∀ k i, (fnV x g n k i = -1 ∧ ∀ j, i ≤ j → j < n → j < i + k → g j ≠ x) ∨ (∃ j : Nat, fnV x g n k i = (j : Int) ∧ i ≤ j ∧ j < n ∧ j < i + k ∧ g j = x ∧ ∀ j', i ≤ j' → j' < j → g j' ≠ x)
  | 0, i => Or.inl ⟨rfl, fun j h1 _ h3 => absurd h3 (by omega)⟩
  | k + 1, i => by
    rw [fnV_s]
    by_cases c : i < n
    · rw [if_pos c]
      by_cases c2 : g i = x
      · rw [if_pos c2]
        exact Or.inr ⟨i, rfl, Nat.le_refl _, c, by omega, c2, fun j' h1 h2 => absurd h1 (by omega)⟩
      · rw [if_neg c2]
        rcases fnV_spec k (i + 1) with ⟨a, b⟩ | ⟨j, a, b1, b2, b3, b4, b5⟩
        · refine Or.inl ⟨a, fun j h1 h2 h3 => ?_⟩
          by_cases e : j = i
          · rw [e]; exact c2
          · exact b j (by omega) h2 (by omega)
        · refine Or.inr ⟨j, a, by omega, b2, by omega, b4, fun j' h1 h2 => ?_⟩
          by_cases e : j' = i
          · rw [e]; exact c2
          · exact b5 j' (by omega) h2
    · rw [if_neg c]
      exact Or.inl ⟨rfl, fun j h1 h2 _ => absurd h2 (by omega)⟩
theorem fnV_dup {C : Nat → Int64} {g : Nat → Int64} {l : List (Nat × Nat)} {t k : Nat} (h : ∀ j e, l[j]? = some e → g j = C e.1) (hl : l.length ≤ k) : fnV (C t) g l.length k 0 = -1 ↔ dupB C l t = false := by
  rw [← Bool.not_eq_true, dupB_t]
  rcases fnV_spec (x := C t) (g := g) (n := l.length) k 0 with ⟨a, b⟩ | ⟨j, a, b1, b2, b3, b4, b5⟩
  · refine ⟨fun _ ⟨e, h1, h2⟩ => ?_, fun _ => a⟩
    obtain ⟨j, hj⟩ := List.mem_iff_getElem?.mp h1
    obtain ⟨lt, -⟩ := List.getElem?_eq_some_iff.mp hj
    exact b j (by omega) lt (by omega) ((h j e hj).trans h2)
  · refine ⟨fun q => absurd (a.symm.trans q) (by omega), fun q => absurd ⟨l[j], List.getElem_mem b2, ?_⟩ q⟩
    rw [← h j _ (List.getElem?_eq_getElem b2)]; exact b4
/-- what the class's cells say of DECLARATIONS -/
def DQ (p : Nat) (P : Nat → Int) (C : Nat → Int64) (t : Nat) (D : q_Ds) (σ : q_H) : Prop :=
  z σ 2 8 = (t : Int) ∧ z σ p 0 = (D.1.length : Int) ∧ z σ p 4 = (D.2.1.length : Int) ∧ z σ p 1 = (bts D.1 : Int) ∧ (∀ j e, D.1[j]? = some e → z σ (p + 1) j = (e.2 : Int) ∧ q_l σ (p + 2) j = C e.1) ∧ (∀ j e, D.2.1[j]? = some e → z σ (p + 3) j = (e.2 : Int) ∧ q_l σ (p + 4) j = C e.1) ∧ FB P D.2.2 (z σ p 9) (z σ p 10)
section DpP
variable {ω : q_W} {d T p : Nat} {σ0 σ : q_H} {P : Nat → Int} {C : Nat → Int64} {t : Nat} {D : q_Ds}
theorem DX_addI {x1 : Int64} {x3 : Int} (hp : p = 16 ∨ p = 29) (hx : DX T p σ0 σ) (h3 : 1 ≤ x3 ∧ x3 ≤ 8) (c12 : z σ p 1 + x3 ≤ 12) : DX T p σ0 (zs (zs (zs (zt σ (p + 2) (z σ p 0).toNat x1) (p + 1) (z σ p 0).toNat x3) p 0 (z σ p 0 + 1)) p 1 (z σ p 1 + x3)) := by
  obtain ⟨hb, f, g2, gp, b1, b2⟩ := id hx
  obtain ⟨⟨hE, r0, r1⟩, c, ⟨w1, w2, w3, w4⟩, e1, i1⟩ := id hb
  have o : ∀ a, a ≠ p → a ≠ p + 1 → z (zs (zs (zs (zt σ (p + 2) (z σ p 0).toNat x1) (p + 1) (z σ p 0).toNat x3) p 0 (z σ p 0 + 1)) p 1 (z σ p 1 + x3)) a = z σ a := fun a h g => by rw [z_oF h, z_oF h, z_oF g]; rfl
  have s : ∀ j, z (zs (zs (zs (zt σ (p + 2) (z σ p 0).toNat x1) (p + 1) (z σ p 0).toNat x3) p 0 (z σ p 0 + 1)) p 1 (z σ p 1 + x3)) p j = if j = 1 then z σ p 1 + x3 else if j = 0 then z σ p 0 + 1 else z σ p j := fun j => by
    rw [z_if ⟨by omega, by omega⟩, z_if ⟨by omega, by omega⟩, z_o (by omega), z_t]; simp
  have s1 : z (zs (zs (zs (zt σ (p + 2) (z σ p 0).toNat x1) (p + 1) (z σ p 0).toNat x3) p 0 (z σ p 0 + 1)) p 1 (z σ p 1 + x3)) (p + 1) = up (z σ (p + 1)) (z σ p 0).toNat x3 := by
    rw [z_oF (by omega), z_oF (by omega), z_up ⟨by omega, by omega⟩]; rfl
  have l6 : q_l (zs (zs (zs (zt σ (p + 2) (z σ p 0).toNat x1) (p + 1) (z σ p 0).toNat x3) p 0 (z σ p 0 + 1)) p 1 (z σ p 1 + x3)) 6 = q_l σ 6 := q_row_n _ _ (by omega)
  have fr2 : fr [2, p, p + 1, p + 2, p + 3, p + 4] σ0 (zs (zs (zs (zt σ (p + 2) (z σ p 0).toNat x1) (p + 1) (z σ p 0).toNat x3) p 0 (z σ p 0 + 1)) p 1 (z σ p 1 + x3)) := fr_s (fr_s (fr_s (fr_t f (by simp)) (by simp)) (by simp)) (by simp)
  have rr : q_r (zs (zs (zs (zt σ (p + 2) (z σ p 0).toNat x1) (p + 1) (z σ p 0).toNat x3) p 0 (z σ p 0 + 1)) p 1 (z σ p 1 + x3)) = q_r σ := rfl
  have E2 : q_E (zs (zs (zs (zt σ (p + 2) (z σ p 0).toNat x1) (p + 1) (z σ p 0).toNat x3) p 0 (z σ p 0 + 1)) p 1 (z σ p 1 + x3)) := zs_E (zs_E (zs_E (zt_E hE)))
  generalize zs (zs (zs (zt σ (p + 2) (z σ p 0).toNat x1) (p + 1) (z σ p 0).toNat x3) p 0 (z σ p 0 + 1)) p 1 (z σ p 1 + x3) = π at *
  have t0 : z π p 0 = z σ p 0 + 1 := by rw [s]; rfl
  have t1 : z π p 1 = z σ p 1 + x3 := by rw [s]; rfl
  have tk : ∀ k, k ≠ 0 → k ≠ 1 → z π p k = z σ p k := fun k h g => by rw [s, if_neg g, if_neg h]
  have e2 := o 2 (by omega) (by omega)
  refine ⟨⟨⟨E2, by rw [rr]; exact r0, by rw [rr]; exact r1⟩, ?_, ⟨by omega, ?_, ?_, ?_⟩, ?_, ?_⟩, fr2, ?_, ?_, by omega, ?_, ?_⟩
  · unfold KT; rw [e2, o 4 (by omega) (by omega), l6]; exact c
  · rw [tk 4 (by decide) (by decide)]; exact w2
  · intro i hi
    rw [s1]
    unfold up
    split
    · exact h3
    · exact w3 i (by omega)
  · intro i; rw [tk 4 (by decide) (by decide), o (p + 3) (by omega) (by omega)]; exact w4 i
  · rw [e2]; exact e1
  · rw [tk 17 (by decide) (by decide)]; unfold IT; rw [o (p + 10) (by omega) (by omega), o (p + 11) (by omega) (by omega), o (p + 12) (by omega) (by omega)]; exact i1
  · rw [e2]; exact g2
  · intro k k0 k1 k4 k9 k10; rw [tk k k0 k1]; exact gp k k0 k1 k4 k9 k10
  · rw [t0, t1, s1, show (z σ p 0 + 1).toNat = (z σ p 0).toNat + 1 by omega]
    show sm (up (z σ (p + 1)) (z σ p 0).toNat x3) (z σ p 0).toNat + up (z σ (p + 1)) (z σ p 0).toNat x3 (z σ p 0).toNat = _
    rw [sm_up _ (Nat.le_refl _), up_s, b2.1]
  · unfold WD; rw [o (p + 3) (by omega) (by omega)]; exact b2.2
theorem DX_addV {x1 : Int64} {x3 : Int} (hp : p = 16 ∨ p = 29) (hx : DX T p σ0 σ) (h3 : 1 ≤ x3 ∧ x3 ≤ 8) (c12 : z σ p 4 < 12) : DX T p σ0 (zs (zs (zt σ (p + 4) (z σ p 4).toNat x1) (p + 3) (z σ p 4).toNat x3) p 4 (z σ p 4 + 1)) := by
  obtain ⟨hb, f, g2, gp, b1, b2⟩ := id hx
  obtain ⟨⟨hE, r0, r1⟩, c, ⟨w1, w2, w3, w4⟩, e1, i1⟩ := id hb
  have o : ∀ a, a ≠ p → a ≠ p + 3 → z (zs (zs (zt σ (p + 4) (z σ p 4).toNat x1) (p + 3) (z σ p 4).toNat x3) p 4 (z σ p 4 + 1)) a = z σ a := fun a h g => by rw [z_oF h, z_oF g]; rfl
  have s : ∀ j, z (zs (zs (zt σ (p + 4) (z σ p 4).toNat x1) (p + 3) (z σ p 4).toNat x3) p 4 (z σ p 4 + 1)) p j = if j = 4 then z σ p 4 + 1 else z σ p j := fun j => by
    rw [z_if ⟨by omega, by omega⟩, z_o (by omega), z_t]; simp
  have s3 : z (zs (zs (zt σ (p + 4) (z σ p 4).toNat x1) (p + 3) (z σ p 4).toNat x3) p 4 (z σ p 4 + 1)) (p + 3) = up (z σ (p + 3)) (z σ p 4).toNat x3 := by
    rw [z_oF (by omega), z_up ⟨by omega, by omega⟩]; rfl
  have l6 : q_l (zs (zs (zt σ (p + 4) (z σ p 4).toNat x1) (p + 3) (z σ p 4).toNat x3) p 4 (z σ p 4 + 1)) 6 = q_l σ 6 := q_row_n _ _ (by omega)
  have fr2 : fr [2, p, p + 1, p + 2, p + 3, p + 4] σ0 (zs (zs (zt σ (p + 4) (z σ p 4).toNat x1) (p + 3) (z σ p 4).toNat x3) p 4 (z σ p 4 + 1)) := fr_s (fr_s (fr_t f (by simp)) (by simp)) (by simp)
  have rr : q_r (zs (zs (zt σ (p + 4) (z σ p 4).toNat x1) (p + 3) (z σ p 4).toNat x3) p 4 (z σ p 4 + 1)) = q_r σ := rfl
  have E2 : q_E (zs (zs (zt σ (p + 4) (z σ p 4).toNat x1) (p + 3) (z σ p 4).toNat x3) p 4 (z σ p 4 + 1)) := zs_E (zs_E (zt_E hE))
  generalize zs (zs (zt σ (p + 4) (z σ p 4).toNat x1) (p + 3) (z σ p 4).toNat x3) p 4 (z σ p 4 + 1) = π at *
  have t4 : z π p 4 = z σ p 4 + 1 := by rw [s]; rfl
  have tk : ∀ k, k ≠ 4 → z π p k = z σ p k := fun k h => by rw [s, if_neg h]
  have e2 := o 2 (by omega) (by omega)
  refine ⟨⟨⟨E2, by rw [rr]; exact r0, by rw [rr]; exact r1⟩, ?_, ⟨?_, by omega, ?_, ?_⟩, ?_, ?_⟩, fr2, ?_, ?_, ?_, ?_⟩
  · unfold KT; rw [e2, o 4 (by omega) (by omega), l6]; exact c
  · rw [tk 0 (by decide)]; exact w1
  · intro i; rw [tk 0 (by decide), o (p + 1) (by omega) (by omega)]; exact w3 i
  · intro i hi
    rw [s3]
    unfold up
    split
    · exact h3
    · exact w4 i (by omega)
  · rw [e2]; exact e1
  · rw [tk 17 (by decide)]; unfold IT; rw [o (p + 10) (by omega) (by omega), o (p + 11) (by omega) (by omega), o (p + 12) (by omega) (by omega)]; exact i1
  · rw [e2]; exact g2
  · intro k k0 k1 k4 k9 k10; rw [tk k k4]; exact gp k k0 k1 k4 k9 k10
  · rw [tk 0 (by decide), tk 1 (by decide)]; exact b1
  · rw [tk 0 (by decide), tk 1 (by decide), o (p + 1) (by omega) (by omega)]
    refine ⟨b2.1, fun i hi => ?_⟩
    rw [s3]
    unfold up
    split
    · omega
    · exact b2.2 i hi
theorem DQ_fnd (hx : DX T p σ0 σ) (h : DQ p P C t D σ) (y : Nat) : fnd p σ (C y) = -1 ↔ (dupB C D.1 y || dupB C D.2.1 y) = false := by
  obtain ⟨-, h0, h4, -, h1, h2, -⟩ := h
  have w := hx.1.2.2.1
  have a := fnV_dup (C := C) (g := q_l σ (p + 2)) (l := D.1) (t := y) (k := 12) (fun j e q => (h1 j e q).2) (by have := w.1; omega)
  have b := fnV_dup (C := C) (g := q_l σ (p + 4)) (l := D.2.1) (t := y) (k := 12) (fun j e q => (h2 j e q).2) (by have := w.2.1; omega)
  have r2 := fnV_R (x := C y) (g := q_l σ (p + 4)) (n := D.2.1.length) 12 0
  unfold fnd
  rw [h0, h4, Int.toNat_natCast, Int.toNat_natCast, Bool.or_eq_false_iff, ← a, ← b]
  by_cases c : fnV (C y) (q_l σ (p + 2)) D.1.length 12 0 = -1
  · rw [if_neg (fun q => q c)]
    by_cases c2 : fnV (C y) (q_l σ (p + 4)) D.2.1.length 12 0 = -1
    · rw [if_neg (fun q => q c2)]; exact ⟨fun _ => ⟨c, c2⟩, fun _ => rfl⟩
    · rw [if_pos c2]; exact ⟨fun q => absurd q (by omega), fun q => absurd q.2 c2⟩
  · rw [if_pos c]; exact ⟨fun q => absurd q c, fun q => absurd q.1 c⟩
theorem DQ_note {k : Int} {y : Nat} (hp : p = 16 ∨ p = 29) (h : DQ p P C t D σ) (h9 : z σ p 9 = 0) (hk : k ≠ 0) (kR : inR k) (yR : inR (P y)) : DQ p P C t (D.1, D.2.1, D.2.2.or (some (k, y))) (zs (zs σ p 9 k) p 10 (P y)) := by
  obtain ⟨h2, h0, h4, h1, hi, hv, hF⟩ := h
  have o : ∀ a, a ≠ p → z (zs (zs σ p 9 k) p 10 (P y)) a = z σ a := fun a h => (z_oF h).trans (z_oF h)
  have s : ∀ j, j ≠ 9 → j ≠ 10 → z (zs (zs σ p 9 k) p 10 (P y)) p j = z σ p j := fun j h g => (z_k g).trans (z_k h)
  have f0 : D.2.2 = none := by
    cases e : D.2.2 with
    | none => rfl
    | some x => rw [e] at hF; exact absurd (hF.1.symm.trans h9) (by have := hF.2.1; have := hF.1; omega)
  refine ⟨by rw [o 2 (by omega)]; exact h2, by rw [s 0 (by decide) (by decide)]; exact h0, by rw [s 4 (by decide) (by decide)]; exact h4, by rw [s 1 (by decide) (by decide)]; exact h1, fun j e q => by rw [o (p + 1) (by omega)]; exact hi j e q, fun j e q => by rw [o (p + 3) (by omega)]; exact hv j e q, ?_⟩
  show FB P (D.2.2.or (some (k, y))) _ _
  rw [f0, z_k (by decide), z_s kR, z_s yR]
  exact ⟨rfl, hk, rfl⟩
theorem DQ_old {k : Int} {y : Nat} (h : DQ p P C t D σ) (h9 : z σ p 9 ≠ 0) : DQ p P C t (D.1, D.2.1, D.2.2.or (some (k, y))) σ := by
  obtain ⟨h2, h0, h4, h1, hi, hv, hF⟩ := h
  refine ⟨h2, h0, h4, h1, hi, hv, ?_⟩
  show FB P (D.2.2.or (some (k, y))) _ _
  cases e : D.2.2 with
  | none => rw [e] at hF; exact absurd hF h9
  | some x => rw [e] at hF; exact hF
theorem DQ_t {t' : Nat} (hp : p = 16 ∨ p = 29) (h : DQ p P C t D σ) (ht : t' ≤ 5000) : DQ p P C t' D (zs σ 2 8 (t' : Int)) := by
  obtain ⟨h2, h0, h4, h1, hi, hv, hF⟩ := h
  have o : ∀ a, a ≠ 2 → z (zs σ 2 8 (t' : Int)) a = z σ a := fun a h => z_oF h
  unfold DQ
  rw [o p (by omega), o (p + 1) (by omega), o (p + 3) (by omega)]
  exact ⟨z_s ⟨by omega, by omega⟩, h0, h4, h1, hi, hv, hF⟩
/-- accept, with what it leaves -/
theorem w_acc {K : Int → q_H → Prop} {x1 : Int} (hd : 1 ≤ d) (hp : p = 16 ∨ p = 29) (hx : DX T p σ0 σ) (h : DQ p P C t D σ) (hx1 : inR x1) (k0 : z σ 4 t ≠ x1 → K 0 σ) (n46 : x1 ≠ 46) (k1 : z σ 4 t = x1 → ∀ τ, DX T p σ0 τ → DQ p P C (t + 1) D τ → K 1 τ) : J ω m_Pa_accept d 0 0 0 0 0 [(0, .ref 8), (1, .int (zI x1))] [] σ (q_ki K) := by
  obtain ⟨d, rfl⟩ : ∃ k, d = k + 1 := ⟨d - 1, by omega⟩
  have hc := DX_c hx
  have e8 := h.1
  obtain ⟨⟨⟨hE, r0, r1⟩, ⟨c1, c2, c3⟩, -⟩, -⟩ := id hx
  have tT : z σ 4 t = x1 → t < T := fun q => by
    have := (c3 t (by omega)).2.2.1
    omega
  refine b_Pa_accept_0 hp r0 r1 hE ?_
  rw [e8, Int.toNat_natCast]
  refine ⟨⟨by omega, by omega⟩, hx1, fun c => ?_, fun c => ⟨0, ⟨by decide, by decide⟩, rfl, k0 c⟩⟩
  have lt := tT c
  refine b_Sc_advance_0 hE ?_
  rw [c2, e8]
  refine ⟨⟨by omega, by omega⟩, fun q => absurd q (by omega), fun _ => ⟨rfl, ?_⟩⟩
  have ex : (t : Int) + 1 = ((t + 1 : Nat) : Int) := by omega
  rw [ex]
  have hx' := DX_28 (c := ((t + 1 : Nat) : Int)) hp hx (by omega) (by omega)
  obtain ⟨⟨⟨hE2, r02, r12⟩, -⟩, -⟩ := id hx'
  exact b_Pa_accept_20 hp r02 r12 hE2 ⟨1, ⟨by decide, by decide⟩, rfl, k1 c _ hx' (DQ_t hp h (by omega))⟩
end DpP
