/-! The class reads an EXPR: the heap follows the machine -/
def stk (f : Nat → Int) : List Int → Prop
  | [] => True
  | s :: S => f S.length = s ∧ stk f S
theorem stk_c {f g : Nat → Int} : ∀ {S : List Int}, stk f S → (∀ i, i < S.length → g i = f i) → stk g S
  | [], _, _ => trivial
  | s :: S, h, e => ⟨by rw [e _ (by rw [List.length_cons]; omega)]; exact h.1, stk_c h.2 (fun i hi => e i (by rw [List.length_cons]; omega))⟩
def lsI (its : List q_It) (f g h : Nat → Int) : Prop := ∀ i x, its[i]? = some x → f i = x.1 ∧ g i = x.2.1 ∧ h i = x.2.2
theorem lsI_push {its : List q_It} {f g h : Nat → Int} {a b c : Int} (H : lsI its f g h) : lsI (its ++ [(a, b, c)]) (up f its.length a) (up g its.length b) (up h its.length c) := by
  intro i x q
  by_cases e : i = its.length
  · subst e
    rw [List.getElem?_append_right (Nat.le_refl _), Nat.sub_self] at q
    cases q
    exact ⟨up_s, up_s, up_s⟩
  · rw [up_n e, up_n e, up_n e]
    have hi : i < its.length := by
      have := (List.getElem?_eq_some_iff.mp q).1
      rw [List.length_append] at this
      simp at this
      omega
    rw [List.getElem?_append_left hi] at q
    exact H i x q
/-- the first FAULT: one from before, or an unknown NAME -/
def FA (fb wb : Int) (P : Nat → Int) (f : Option Nat) (a b : Int) : Prop := if fb ≠ 0 then a = fb ∧ b = wb else match f with | none => a = 0 ∧ b = wb | some x => a = 2 ∧ b = P x
def dpt : List Int → Nat
  | [] => 0
  | s :: S => (if 19 ≤ s then 1 else 0) + dpt S
def AR (T p : Nat) (P : Nat → Int) (fb wb : Int) (C : q_Mc) (σ : q_H) : Prop :=
  (z σ 2 8 = (C.1 : Int) ∧ C.1 ≤ T) ∧ (z σ 8 10 = (C.2.1.length : Int) ∧ stk (z σ 14) C.2.1) ∧ (z σ 8 12 = (C.2.2.1.1.length : Int) ∧ stk (z σ 15) C.2.2.1.1) ∧
  z σ 8 13 = (C.2.2.1.2.1 : Int) ∧ z σ 8 14 = ((min C.2.2.1.2.2.1 1501 : Nat) : Int) ∧ (z σ p 17 = (C.2.2.1.2.2.2.length : Int) ∧ lsI C.2.2.1.2.2.2 (z σ (p + 10)) (z σ (p + 11)) (z σ (p + 12))) ∧
  FA fb wb P C.2.2.2 (z σ p 9) (z σ p 10)
def FX (T p : Nat) (P : Nat → Int) (fb wb : Int) (σ0 : q_H) (C : q_Mc) (σ : q_H) : Prop := EX T p σ0 σ ∧ AR T p P fb wb C σ
/-- who a NAME is -/
def fnV (x : Int64) (g : Nat → Int64) (n : Nat) : Nat → Nat → Int
  | 0, _ => -1
  | k + 1, i => if i < n then (if g i = x then (i : Int) else fnV x g n k (i + 1)) else -1
def fnd (p : Nat) (σ : q_H) (x : Int64) : Int := if fnV x (q_l σ (p + 2)) (z σ p 0).toNat 12 0 ≠ -1 then fnV x (q_l σ (p + 2)) (z σ p 0).toNat 12 0 else if fnV x (q_l σ (p + 4)) (z σ p 4).toNat 12 0 ≠ -1 then 12 + fnV x (q_l σ (p + 4)) (z σ p 4).toNat 12 0 else -1
/-- the least WIDTH of a number -/
def lwF (v : Int) : Nat → Nat → Nat
  | 0, i => i
  | k + 1, i => if v / 2 ^ i = 0 then i else lwF v k (i + 1)
def lwd (v : Int) : Int := (lwF v 7 1 : Nat)
/-- the item of a NAME or NUMBER -/
def nmI (p : Nat) (σ : q_H) (t : Nat) : q_It :=
  if z σ 4 t = 23 then (23, zL (q_l σ 6 t), lwd (zL (q_l σ 6 t)))
  else if fnd p σ (q_l σ 6 t) = -1 then (23, 0, 1) else if fnd p σ (q_l σ 6 t) < 12 then (24, fnd p σ (q_l σ 6 t), z σ (p + 1) (fnd p σ (q_l σ 6 t)).toNat) else (25, fnd p σ (q_l σ 6 t) - 12, z σ (p + 3) (fnd p σ (q_l σ 6 t) - 12).toNat)
def nmB (p : Nat) (σ : q_H) (t : Nat) : Bool := decide (z σ 4 t = 23 ∨ fnd p σ (q_l σ 6 t) ≠ -1)
theorem fnV_s {x : Int64} {g : Nat → Int64} {n k i : Nat} : fnV x g n (k + 1) i = if i < n then (if g i = x then (i : Int) else fnV x g n k (i + 1)) else -1 := rfl
theorem lwF_s {v : Int} {k i : Nat} : lwF v (k + 1) i = if v / 2 ^ i = 0 then i else lwF v k (i + 1) := rfl
theorem fnV_R {x : Int64} {g : Nat → Int64} {n : Nat} : ∀ k i, fnV x g n k i = -1 ∨ ((i : Int) ≤ fnV x g n k i ∧ fnV x g n k i < (n : Int) ∧ fnV x g n k i < (i : Int) + k)
  | 0, i => Or.inl rfl
  | k + 1, i => by
    unfold fnV
    by_cases c : i < n
    · rw [if_pos c]
      by_cases c2 : g i = x
      · rw [if_pos c2]; exact Or.inr ⟨Int.le_refl _, by omega, by omega⟩
      · rw [if_neg c2]
        rcases fnV_R k (i + 1) with q | q
        · exact Or.inl q
        · exact Or.inr ⟨by omega, q.2.1, by omega⟩
    · rw [if_neg c]; exact Or.inl rfl
section FxJ
variable {ω : q_W} {d T p : Nat} {σ0 σ : q_H} {P : Nat → Int} {fb wb : Int} {t D k : Nat} {S W : List Int} {its : List q_It} {f : Option Nat}
theorem f_adv {K : q_H → Prop} {r : q_Rd} (hp : p = 16 ∨ p = 29) (h : FX T p P fb wb σ0 (t, S, r, f) σ) (ht : t < T) (kk : ∀ τ, FX T p P fb wb σ0 (t + 1, S, r, f) τ → K τ) : J ω m_Sc_advance d 0 0 0 0 0 [(0, .ref 2)] [] σ (q_kv K) := by
  obtain ⟨hx, ⟨a1, a2⟩, ⟨b1, b2⟩, ⟨c1, c2⟩, e1, e2, ⟨g1, g2⟩, j1⟩ := h
  obtain ⟨⟨hE, r0, r1⟩, -, ⟨k1, k2, k3⟩, -, -, ⟨l0, l1, l2⟩, -⟩ := id hx
  refine b_Sc_advance_0 hE ?_
  rw [k2]
  refine ⟨⟨by omega, by omega⟩, fun c => absurd c (by dsimp only at a1; omega), fun c => ⟨rfl, kk _ ⟨EX_28 hp hx (by dsimp only at a1; omega), ⟨?_, by dsimp only; omega⟩, ⟨?_, ?_⟩, ⟨?_, ?_⟩, ?_, ?_, ⟨?_, ?_⟩, ?_⟩⟩⟩
  · rw [a1, z_s ⟨by dsimp only; omega, by dsimp only; omega⟩]; rfl
  · rw [z_o (by decide)]; exact b1
  · rw [z_oF (by decide)]; exact b2
  · rw [z_o (by decide)]; exact c1
  · rw [z_oF (by decide)]; exact c2
  · rw [z_o (by decide)]; exact e1
  · rw [z_o (by decide)]; exact e2
  · rw [z_o (by omega)]; exact g1
  · rw [z_oF (by omega), z_oF (by omega), z_oF (by omega)]; exact g2
  · rw [z_o (by omega), z_o (by omega)]; exact j1
theorem f_push {K : q_H → Prop} {x1 x2 x3 : Int} (hp : p = 16 ∨ p = 29) (h : FX T p P fb wb σ0 (t, S, (W, D, k, its), f) σ) (hW : W.length < 400) (hi : its.length < 4096) (h1 : 1 ≤ x1 ∧ x1 ≤ 25) (h2 : 24 ≤ x1 → 0 ≤ x2 ∧ x2 < 12) (h3 : 1 ≤ x3 ∧ x3 ≤ 8) (hx2 : inR x2) (h0 : 0 < its.length ∨ 23 ≤ x1) (kk : ∀ τ, FX T p P fb wb σ0 (t, S, (x3 :: W, D, k, its ++ [(x1, x2, x3)]), f) τ → K τ) : J ω m_Pa_push d 0 0 0 0 0 [(0, .ref 8), (1, .int (zI x1)), (2, .int (zI x2)), (3, .int (zI x3))] [] σ (q_kv K) := by
  obtain ⟨hx, ⟨a1, a2⟩, ⟨b1, b2⟩, ⟨c1, c2⟩, e1, e2, ⟨g1, g2⟩, j1⟩ := h
  obtain ⟨⟨hE, r0, r1⟩, -⟩ := id hx
  dsimp only at *
  have hn := EX_push (x1 := x1) (x2 := x2) (x3 := x3) hp hx (by omega) (by omega) h1 h2 h3 hx2 (by omega)
  refine b_Pa_push_0 hp r0 r1 hE ⟨fun c => absurd c (by omega), fun c => ⟨fun c2' => ⟨⟨by omega, by omega⟩, ⟨by omega, by omega⟩, rfl, kk _ ⟨hn, ⟨?_, a2⟩, ⟨?_, ?_⟩, ⟨?_, ?_⟩, ?_, ?_, ⟨?_, ?_⟩, ?_⟩⟩, fun c => absurd c (by omega)⟩⟩
  · rw [z_o (by omega), z_o (by omega), z_o (by omega), z_o (by omega), z_o (by omega), z_o (by omega)]; exact a1
  · rw [z_o (by omega), z_o (by omega), z_o (by omega), z_o (by omega), z_k (by decide), z_o (by omega)]; exact b1
  · rw [z_oF (by omega), z_oF (by omega), z_oF (by omega), z_oF (by omega), z_oF (by omega), z_oF (by omega)]; exact b2
  · rw [z_o (by omega), z_o (by omega), z_o (by omega), z_o (by omega), z_s ⟨by omega, by omega⟩, c1]; rfl
  · rw [z_oF (by omega), z_oF (by omega), z_oF (by omega), z_oF (by omega), z_oF (by omega), z_up ⟨by omega, by omega⟩, c1, Int.toNat_natCast]
    exact ⟨up_s, stk_c c2 (fun i hi => up_n (by omega))⟩
  · rw [z_o (by omega), z_o (by omega), z_o (by omega), z_o (by omega), z_k (by decide), z_o (by omega)]; exact e1
  · rw [z_o (by omega), z_o (by omega), z_o (by omega), z_o (by omega), z_k (by decide), z_o (by omega)]; exact e2
  · rw [z_s ⟨by omega, by omega⟩, g1, List.length_append]; rfl
  · rw [z_oF (show p + 10 ≠ p by omega), z_oF (show p + 11 ≠ p by omega), z_oF (show p + 12 ≠ p by omega), z_oF (show p + 10 ≠ p + 12 by omega), z_oF (show p + 11 ≠ p + 12 by omega), z_oF (show p + 10 ≠ p + 11 by omega), z_up ⟨by omega, by omega⟩, z_up hx2, z_up ⟨by omega, by omega⟩,
      z_oF (show p + 12 ≠ p + 11 by omega), z_oF (show p + 12 ≠ p + 10 by omega), z_oF (show p + 11 ≠ p + 10 by omega), z_oF (show p + 10 ≠ 8 by omega), z_oF (show p + 11 ≠ 8 by omega), z_oF (show p + 12 ≠ 8 by omega), z_oF (show p + 10 ≠ 15 by omega), z_oF (show p + 11 ≠ 15 by omega), z_oF (show p + 12 ≠ 15 by omega), g1, Int.toNat_natCast]
    exact lsI_push g2
  · rw [z_k (j := 9) (show (9 : Nat) ≠ 17 by decide), z_k (j := 10) (show (10 : Nat) ≠ 17 by decide), z_o (by omega), z_o (by omega), z_o (by omega), z_o (by omega), z_o (by omega), z_o (by omega), z_o (by omega), z_o (by omega), z_o (by omega), z_o (by omega)]; exact j1
theorem f_pushSign {K : q_H → Prop} {x1 : Int} {r : q_Rd} (hp : p = 16 ∨ p = 29) (h : FX T p P fb wb σ0 (t, S, r, f) σ) (hS : S.length < 400) (h1 : 1 ≤ x1 ∧ x1 ≤ 47) (kk : ∀ τ, FX T p P fb wb σ0 (t, x1 :: S, r, f) τ → K τ) : J ω m_Pa_pushSign d 0 0 0 0 0 [(0, .ref 8), (1, .int (zI x1))] [] σ (q_kv K) := by
  obtain ⟨hx, ⟨a1, a2⟩, ⟨b1, b2⟩, ⟨c1, c2⟩, e1, e2, ⟨g1, g2⟩, j1⟩ := h
  obtain ⟨⟨hE, r0, r1⟩, -⟩ := id hx
  dsimp only at *
  refine b_Pa_pushSign_0 hp r0 r1 hE ⟨fun c => absurd c (by omega), fun c => ⟨⟨by omega, by omega⟩, rfl, kk _ ⟨EX_sign hp hx h1 c, ⟨?_, a2⟩, ⟨?_, ?_⟩, ⟨?_, ?_⟩, ?_, ?_, ⟨?_, ?_⟩, ?_⟩⟩⟩
  · rw [z_o (by decide), z_o (by decide)]; exact a1
  · rw [z_s ⟨by omega, by omega⟩, b1]; rfl
  · rw [z_oF (by decide), z_up ⟨by omega, by omega⟩, b1, Int.toNat_natCast]
    exact ⟨up_s, stk_c b2 (fun i hi => up_n (by omega))⟩
  · rw [z_k (by decide), z_o (by decide)]; exact c1
  · rw [z_oF (by decide), z_oF (by decide)]; exact c2
  · rw [z_k (by decide), z_o (by decide)]; exact e1
  · rw [z_k (by decide), z_o (by decide)]; exact e2
  · rw [z_o (by omega), z_o (by omega)]; exact g1
  · rw [z_oF (by omega), z_oF (by omega), z_oF (by omega), z_oF (by omega), z_oF (by omega), z_oF (by omega)]; exact g2
  · rw [z_o (by omega), z_o (by omega), z_o (by omega), z_o (by omega)]; exact j1
/-- the top of the signs -/
theorem f_topSign {K : Int → q_H → Prop} {r : q_Rd} (hp : p = 16 ∨ p = 29) (h : FX T p P fb wb σ0 (t, S, r, f) σ) (kk : K (S.headD 0) σ) : J ω m_Pa_topSign d 0 0 0 0 0 [(0, .ref 8)] [] σ (q_ki K) := by
  obtain ⟨hx, -, ⟨b1, b2⟩, -⟩ := h
  obtain ⟨⟨hE, r0, r1⟩, -, -, -, -, -, -, -, ⟨s1, s2, s3⟩, -⟩ := id hx
  dsimp only at *
  cases S with
  | nil => exact b_Pa_topSign_0 hp r0 r1 hE ⟨fun _ => ⟨0, ⟨by decide, by decide⟩, rfl, kk⟩, fun c => absurd c (by rw [b1]; simp)⟩
  | cons s S =>
    rw [List.length_cons] at b1
    refine b_Pa_topSign_0 hp r0 r1 hE ⟨fun c => absurd c (by omega), fun c => ⟨⟨by omega, by omega⟩, _, z_R _ _ _, rfl, ?_⟩⟩
    rw [b1, show (((S.length + 1 : Nat) : Int) - 1).toNat = S.length by omega, b2.1]
    exact kk
/-- a field of the parser's is set -/
theorem FX_13 {r : q_Rd} {e : Nat} (hp : p = 16 ∨ p = 29) (h : FX T p P fb wb σ0 (t, S, r, f) σ) (he : inR (e : Int)) : FX T p P fb wb σ0 (t, S, (r.1, e, r.2.2), f) (zs σ 8 13 (e : Int)) := by
  obtain ⟨hx, ⟨a1, a2⟩, ⟨b1, b2⟩, ⟨c1, c2⟩, e1, e2, ⟨g1, g2⟩, j1⟩ := h
  refine ⟨EX_13 hp hx, ⟨?_, a2⟩, ⟨?_, ?_⟩, ⟨?_, ?_⟩, ?_, ?_, ⟨?_, ?_⟩, ?_⟩
  · rw [z_o (by decide)]; exact a1
  · rw [z_k (by decide)]; exact b1
  · rw [z_oF (by decide)]; exact b2
  · rw [z_k (by decide)]; exact c1
  · rw [z_oF (by decide)]; exact c2
  · exact z_s he
  · rw [z_k (by decide)]; exact e2
  · rw [z_o (by omega)]; exact g1
  · rw [z_oF (by omega), z_oF (by omega), z_oF (by omega)]; exact g2
  · rw [z_o (by omega), z_o (by omega)]; exact j1
/-- a sign goes -/
theorem FX_pop {r : q_Rd} {s : Int} (hp : p = 16 ∨ p = 29) (h : FX T p P fb wb σ0 (t, s :: S, r, f) σ) : FX T p P fb wb σ0 (t, S, r, f) (zs σ 8 10 (z σ 8 10 - 1)) := by
  obtain ⟨hx, ⟨a1, a2⟩, ⟨b1, b2⟩, ⟨c1, c2⟩, e1, e2, ⟨g1, g2⟩, j1⟩ := h
  dsimp only at *
  rw [List.length_cons] at b1
  refine ⟨EX_10 hp hx (by omega), ⟨?_, a2⟩, ⟨?_, ?_⟩, ⟨?_, ?_⟩, ?_, ?_, ⟨?_, ?_⟩, ?_⟩
  · rw [z_o (by decide)]; exact a1
  · have := hx.2.2.2.2.2.2.2.2.1.2.1
    rw [b1, z_s ⟨by omega, by omega⟩]; dsimp only; omega
  · rw [z_oF (by decide)]; exact b2.2
  · rw [z_k (by decide)]; exact c1
  · rw [z_oF (by decide)]; exact c2
  · rw [z_k (by decide)]; exact e1
  · rw [z_k (by decide)]; exact e2
  · rw [z_o (by omega)]; exact g1
  · rw [z_oF (by omega), z_oF (by omega), z_oF (by omega)]; exact g2
  · rw [z_o (by omega), z_o (by omega)]; exact j1
theorem f_deepen {K : q_H → Prop} {x1 : Int} (hd : 1 ≤ d) (hp : p = 16 ∨ p = 29) (h : FX T p P fb wb σ0 (t, S, (W, D, k, its), f) σ) (hS : S.length < 400) (h1 : 1 ≤ x1 ∧ x1 ≤ 47) (ht : t < T) (hD : D ≤ 1000) (kk : ∀ τ, FX T p P fb wb σ0 (t + 1, x1 :: S, (W, D + 1, k, its), f) τ → K τ) : J ω m_Pa_deepen d 0 0 0 0 0 [(0, .ref 8), (1, .int (zI x1))] [] σ (q_kv K) := by
  obtain ⟨d, rfl⟩ : ∃ k, d = k + 1 := ⟨d - 1, by omega⟩
  obtain ⟨hx, ⟨a1, a2⟩, ⟨b1, b2⟩, ⟨c1, c2⟩, e1, e2, ⟨g1, g2⟩, j1⟩ := h
  obtain ⟨⟨hE, r0, r1⟩, -⟩ := id hx
  dsimp only at *
  refine b_Pa_deepen_0 hp r0 r1 hE (b_Pa_pushSign_0 hp r0 r1 hE ⟨fun c => absurd c (by omega), fun c => ⟨⟨by omega, by omega⟩, rfl, ?_⟩⟩)
  have hx2 := EX_sign hp hx h1 c
  have v13 : z (zs (zs σ 14 (z σ 8 10).toNat x1) 8 10 (z σ 8 10 + 1)) 8 13 = (D : Int) := by rw [z_k (by decide), z_o (by decide)]; exact e1
  have F : FX T p P fb wb σ0 (t, x1 :: S, (W, D + 1, k, its), f) (zs (zs (zs σ 14 (z σ 8 10).toNat x1) 8 10 (z σ 8 10 + 1)) 8 13 ((D + 1 : Nat) : Int)) := by
    refine ⟨EX_13 hp hx2, ⟨?_, a2⟩, ⟨?_, ?_⟩, ⟨?_, ?_⟩, ?_, ?_, ⟨?_, ?_⟩, ?_⟩
    · rw [z_o (by decide), z_o (by decide), z_o (by decide)]; exact a1
    · rw [z_k (by decide), z_s ⟨by omega, by omega⟩, b1]; rfl
    · rw [z_oF (by decide), z_oF (by decide), z_up ⟨by omega, by omega⟩, b1, Int.toNat_natCast]
      exact ⟨up_s, stk_c b2 (fun i hi => up_n (by omega))⟩
    · rw [z_k (by decide), z_k (by decide), z_o (by decide)]; exact c1
    · rw [z_oF (by decide), z_oF (by decide), z_oF (by decide)]; exact c2
    · exact z_s ⟨by omega, by omega⟩
    · rw [z_k (by decide), z_k (by decide), z_o (by decide)]; exact e2
    · rw [z_o (by omega), z_o (by omega), z_o (by omega)]; exact g1
    · rw [z_oF (by omega), z_oF (by omega), z_oF (by omega), z_oF (by omega), z_oF (by omega), z_oF (by omega), z_oF (by omega), z_oF (by omega), z_oF (by omega)]; exact g2
    · rw [z_o (by omega), z_o (by omega), z_o (by omega), z_o (by omega), z_o (by omega), z_o (by omega)]; exact j1
  refine b_Pa_deepen_5 hp hx2.1.2.1 hx2.1.2.2 hx2.1.1 ?_
  rw [v13, show (D : Int) + 1 = ((D + 1 : Nat) : Int) by omega]
  exact f_adv hp F ht (fun τ hτ => b_Pa_deepen_22 hp hτ.1.1.2.1 hτ.1.1.2.2 hτ.1.1.1 ⟨rfl, kk τ hτ⟩)
theorem f_find {K : Int → q_H → Prop} {x1 : Int64} (hp : p = 16 ∨ p = 29) (hE : q_E σ) (hw : PW p σ) (kk : K (fnd p σ x1) σ) : J ω m_Pr_find d 0 0 0 0 0 [(0, .ref p), (1, .long x1)] [] σ (q_ki K) := by
  obtain ⟨w1, w2, -⟩ := hw
  have l31 : ∀ (k i : Nat), k + i = 12 → (fnV x1 (q_l σ (p + 4)) (z σ p 4).toNat k i = fnV x1 (q_l σ (p + 4)) (z σ p 4).toNat 12 0) → fnV x1 (q_l σ (p + 2)) (z σ p 0).toNat 12 0 = -1 → J ω m_Pr_find d 0 0 0 0 31 [(0, .ref p), (1, .long x1), (3, .int (zI (i : Int)))] [] σ (q_ki K) := by
    intro k
    have out : fnV x1 (q_l σ (p + 4)) (z σ p 4).toNat 12 0 = -1 → fnV x1 (q_l σ (p + 2)) (z σ p 0).toNat 12 0 = -1 → q_ki K (.inl (some (.int (zI (-1))))) σ := fun e1 e2 => by
      refine ⟨-1, ⟨by decide, by decide⟩, rfl, ?_⟩
      unfold fnd at kk
      rw [e2, e1] at kk
      simpa using kk
    induction k with
    | zero =>
      intro i hi he h0
      refine b_Pr_find_31 hp hE ⟨⟨by omega, by omega⟩, fun c => out (by rw [← he]; rfl) h0, fun c => absurd c (by omega)⟩
    | succ k ih =>
      intro i hi he h0
      rw [fnV_s (k := k) (i := i)] at he
      refine b_Pr_find_31 hp hE ⟨⟨by omega, by omega⟩, fun c => out (by rw [← he, if_neg (by omega)]) h0, fun c => ⟨⟨by omega, by omega⟩, fun c2 => ?_, fun c2 => ⟨_, ⟨by omega, by omega⟩, rfl, ?_⟩⟩⟩
      · rw [Int.toNat_natCast] at c2
        rw [if_pos (by omega), if_neg c2] at he
        rw [show (i : Int) + 1 = ((i + 1 : Nat) : Int) by omega]
        exact ih (i + 1) (by omega) he h0
      · rw [Int.toNat_natCast] at c2
        rw [if_pos (by omega), if_pos c2] at he
        unfold fnd at kk
        rw [h0, ← he] at kk
        rw [if_neg (by simp), if_pos (by omega), show 12 + (i : Int) = (i : Int) + 12 by omega] at kk
        exact kk
  have l2 : ∀ (k i : Nat), k + i = 12 → (fnV x1 (q_l σ (p + 2)) (z σ p 0).toNat k i = fnV x1 (q_l σ (p + 2)) (z σ p 0).toNat 12 0) → J ω m_Pr_find d 0 0 0 0 2 [(0, .ref p), (1, .long x1), (3, .int (zI (i : Int)))] [] σ (q_ki K) := by
    intro k
    induction k with
    | zero =>
      intro i hi he
      refine b_Pr_find_2 hp hE ⟨⟨by omega, by omega⟩, fun c => l31 12 0 rfl rfl (by rw [← he]; rfl), fun c => absurd c (by omega)⟩
    | succ k ih =>
      intro i hi he
      rw [fnV_s (k := k) (i := i)] at he
      refine b_Pr_find_2 hp hE ⟨⟨by omega, by omega⟩, fun c => l31 12 0 rfl rfl (by rw [← he, if_neg (by omega)]), fun c => ⟨⟨by omega, by omega⟩, fun c2 => ?_, fun c2 => ⟨_, ⟨by omega, by omega⟩, rfl, ?_⟩⟩⟩
      · rw [Int.toNat_natCast] at c2
        rw [if_pos (by omega), if_neg c2] at he
        rw [show (i : Int) + 1 = ((i + 1 : Nat) : Int) by omega]
        exact ih (i + 1) (by omega) he
      · rw [Int.toNat_natCast] at c2
        rw [if_pos (by omega), if_pos c2] at he
        unfold fnd at kk
        rw [← he, if_pos (by omega)] at kk
        exact kk
  exact b_Pr_find_0 hp hE (l2 12 0 rfl rfl)
theorem f_lw {K : Int → q_H → Prop} {x0 : Int} (hE : q_E σ) (ix : inR x0) (kk : K (lwd x0) σ) : J ω m_Pa_leastWidth d 0 0 0 0 0 [(0, .int (zI x0))] [] σ (q_ki K) := by
  have l : ∀ (k i : Nat), k + i = 8 → 1 ≤ i → lwF x0 k i = lwF x0 7 1 → J ω m_Pa_leastWidth d 0 0 0 0 2 [(0, .int (zI x0)), (1, .int (zI (i : Int)))] [] σ (q_ki K) := by
    intro k
    have out : ∀ i : Nat, i ≤ 8 → lwF x0 7 1 = i → q_ki K (.inl (some (.int (zI (i : Int))))) σ := fun i hi e => ⟨_, ⟨by omega, by omega⟩, rfl, by unfold lwd at kk; rw [e] at kk; exact kk⟩
    induction k with
    | zero =>
      intro i hi h1 he
      exact b_Pa_leastWidth_2 hE ⟨⟨by omega, by omega⟩, fun c => out i (by omega) (by rw [← he]; rfl), fun c => absurd c (by omega)⟩
    | succ k ih =>
      intro i hi h1 he
      have es : zShr x0 (i : Int) = x0 / 2 ^ i := zShr_e ix (by omega)
      rw [lwF_s (k := k) (i := i)] at he
      refine b_Pa_leastWidth_2 hE ?_
      rw [es]
      refine ⟨⟨by omega, by omega⟩, fun c => absurd c (by omega), fun c => ⟨fun q => out i (by omega) (by rw [← he, if_pos q]), fun q => ?_⟩⟩
      rw [if_neg q] at he
      rw [show (i : Int) + 1 = ((i + 1 : Nat) : Int) by omega]
      exact ih (i + 1) (by omega) (by omega) he
  exact b_Pa_leastWidth_0 hE (l 7 1 rfl (by decide) rfl)
end FxJ
