/-! INQUIRY: the least VALUE, the greatest -/
def flp (x2 : Int) (w x : Nat) : Nat := if x2 = 0 then x else 2 ^ w - 1 - x
theorem nV_neg {u : Nat → Bool} {f : Nat → Int} {s : Nat} (hs : s ≤ 10240) : ∀ n, (∀ a, a < n → lit s (f a)) → nV u (fun a => zXor (f a) 1) n + nV u f n = 2 ^ n - 1
  | 0, _ => rfl
  | n + 1, h => by
    have ih := nV_neg (u := u) hs n (fun a ha => h a (by omega))
    have ln := h n (by omega)
    have e : lvb u (zXor (f n) 1) = !lvb u (f n) := by rw [zX_ng hs ln, lvb_ng ln.1]
    show nV u (fun a => zXor (f a) 1) n + 2 ^ n * (lvb u (zXor (f n) 1)).toNat + (nV u f n + 2 ^ n * (lvb u (f n)).toNat) = 2 ^ n * 2 - 1
    have p2 := Nat.two_pow_pos n
    rw [e]
    cases lvb u (f n)
    · simp; omega
    · simp; omega
section I6P
variable {ω : q_W} {d p s0 s V wn v : Nat} {WI : Nat → Int} {S : List q_St} {σ σ0 ρ : q_H} {u : Nat → Bool} {x2 : Int}
theorem CSv_le (h : CSv s σ u) (hl : s0 ≤ s) : CSv s0 σ u := ⟨h.1, fun g h1 h2 => h.2 g h1 (by omega)⟩
theorem EX_X (hI : IS p s0 s σ0 ρ) (hX : EXq p s0 s V WI S ρ) (cu : CSv s ρ u) (hv : v < V) (hv12 : v < 12) (hw : z ρ (p + 3) v = (wn : Int)) (hwb : wn ≤ 8) (h2 : x2 = 0 ∨ x2 = 1) (he : (runF S (z ρ (p + 3)) (IvN ρ u)).1 = 0) : nV u (fun a => zXor (z ρ 62 (8 * v + a)) x2) wn = flp x2 wn ((runF S (z ρ (p + 3)) (IvN ρ u)).2.2 v) ∧ (runF S (z ρ (p + 3)) (IvN ρ u)).2.2 v < 2 ^ wn := by
  have hs := hI.1.2.2.1.2.1.2
  have s0s := hI.1.2.2.2.1.2
  have c0 := CSv_le cu s0s
  have lf : ∀ a, a < 8 → lit s (z ρ 62 (8 * v + a)) := fun a ha => lit_m (hI.1.2.2.2.2.2.1 _ (by omega)) s0s
  obtain ⟨-, k2, -⟩ := hX.2.1.2.2 u c0
  have uv := congrFun (k2 he) v
  unfold UvN at uv
  rw [if_pos hv12] at uv
  have wd := hX.2.1.2.1 v hv
  rw [hw, Int.toNat_natCast] at wd
  have n8 := nV_w cu.1 wd 8 hwb (by decide)
  rw [n8] at uv
  rw [← uv]
  refine ⟨?_, nV_lt _⟩
  unfold flp
  rcases h2 with e | e
  · rw [if_pos e, e]
    exact nV_cf wn (fun j hj => zXor_00 hs (lf j (by omega)))
  · rw [if_neg (by omega), e]
    have := nV_neg (u := u) (f := fun a => z ρ 62 (8 * v + a)) hs wn (fun a ha => lf a (by omega))
    omega
theorem EX_G (hI : IS p s0 s σ0 ρ) (hX : EXq p s0 s V WI S ρ) (cu : CSv s ρ u) : lvb u (z ρ 48 4) = true ↔ (runF S (z ρ (p + 3)) (IvN ρ u)).1 = 0 := by
  rw [(hX.2.1.2.2 u (CSv_le cu hI.1.2.2.2.1.2)).1]
  simp
/-- what stays of a PROGRAM while questions are asked -/
theorem IS_z (hp : p = 16 ∨ p = 29) (hI : IS p s0 s σ0 ρ) : z ρ (p + 3) = z σ0 (p + 3) ∧ iW p ρ = iW p σ0 ∧ iN p ρ = iN p σ0 ∧ z ρ 62 = z σ0 62 ∧ z ρ 48 = z σ0 48 ∧ z ρ 63 = z σ0 63 := by
  have e : ∀ a, a ∉ SQ → z ρ a = z σ0 a := fun a ha => fq_z hI.2.2.2 ha
  refine ⟨e _ (by unfold SQ; simp; omega), ?_, ?_, e 62 (by decide), e 48 (by decide), e 63 (by decide)⟩
  · unfold iW; rw [e _ (by unfold SQ; simp; omega)]
  · unfold iN; rw [e _ (by unfold SQ; simp; omega)]
/-- what an extreme comes to -/
def EXT (p : Nat) (S : List q_St) (v wn : Nat) (x2 b : Int) (σ τ : q_H) : Prop :=
  (b = -1 ∧ z τ 47 5 = 0 ∧ ∀ t, (rnT p S σ t).1 ≠ 0) ∨ (z τ 47 5 = 1 ∧ ∃ t, t < 2 ^ smn (iW p σ) (iN p σ) ∧ (rnT p S σ t).1 = 0 ∧ b = (((rnT p S σ t).2.2 v : Nat) : Int) ∧ (∀ t', (rnT p S σ t').1 = 0 → flp x2 wn ((rnT p S σ t).2.2 v) ≤ flp x2 wn ((rnT p S σ t').2.2 v)) ∧ (∀ t', t' < t → (rnT p S σ t').1 = 0 → flp x2 wn ((rnT p S σ t).2.2 v) < flp x2 wn ((rnT p S σ t').2.2 v)) ∧ ∀ i, i < iN p σ → z τ 91 i = ((spr (iW p σ) (iN p σ) t i : Nat) : Int))
theorem i_extreme2 {K : Int → q_H → Prop} (hd : 9 ≤ d) (hp : p = 16 ∨ p = 29) (h : QS p s0 s σ) (h84 : ∀ g, z σ 84 g = 0) (hx : EXq p s0 s V WI S σ) (hv : v < V) (h4 : z σ p 4 = (V : Int)) (h2 : x2 = 0 ∨ x2 = 1) (hw : z σ (p + 3) v = (wn : Int)) (kk : ∀ b τ, IS p s0 s0 σ τ → EXq p s0 s0 V WI S τ → MKq σ τ → EXT p S v wn x2 b σ τ → K b τ) : J ω m_In_extreme d 0 0 0 0 0 [(0, .ref 47), (1, .int (zI (v : Int))), (2, .int (zI x2))] [] σ (q_ki K) := by
  obtain ⟨d, rfl⟩ : ∃ k, d = k + 1 := ⟨d - 1, by omega⟩
  have gp := h.2.1
  have w2 := gp.1.2.1
  have w4 := gp.1.2.2.2 v (by omega)
  rw [hw] at w4
  have v12 : v < 12 := by omega
  have eS : zShl 1 (wn : Int) = 2 ^ wn := zShl_1 wn (by omega)
  have ePn : ((2 ^ wn : Nat) : Int) = (2 : Int) ^ wn := by simp
  have b8 : 2 ^ wn ≤ 256 := by
    have : 2 ^ wn ≤ 2 ^ 8 := Nat.pow_le_pow_right (by decide) (by omega)
    omega
  have b1 : 1 ≤ 2 ^ wn := Nat.two_pow_pos wn
  have ePw : ((2 ^ wn - 1 : Nat) : Int) = 2 ^ wn - 1 := by omega
  -- the question: it ends, and is less than b
  have eDP : ∀ (ρ : q_H) (bnd : Nat), IS p s0 s0 σ ρ → EXq p s0 s0 V WI S ρ → ∀ u, CSv s0 ρ u → ((lvb u (z σ 48 4) = true ∧ nV u (fun a => zXor (z σ 62 (8 * v + a)) x2) wn < bnd) ↔ ((runF S (z σ (p + 3)) (IvN ρ u)).1 = 0 ∧ flp x2 wn ((runF S (z σ (p + 3)) (IvN ρ u)).2.2 v) < bnd)) := fun ρ bnd hI hX u cu => by
    obtain ⟨e1, -, -, e4, e5, -⟩ := IS_z hp hI
    have g := EX_G hI hX cu
    rw [e1, e5] at g
    rw [g]
    refine and_congr_right (fun he => ?_)
    have := (EX_X (x2 := x2) hI hX cu hv v12 (by rw [e1]; exact hw) (by omega) h2 (by rw [e1]; exact he)).1
    rw [e1, e4] at this
    rw [this]
  have flb : ∀ t, (rnT p S σ t).1 = 0 → flp x2 wn ((rnT p S σ t).2.2 v) < 2 ^ wn := fun t ht => by
    unfold flp
    split
    · obtain ⟨u, cu, iu⟩ := IvN_all gp h.2.2.2.2.2.2.2.2.2 h.2.2.1 hx.2.1.1.2 t
      have c0 := CSv_le cu h.2.2.2.1.2
      obtain ⟨-, k2, -⟩ := hx.2.1.2.2 u c0
      unfold rnT at ht ⊢
      rw [iu] at k2
      have uv := congrFun (k2 ht) v
      unfold UvN at uv
      rw [if_pos v12] at uv
      have wd := hx.2.1.2.1 v hv
      rw [hw, Int.toNat_natCast] at wd
      rw [← uv, nV_w cu.1 wd 8 (by omega) (by decide)]
      exact nV_lt _
    · omega
  have fin : ∀ (b : Int) ρ, inR b → IS p s0 s0 σ ρ → EXq p s0 s0 V WI S ρ → MKq σ ρ → (b < 0 → EXT p S v wn x2 b σ (zs ρ 47 5 0)) → (0 ≤ b → EXT p S v wn x2 b σ (zs ρ 47 5 1)) → J ω m_In_extreme (d + 1) 0 0 0 0 179 [(0, .ref 47), (4, .int (zI b))] [] ρ (q_ki K) := fun b ρ i4 q1 q2 q3 a0 a1 => by
    have go : ∀ y : Int, EXT p S v wn x2 b σ (zs ρ 47 5 y) → K b (zs ρ 47 5 y) := fun y q => by
      have F : fr [47] ρ (zs ρ 47 5 y) := fr_s fr_refl (by simp)
      exact kk b _ (IS_end hp q1) (EXq_fq hp q2 (fq_of F) (by simp) (by rw [fr_zF F (by decide)]; exact q2.2.2.2.2.2)) (MKq_tr q3 ⟨by rw [fr_zF F (by decide)], z_k (by decide), by rw [fr_zF F (by decide)], by rw [fr_zF F (by decide)]⟩) q
    exact b_In_extreme_179 hp q1.1.1.2.1 q1.1.1.1 ⟨i4, fun c => ⟨b, i4, rfl, go 0 (a0 c)⟩, fun c => ⟨b, i4, rfl, go 1 (a1 c)⟩⟩
  -- nothing less is left
  have none : ∀ (bnd : Nat) (b : Int) ρ, IS p s0 s0 σ ρ → EXq p s0 s0 V WI S ρ → MKq σ ρ → (∀ t, ¬ ((rnT p S σ t).1 = 0 ∧ flp x2 wn ((rnT p S σ t).2.2 v) < bnd)) → ((b = -1 ∧ bnd = 2 ^ wn) ∨ ∃ t, t < 2 ^ smn (iW p σ) (iN p σ) ∧ (rnT p S σ t).1 = 0 ∧ b = (((rnT p S σ t).2.2 v : Nat) : Int) ∧ b < 256 ∧ flp x2 wn ((rnT p S σ t).2.2 v) = bnd ∧ (∀ t', t' < t → (rnT p S σ t').1 = 0 → bnd < flp x2 wn ((rnT p S σ t').2.2 v)) ∧ ∀ i, i < iN p σ → z ρ 91 i = ((spr (iW p σ) (iN p σ) t i : Nat) : Int)) → J ω m_In_extreme (d + 1) 0 0 0 0 179 [(0, .ref 47), (4, .int (zI b))] [] ρ (q_ki K) := fun bnd b ρ q1 q2 q3 hno hb => by
    rcases hb with ⟨e1, e2⟩ | ⟨t, t1, t2, t3, t4, t5, t6, t7⟩
    · refine fin b ρ ⟨by omega, by omega⟩ q1 q2 q3 (fun _ => Or.inl ⟨e1, z_s ⟨by decide, by decide⟩, fun t ht => hno t ⟨ht, by rw [e2]; exact flb t ht⟩⟩) (fun c => absurd c (by omega))
    · refine fin b ρ ⟨by omega, by omega⟩ q1 q2 q3 (fun c => absurd c (by omega)) (fun _ => Or.inr ⟨z_s ⟨by decide, by decide⟩, t, t1, t2, t3, fun t' ht' => ?_, fun t' hl ht' => by rw [t5]; exact t6 t' hl ht', fun i hi => by rw [z_oF (by decide)]; exact t7 i hi⟩)
      have := hno t'
      rw [t5]
      apply Decidable.byContradiction
      intro q
      exact this ⟨ht', by omega⟩
  have l74 : ∀ (m n bnd : Nat) (b : Int) (ρ : q_H) (R : Nat → Int) (wc rq : Nat), 256 ≤ n + m → n ≤ 256 → bnd + n ≤ 2 ^ wn → rq ≤ 64 + 88 * n →
      ((z ρ 47 5 = 0 ∧ IS p s0 s0 σ ρ ∧ EXq p s0 s0 V WI S ρ ∧ MKq σ ρ ∧ (∀ t, ¬ ((rnT p S σ t).1 = 0 ∧ flp x2 wn ((rnT p S σ t).2.2 v) < bnd)) ∧ ((b = -1 ∧ bnd = 2 ^ wn) ∨ ∃ t, t < 2 ^ smn (iW p σ) (iN p σ) ∧ (rnT p S σ t).1 = 0 ∧ b = (((rnT p S σ t).2.2 v : Nat) : Int) ∧ b < 256 ∧ flp x2 wn ((rnT p S σ t).2.2 v) = bnd ∧ (∀ t', t' < t → (rnT p S σ t').1 = 0 → bnd < flp x2 wn ((rnT p S σ t').2.2 v)) ∧ ∀ i, i < iN p σ → z ρ 91 i = ((spr (iW p σ) (iN p σ) t i : Nat) : Int))) ∨
       (z ρ 47 5 = 1 ∧ QQ p s0 s0 V WI S 9 R wc rq (fun u => lvb u (z σ 48 4) = true ∧ nV u (fun a => zXor (z σ 62 (8 * v + a)) x2) wn < bnd) σ ρ ∧ (∀ a, a < 8 → R (1 + a) = z σ 62 (8 * v + a)) ∧ ∃ t u, FND s0 wc (fun u => lvb u (z σ 48 4) = true ∧ nV u (fun a => zXor (z σ 62 (8 * v + a)) x2) wn < bnd) ρ u ∧ t < 2 ^ smn (iW p σ) (iN p σ) ∧ ((rnT p S σ t).1 = 0 ∧ flp x2 wn ((rnT p S σ t).2.2 v) < bnd) ∧ (∀ t', t' < t → ¬ ((rnT p S σ t').1 = 0 ∧ flp x2 wn ((rnT p S σ t').2.2 v) < bnd)) ∧ IvN ρ u = spr (iW p σ) (iN p σ) t ∧ (∀ i, i < iN p σ → z ρ 91 i = ((spr (iW p σ) (iN p σ) t i : Nat) : Int)) ∧ z ρ 87 0 = (rnT p S σ t).1 ∧ nw (z ρ 88) = (rnT p S σ t).2.2 ∧ b256 (z ρ 88))) →
      J ω m_In_extreme (d + 1) 0 0 0 0 74 [(0, .ref 47), (1, .int (zI (v : Int))), (2, .int (zI x2)), (3, .int (zI (2 ^ wn - 1))), (4, .int (zI b)), (5, .int (zI (n : Int)))] [] ρ (q_ki K) := by
    intro m
    induction m with
    | zero =>
      intro n bnd b ρ R wc rq a1 a2 a3 a5 a6
      rcases a6 with ⟨f5, q1, q2, q3, q4, q5⟩ | ⟨f5, q1, q2, t, u, -, -, ⟨q6, q7⟩, -⟩
      · exact b_In_extreme_74 hp q1.1.1.2.1 q1.1.1.1 ⟨⟨by omega, by omega⟩, ⟨by omega, by omega⟩, fun _ => none bnd b ρ q1 q2 q3 q4 q5, fun c => ⟨fun _ => none bnd b ρ q1 q2 q3 q4 q5, fun c => absurd f5 c⟩⟩
      · omega
    | succ m ih =>
      intro n bnd b ρ R wc rq a1 a2 a3 a5 a6
      rcases a6 with ⟨f5, q1, q2, q3, q4, q5⟩ | ⟨f5, q1, qR, t, u, hf, t1, ⟨t2, t3⟩, t4, t5, t6, t7, t8, t9⟩
      · exact b_In_extreme_74 hp q1.1.1.2.1 q1.1.1.1 ⟨⟨by omega, by omega⟩, ⟨by omega, by omega⟩, fun _ => none bnd b ρ q1 q2 q3 q4 q5, fun c => ⟨fun _ => none bnd b ρ q1 q2 q3 q4 q5, fun c => absurd f5 c⟩⟩
      · have hI := q1.1
        obtain ⟨e1, e2, e3, e4, e5, -⟩ := IS_z hp hI
        have hs := hI.1.2.2.1.2.1.2
        have lf : ∀ a, a < 8 → lit s0 (z ρ 62 (8 * v + a)) := fun a ha => hI.1.2.2.2.2.2.1 _ (by omega)
        have mk : ∀ a, a < 8 → z ρ 74 (gt (z ρ 62 (8 * v + a))) = 1 := fun a ha => by
          rw [e4, ← qR a ha]; exact q1.2.2.2.2.2 (1 + a) (by omega)
        refine b_In_extreme_74 hp hI.1.1.2.1 hI.1.1.1 ⟨⟨by omega, by omega⟩, ⟨by omega, by omega⟩, fun c => absurd c (by omega), fun cn => ⟨fun c => absurd (f5 ▸ c) (by decide), fun _ => ?_⟩⟩
        refine i_worth2 (s := s0) (u := u) (by omega) hp (Or.inr rfl) hI.1.1.1 hI.1.1.2.1 hs v12 h2 hI.1.2.2.2.2.2.1 (fun j hj => ?_) ?_
        · have lj := lit_b hs (lf j hj) h2
          refine hf.2.2.1 _ lj ?_
          have gj : gt (zXor (z ρ 62 (8 * v + j)) x2) = gt (z ρ 62 (8 * v + j)) := by
            rcases h2 with e | e
            · rw [e, zXor_00 hs (lf j hj)]
            · rw [e, zX_ng hs (lf j hj), gt_ng]
          rw [gj]; exact Or.inr (Or.inl (mk j hj))
        -- what was found
        have he : (runF S (z ρ (p + 3)) (IvN ρ u)).1 = 0 := by rw [e1, t5]; exact t2
        obtain ⟨X1, X2⟩ := EX_X (x2 := x2) hI q1.2.1 hf.1 hv v12 (by rw [e1]; exact hw) (by omega) h2 he
        rw [e1, t5] at X1 X2
        obtain ⟨x, hx'⟩ : ∃ x, x = flp x2 wn ((rnT p S σ t).2.2 v) := ⟨_, rfl⟩
        have xb : x < 2 ^ wn := by rw [hx']; exact flb t t2
        have eA : zAnd ((nV u (fun j => zXor (z ρ 62 (8 * v + j)) x2) 8 : Nat) : Int) (2 ^ wn - 1) = (x : Int) := by
          rw [← ePw, zAnd_mod (by omega)]
          obtain ⟨r, hr⟩ := nV_sp (v := u) (f := fun j => zXor (z ρ 62 (8 * v + j)) x2) wn 8 (by omega)
          rw [hr, X1, hx']
          show _ = ((flp x2 wn ((runF S (z σ (p + 3)) (spr (iW p σ) (iN p σ) t)).2.2 v) : Nat) : Int)
          have : (flp x2 wn ((runF S (z σ (p + 3)) (spr (iW p σ) (iN p σ) t)).2.2 v) + 2 ^ wn * r) % 2 ^ wn = flp x2 wn ((runF S (z σ (p + 3)) (spr (iW p σ) (iN p σ) t)).2.2 v) := by
            rw [Nat.add_mul_mod_self_left]
            exact Nat.mod_eq_of_lt (flb t t2)
          omega
        have vB : (rnT p S σ t).2.2 v < 2 ^ wn := X2
        -- behind the choice of what is best
        have go : ∀ y0 : Int, y0 = (((rnT p S σ t).2.2 v : Nat) : Int) → J ω m_In_extreme (d + 1) 0 0 0 0 117 [(0, .ref 47), (1, .int (zI (v : Int))), (2, .int (zI x2)), (3, .int (zI (2 ^ wn - 1))), (5, .int (zI (n : Int))), (6, .int (zI (x : Int)))] [.int (zI y0)] ρ (q_ki K) := fun y0 ey => by
          have z88 : z ρ 88 v = y0 := by
            have a := congrFun t8 v
            unfold nw at a
            rw [if_pos v12] at a
            have := (t9 v v12).1
            omega
          refine b_In_extreme_117 hp hI.1.1.2.1 hI.1.1.1 ⟨fun c => absurd (t7.trans t2) c, fun _ => ⟨⟨by omega, by omega⟩, ⟨by omega, by omega⟩, fun c => absurd (by rw [Int.toNat_natCast]; exact z88) c, fun _ => ?_⟩⟩
          refine b_In_extreme_149 hp hI.1.1.2.1 hI.1.1.1 (i_verdict2 hp hI.1.1.1 hI.1.1.2.1 ⟨by decide, by decide⟩ (Or.inr ⟨f5, by decide⟩) ?_)
          refine b_In_extreme_152 hp hI.1.1.2.1 hI.1.1.1 ⟨⟨by omega, by omega⟩, fun x0 => ?_, fun x0 => ?_⟩
          · obtain ⟨mm, hmm⟩ : ∃ mm, x = mm + 1 := ⟨x - 1, by omega⟩
            rw [show (x : Int) = (mm : Int) + 1 by omega]
            refine i_requireLess2 (m := mm) (wn := wn) (by omega) hp q1 (by omega) v12 (by rw [e1]; exact hw) ⟨by omega, by omega⟩ h2 (by omega) mk (fun μ hμ ft => ?_)
            rw [e4] at hμ
            have hQ3 := QQ_D (D' := fun u => lvb u (z σ 48 4) = true ∧ nV u (fun a => zXor (z σ 62 (8 * v + a)) x2) wn < x) hμ (fun u _ => ⟨fun q => ⟨q.1.1, by omega⟩, fun q => ⟨⟨q.1, by omega⟩, by omega⟩⟩)
            have hI3 := hQ3.1
            obtain ⟨g1, g2, g3, -, -, -⟩ := IS_z hp hI3
            refine b_In_extreme_169 hp hI3.1.1.2.1 hI3.1.1.1 (i_look2 (P := fun I => (runF S (z σ (p + 3)) I).1 = 0 ∧ flp x2 wn ((runF S (z σ (p + 3)) I).2.2 v) < x) (by omega) hp hQ3 (by omega) (eDP μ x hI3 hQ3.2.1) (fun ν k1 k2 k3 k4 k5 k6 => ?_) (fun ν t' u' k1 k2 k3 k4 k5 k6 k7 k8 k9 k10 k11 k12 => ?_))
            · refine b_In_extreme_173 hp k1.1.1.2.1 k1.1.1.1 ?_
              rw [show (n : Int) + 1 = ((n + 1 : Nat) : Int) by omega]
              rw [g2, g3] at k6
              refine ih (n + 1) x y0 ν R wc (rq + 88) (by omega) (by omega) (by omega) (by omega) (Or.inl ⟨k4, k1, k2, k3, k6, Or.inr ⟨t, t1, t2, ey, by omega, hx'.symm, fun t' hl ht' => ?_, fun i hi => by rw [k5, fr_zF ft (by decide)]; exact t6 i hi⟩⟩)
              have := t4 t' hl
              apply Decidable.byContradiction
              intro q
              exact this ⟨ht', by omega⟩
            · refine b_In_extreme_173 hp k1.1.1.1.2.1 k1.1.1.1.1 ?_
              rw [show (n : Int) + 1 = ((n + 1 : Nat) : Int) by omega]
              rw [g2, g3] at k4 k5 k6 k7 k8 k9 k10 k11
              rw [g1] at k9 k10 k11
              exact ih (n + 1) x y0 ν R wc (rq + 88) (by omega) (by omega) (by omega) (by omega) (Or.inr ⟨k2, k1, qR, t', u', k3, k4, k5, k6, k7, k8, k9, k11, k12⟩)
          · refine fin y0 ρ ⟨by omega, by omega⟩ hI q1.2.1 q1.2.2.1 (fun c => absurd c (by omega)) (fun _ => Or.inr ⟨z_s ⟨by decide, by decide⟩, t, t1, t2, ey, fun t' ht' => by rw [← hx']; omega, fun t' hl ht' => ?_, fun i hi => by rw [z_oF (by decide)]; exact t6 i hi⟩)
            have := t4 t' hl
            rw [← hx']
            apply Decidable.byContradiction
            intro q
            exact this ⟨ht', by omega⟩
        refine b_In_extreme_100 hp hI.1.1.2.1 hI.1.1.1 ?_
        rw [eA]
        have fx : flp x2 wn ((rnT p S σ t).2.2 v) = x := hx'.symm
        unfold flp at fx
        refine ⟨⟨by omega, by omega⟩, fun c => go _ ?_, fun c => go _ ?_⟩
        · rw [if_neg c] at fx
          omega
        · rw [if_pos c] at fx
          omega
  have l17 : ∀ (m n : Nat) (ρ : q_H) (R : Nat → Int), 8 ≤ n + m → n ≤ 8 → IA p s0 s0 V WI S (1 + n) 1 R σ ρ → R 0 = z σ 48 4 → (∀ a, a < n → R (1 + a) = z σ 62 (8 * v + a)) → J ω m_In_extreme (d + 1) 0 0 0 0 17 [(0, .ref 47), (1, .int (zI (v : Int))), (2, .int (zI x2)), (3, .int (zI (n : Int)))] [] ρ (q_ki K) := by
    intro m
    have out : ∀ ρ R, IA p s0 s0 V WI S 9 1 R σ ρ → R 0 = z σ 48 4 → (∀ a, a < 8 → R (1 + a) = z σ 62 (8 * v + a)) → J ω m_In_pose d 0 0 0 0 0 [(0, .ref 47)] [] ρ (q_kv (fun τ => J ω m_In_extreme (d + 1) 0 0 0 0 51 [(0, .ref 47), (1, .int (zI (v : Int))), (2, .int (zI x2))] [] τ (q_ki K))) := fun ρ R hA hR0 hRa => by
      refine i_pose2 (by omega) hp hA (fun τ wc rq hP hr _ e91 => ?_)
      have hQ3 := QQ_D (D' := fun u => lvb u (z σ 48 4) = true ∧ nV u (fun a => zXor (z σ 62 (8 * v + a)) x2) wn < 2 ^ wn) hP (fun u _ => ⟨fun q => ⟨by rw [← hR0]; exact q 0 (by decide), nV_lt _⟩, fun q i hi => by rw [show i = 0 by omega, hR0]; exact q.1⟩)
      have hI3 := hQ3.1
      obtain ⟨g1, g2, g3, -, -, -⟩ := IS_z hp hI3
      refine b_In_extreme_51 hp hI3.1.1.2.1 hI3.1.1.1 (i_look2 (P := fun I => (runF S (z σ (p + 3)) I).1 = 0 ∧ flp x2 wn ((runF S (z σ (p + 3)) I).2.2 v) < 2 ^ wn) (by omega) hp hQ3 (by omega) (eDP τ (2 ^ wn) hI3 hQ3.2.1) (fun ν k1 k2 k3 k4 k5 k6 => ?_) (fun ν t' u' k1 k2 k3 k4 k5 k6 k7 k8 k9 k10 k11 k12 => ?_))
      · obtain ⟨y1, -⟩ := IS_z hp k1
        refine b_In_extreme_55 hp k1.1.1.2.1 k1.1.1.1 ⟨⟨by omega, by omega⟩, ?_⟩
        rw [Int.toNat_natCast, y1, hw, eS]
        rw [g2, g3] at k6
        exact l74 256 0 (2 ^ wn) (-1) ν R wc rq (by decide) (by decide) (by omega) (by omega) (Or.inl ⟨k4, k1, k2, k3, k6, Or.inl ⟨rfl, rfl⟩⟩)
      · obtain ⟨y1, -⟩ := IS_z hp k1.1
        refine b_In_extreme_55 hp k1.1.1.1.2.1 k1.1.1.1.1 ⟨⟨by omega, by omega⟩, ?_⟩
        rw [Int.toNat_natCast, y1, hw, eS]
        rw [g2, g3] at k4 k5 k6 k7 k8 k9 k10 k11
        rw [g1] at k9 k10 k11
        exact l74 256 0 (2 ^ wn) (-1) ν R wc rq (by decide) (by decide) (by omega) (by omega) (Or.inr ⟨k2, k1, hRa, t', u', k3, k4, k5, k6, k7, k8, k9, k11, k12⟩)
    induction m with
    | zero =>
      intro n ρ R a1 a2 hA hR0 hRa
      have n8 : n = 8 := by omega
      subst n8
      exact b_In_extreme_17 hp hA.1.1.1.2.1 hA.1.1.1.1 ⟨⟨by decide, by decide⟩, fun _ => out ρ R hA hR0 hRa, fun c => absurd c (by omega)⟩
    | succ m ih =>
      intro n ρ R a1 a2 hA hR0 hRa
      have hI := hA.1
      refine b_In_extreme_17 hp hI.1.1.2.1 hI.1.1.1 ⟨⟨by omega, by omega⟩, fun c => ?_, fun c => ⟨⟨by omega, by omega⟩, i_concern2 hp hA (by omega) (hI.1.2.2.2.2.2.1 _ (by omega)) (fun τ hτ => b_In_extreme_41 hp hτ.1.1.1.2.1 hτ.1.1.1.1 ?_)⟩⟩
      · have n8 : n = 8 := by omega
        subst n8
        exact out ρ R hA hR0 hRa
      · rw [show (n : Int) + 1 = ((n + 1 : Nat) : Int) by omega]
        refine ih (n + 1) τ _ (by omega) (by omega) hτ (by rw [up_n (by omega)]; exact hR0) (fun a ha => ?_)
        obtain ⟨-, -, -, y4, -⟩ := IS_z hp hI
        by_cases e : a = n
        · rw [e, up_s, y4, show ((v : Int) * 8 + (n : Int)).toNat = 8 * v + n by omega]
        · rw [up_n (by omega)]; exact hRa a (by omega)
  refine b_In_extreme_0 hp h.1.2.1 h.1.1 (i_open2 (R := fun _ => 0) (by omega) hp h h84 hx (fun τ hτ => b_In_extreme_4 hp hτ.1.1.1.2.1 hτ.1.1.1.1 (i_demand2 (by omega) hp hτ (by decide) hτ.1.1.2.2.2.2.2.2.2.1 (fun ρ hρ => b_In_extreme_15 hp hρ.1.1.1.2.1 hρ.1.1.1.1 (l17 8 0 ρ _ (by decide) (by decide) hρ ?_ (fun a ha => absurd ha (by omega)))))))
  obtain ⟨-, -, -, -, y5, -⟩ := IS_z hp hτ.1
  rw [up_s, y5]
end I6P
