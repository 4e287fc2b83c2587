/-! The class reads an EXPR: apply, reduce -/
theorem tO_b : ∀ j : Nat, j < 19 → 1 ≤ j → ((zT tb_1000002 (j : Int) = 1 ↔ (sgL (j : Int) ≤ 2 ∨ sgL (j : Int) = 6 ∨ sgL (j : Int) = 7)) ∧ (zT tb_1000002 (j : Int) = 2 ↔ sgL (j : Int) = 8) ∧ zT tb_1000002 (j : Int) ≠ 3) ∧ (zT tb_1000003 (j : Int) = 2 ↔ sgL (j : Int) = 10) ∧ (zT tb_1000003 (j : Int) = 1 ↔ sgL (j : Int) = 8) := by decide +kernel
theorem tO_u : ∀ j : Nat, j < 22 → 19 ≤ j → ((zT tb_1000002 (j : Int) = 1 ↔ j = 19) ∧ zT tb_1000002 (j : Int) ≠ 2 ∧ zT tb_1000002 (j : Int) ≠ 3) ∧ zT tb_1000003 (j : Int) ≠ 2 ∧ zT tb_1000003 (j : Int) ≠ 1 := by decide +kernel
theorem tO_c : zT tb_1000002 22 = 3 ∧ zT tb_1000003 22 = 0 := by decide +kernel
theorem tS_n : ∀ j : Nat, j < 22 → 1 ≤ j → zT tb_1000001 (j : Int) = ((stg (j : Int) : Nat) : Int) := by decide +kernel
theorem tS {x : Int} (h : 1 ≤ x ∧ x ≤ 21) : zT tb_1000001 x = ((stg x : Nat) : Int) := by
  have := tS_n x.toNat (by omega) (by omega)
  rwa [show ((x.toNat : Nat) : Int) = x by omega] at this
section FyJ
variable {ω : q_W} {d T p : Nat} {σ0 σ : q_H} {P : Nat → Int} {fb wb : Int} {t D k : Nat} {S W : List Int} {its : List q_It} {f : Option Nat}
/-- WIDTHS go -/
theorem FX_popW {n : Nat} (hp : p = 16 ∨ p = 29) (h : FX T p P fb wb σ0 (t, S, (W, D, k, its), f) σ) (hn : n ≤ W.length) : FX T p P fb wb σ0 (t, S, (W.drop n, D, k, its), f) (zs σ 8 12 ((W.length : Int) - (n : Int))) := by
  obtain ⟨hx, ⟨a1, a2⟩, ⟨b1, b2⟩, ⟨c1, c2⟩, e1, e2, ⟨g1, g2⟩, j1⟩ := h
  dsimp only at *
  have hb := hx.2.2.2.2.2.2.2.2.2.1
  have sd : ∀ (n : Nat) (W : List Int), stk (z σ 15) W → stk (z σ 15) (W.drop n) := by
    intro n
    induction n with
    | zero => intro W h; exact h
    | succ n ih =>
      intro W h
      cases W with
      | nil => exact h
      | cons w W => exact ih W h.2
  refine ⟨EX_8 hp hx (by decide) ⟨by omega, by omega⟩ (fun c => absurd c (by decide)) (fun _ => ⟨by omega, by omega⟩) (fun c => absurd c (by decide)), ⟨?_, a2⟩, ⟨?_, ?_⟩, ⟨?_, ?_⟩, ?_, ?_, ⟨?_, ?_⟩, ?_⟩
  · rw [z_o (by decide)]; exact a1
  · rw [z_k (by decide)]; exact b1
  · rw [z_oF (by decide)]; exact b2
  · rw [z_s ⟨by omega, by omega⟩]; dsimp only; rw [List.length_drop]; omega
  · rw [z_oF (by decide)]; exact sd n W c2
  · rw [z_k (by decide)]; exact e1
  · rw [z_k (by decide)]; exact e2
  · rw [z_o (by omega)]; exact g1
  · rw [z_oF (by omega), z_oF (by omega), z_oF (by omega)]; exact g2
  · rw [z_o (by omega), z_o (by omega)]; exact j1
/-- the WORK of one operation more -/
theorem f_work {K : q_H → Prop} {y0 : Nat} (hp : p = 16 ∨ p = 29) (h : FX T p P fb wb σ0 (t, S, (W, D, k, its), f) σ) (hy : y0 ≤ 100) (kk : ∀ τ, FX T p P fb wb σ0 (t, S, (W, D, k + y0, its), f) τ → K τ) : J ω m_Pa_apply (d + 1) 0 0 0 0 201 [(0, .ref 8)] [.int (zI (y0 : Int))] σ (q_kv K) := by
  obtain ⟨hx, ⟨a1, a2⟩, ⟨b1, b2⟩, ⟨c1, c2⟩, e1, e2, ⟨g1, g2⟩, j1⟩ := h
  obtain ⟨⟨hE, r0, r1⟩, -⟩ := id hx
  dsimp only at *
  refine b_Pa_apply_201 hp r0 r1 hE ?_
  rw [e2]
  refine ⟨⟨by omega, by omega⟩, rfl, kk _ ⟨EX_8 hp hx (by decide) ⟨by omega, by omega⟩ (fun c => absurd c (by decide)) (fun c => absurd c (by decide)) (fun _ => ⟨by omega, by omega⟩), ⟨?_, a2⟩, ⟨?_, ?_⟩, ⟨?_, ?_⟩, ?_, ?_, ⟨?_, ?_⟩, ?_⟩⟩
  · rw [z_o (by decide)]; exact a1
  · rw [z_k (by decide)]; exact b1
  · rw [z_oF (by decide)]; exact b2
  · rw [z_k (by decide)]; exact c1
  · rw [z_oF (by decide)]; exact c2
  · rw [z_k (by decide)]; exact e1
  · rw [z_s ⟨by omega, by omega⟩]; dsimp only; omega
  · rw [z_o (by omega)]; exact g1
  · rw [z_oF (by omega), z_oF (by omega), z_oF (by omega)]; exact g2
  · rw [z_o (by omega), z_o (by omega)]; exact j1
/-- all WIDTHS that wait are WIDTHS -/
theorem FX_W {w : Int} (h : FX T p P fb wb σ0 (t, S, (W, D, k, its), f) σ) (hw : w ∈ W) : 1 ≤ w ∧ w ≤ 8 := by
  obtain ⟨hx, -, -, ⟨c1, c2⟩, -⟩ := h
  have hb := hx.2.2.2.2.2.2.2.2.2.1.2.2
  dsimp only at *
  have l : ∀ (W : List Int), stk (z σ 15) W → (W.length : Int) ≤ z σ 8 12 → w ∈ W → 1 ≤ w ∧ w ≤ 8 := by
    intro W
    induction W with
    | nil => intro _ _ h; cases h
    | cons v W ih =>
      intro h1 h2 h3
      rw [List.length_cons] at h2
      rcases List.mem_cons.mp h3 with e | e
      · rw [e, ← h1.1]; exact hb _ (by omega)
      · exact ih h1.2 (by omega) e
  exact l W c2 (by omega) hw
theorem f_apply {K : q_H → Prop} {s : Int} (hd : 1 ≤ d) (hp : p = 16 ∨ p = 29) (h : FX T p P fb wb σ0 (t, S, (W, D, k, its), f) σ) (hs : 1 ≤ s ∧ s ≤ 22) (hi : its.length < 4096) (kk : ∀ τ, FX T p P fb wb σ0 (t, S, app s (W, D, k, its), f) τ → K τ) : J ω m_Pa_apply d 0 0 0 0 0 [(0, .ref 8), (1, .int (zI s))] [] σ (q_kv K) := by
  obtain ⟨d, rfl⟩ : ∃ k, d = k + 1 := ⟨d - 1, by omega⟩
  obtain ⟨hx, ⟨a1, a2⟩, ⟨b1, b2⟩, ⟨c1, c2⟩, e1, e2, ⟨g1, g2⟩, j1⟩ := id h
  obtain ⟨⟨hE, r0, r1⟩, -, -, -, -, -, -, -, -, ⟨t1, t2, t3⟩, -⟩ := id hx
  have eo := hx.2.2.2.2.2.2.2.2.2.2.2.2.1
  dsimp only at *
  -- too few operands
  -- the outcome is pushed, and paid for
  have fin : ∀ (W' : List Int) (w wd : Int) (ρ : q_H) (pr : Nat), FX T p P fb wb σ0 (t, S, (W', D, k, its), f) ρ → W'.length < 400 → 0 < its.length → (1 ≤ w ∧ w ≤ 8) → (1 ≤ wd ∧ wd ≤ 8) → pr ≤ 100 → (zT tb_1000003 s = 2 → (pr : Int) = wd * wd) → (zT tb_1000003 s = 1 → (pr : Int) = 4 * wd) → (zT tb_1000003 s ≠ 2 → zT tb_1000003 s ≠ 1 → (pr : Int) = wd) → (∀ τ, FX T p P fb wb σ0 (t, S, (w :: W', D, k + pr, its ++ [(s, 0, w)]), f) τ → K τ) → J ω m_Pa_apply (d + 1) 0 0 0 0 156 [(0, .ref 8), (1, .int (zI s)), (6, .int (zI wd))] [.int (zI w)] ρ (q_kv K) := by
    intro W' w wd ρ pr hρ hl h0 hw hwd hpr p1 p2 p3 kk2
    refine b_Pa_apply_156 hp hρ.1.1.2.1 hρ.1.1.2.2 hρ.1.1.1 (f_push hp hρ hl hi ⟨hs.1, by omega⟩ (fun c => absurd c (by omega)) hw ⟨by decide, by decide⟩ (Or.inl h0) (fun τ hτ => ?_))
    refine b_Pa_apply_166 hp hτ.1.1.2.1 hτ.1.1.2.2 hτ.1.1.1 ⟨⟨by omega, by omega⟩, fun q2 => ⟨⟨by omega, by omega⟩, fun q1 => ?_, fun q1 => ?_⟩, fun q2 => ?_⟩
    · rw [← p3 q2 q1]; exact f_work hp hτ hpr kk2
    · rw [← p2 q1]; exact f_work hp hτ hpr kk2
    · rw [← p1 q2]; exact f_work hp hτ hpr kk2
  have it0 : 0 < W.length → 0 < its.length := fun q => by have := eo (by omega); omega
  by_cases c22 : s = 22
  · subst c22
    obtain ⟨o1, o2⟩ := tO_c
    refine b_Pa_apply_0 hp r0 r1 hE ⟨⟨by decide, by decide⟩, fun q => absurd rfl q, fun _ => ?_⟩
    refine b_Pa_apply_21 hp r0 r1 hE ?_
    rw [c1]
    refine ⟨⟨by decide, by decide⟩, fun c => ?_, fun c => ⟨rfl, kk σ ?_⟩⟩
    · match W, c1, c2, h, t2, kk, c, it0 with
      | w3 :: w2 :: w1 :: W, c1, c2, h, t2, kk, c, it0 =>
        have hW3 := FX_W h (w := w3) (by simp)
        have hW2 := FX_W h (w := w2) (by simp)
        have hW1 := FX_W h (w := w1) (by simp)
        rw [c1] at t2
        simp only [List.length_cons] at c1 t2 ⊢
        have L : ((W.length + 1 + 1 + 1 : Nat) : Int) - 3 = (W.length : Int) := by omega
        have hpop := FX_popW (n := 3) hp h (by simp)
        simp only [List.length_cons, List.drop_succ_cons, List.drop_zero] at hpop
        rw [show ((3 : Nat) : Int) = 3 from rfl, L] at hpop
        rw [L]
        refine ⟨⟨by omega, by omega⟩, fun q => absurd q (by decide), fun _ => ⟨⟨by omega, by omega⟩, ?_⟩⟩
        rw [Int.toNat_natCast, show ((W.length : Int) + 1).toNat = W.length + 1 by omega]
        have v1 : z σ 15 W.length = w1 := c2.2.2.1
        have v2 : z σ 15 (W.length + 1) = w2 := c2.2.1
        have v3 : z σ 15 (W.length + 2) = w3 := c2.1
        rw [v1, v2]
        have q12 : z (zs σ 8 12 (W.length : Int)) 8 12 = (W.length : Int) := z_s ⟨by omega, by omega⟩
        refine b_Pa_apply_71 hp hpop.1.1.2.1 hpop.1.1.2.2 hpop.1.1.1 ⟨⟨by decide, by decide⟩, fun q => absurd q (by decide), fun _ => ?_⟩
        rw [q12, show ((W.length : Int) + 2).toNat = W.length + 2 by omega, z_oF (by decide), v3]
        refine ⟨⟨by omega, by omega⟩, b_Pa_apply_94 hp hpop.1.1.2.1 hpop.1.1.2.2 hpop.1.1.1 ⟨⟨by omega, by omega⟩, ⟨by omega, by omega⟩, ⟨by omega, by omega⟩, ⟨by omega, by omega⟩, ⟨by decide, by decide⟩, fun _ => ⟨⟨by decide, by decide⟩, fun _ => ⟨⟨by decide, by decide⟩, fun q => absurd o1 q, fun _ => ?_⟩, fun q => absurd (o1.symm.trans q) (by decide)⟩, fun q => absurd (o1.symm.trans q) (by decide)⟩⟩
        refine fin W (max w2 w3) _ _ (max w1 (max w2 w3)).toNat hpop (by omega) (it0 (by simp)) (by omega) (by omega) (by omega) (fun q => absurd (o2.symm.trans q) (by decide)) (fun q => absurd (o2.symm.trans q) (by decide)) (fun _ _ => by omega) (fun τ hτ => kk τ ?_)
        unfold app
        rw [if_pos rfl]
        exact hτ
      | [], c1, c2, h, t2, kk, c, it0 => exact absurd c (by simp)
      | [_], c1, c2, h, t2, kk, c, it0 => exact absurd c (by simp)
      | [_, _], c1, c2, h, t2, kk, c, it0 => exact absurd c (by simp)
    · unfold app
      rw [if_pos rfl]
      match W, h, c with
      | [], h, c => exact h
      | [_], h, c => exact h
      | [_, _], h, c => exact h
      | _ :: _ :: _ :: W, h, c => exact absurd c (by simp only [List.length_cons]; omega)
  · by_cases c19 : 19 ≤ s
    · have o := tO_u s.toNat (by omega) (by omega)
      rw [show ((s.toNat : Nat) : Int) = s by omega] at o
      obtain ⟨⟨o1, o2, o3⟩, o4, o5⟩ := o
      refine b_Pa_apply_0 hp r0 r1 hE ⟨⟨by omega, by omega⟩, fun _ => ⟨fun q => absurd q (by omega), fun _ => ?_⟩, fun q => absurd q c22⟩
      refine b_Pa_apply_21 hp r0 r1 hE ?_
      rw [c1]
      refine ⟨⟨by decide, by decide⟩, fun c => ?_, fun c => ⟨rfl, kk σ ?_⟩⟩
      · match W, c1, c2, h, t2, kk, c, it0 with
        | w1 :: W, c1, c2, h, t2, kk, c, it0 =>
          have hW1 := FX_W h (w := w1) (by simp)
          rw [c1] at t2
          simp only [List.length_cons] at c1 t2 ⊢
          have L : ((W.length + 1 : Nat) : Int) - 1 = (W.length : Int) := by omega
          have hpop := FX_popW (n := 1) hp h (by simp)
          simp only [List.length_cons, List.drop_succ_cons, List.drop_zero] at hpop
          rw [show ((1 : Nat) : Int) = 1 from rfl, L] at hpop
          rw [L]
          refine ⟨⟨by omega, by omega⟩, fun _ => ?_, fun q => absurd q (by decide)⟩
          rw [Int.toNat_natCast]
          have v1 : z σ 15 W.length = w1 := c2.1
          rw [v1]
          refine b_Pa_apply_71 hp hpop.1.1.2.1 hpop.1.1.2.2 hpop.1.1.1 ⟨⟨by decide, by decide⟩, fun _ => ?_, fun q => absurd q (by decide)⟩
          have go : ∀ w : Int, w = uW s w1 → J ω m_Pa_apply (d + 1) 0 0 0 0 156 [(0, .ref 8), (1, .int (zI s)), (6, .int (zI (max w1 (max w1 w1))))] [.int (zI w)] (zs σ 8 12 (W.length : Int)) (q_kv K) := fun w ew => by
            have hw : 1 ≤ w ∧ w ≤ 8 := by rw [ew]; unfold uW; split <;> omega
            refine fin W w _ _ w1.toNat hpop (by omega) (it0 (by simp)) hw (by omega) (by omega) (fun q => absurd q o4) (fun q => absurd q o5) (fun _ _ => by omega) (fun τ hτ => kk τ ?_)
            unfold app
            rw [if_neg c22, if_pos c19]
            rw [ew] at hτ
            exact hτ
          refine b_Pa_apply_94 hp hpop.1.1.2.1 hpop.1.1.2.2 hpop.1.1.1 ⟨⟨by omega, by omega⟩, ⟨by omega, by omega⟩, ⟨by omega, by omega⟩, ⟨by omega, by omega⟩, ⟨by omega, by omega⟩, fun q1 => ⟨⟨by omega, by omega⟩, fun _ => ⟨⟨by omega, by omega⟩, fun _ => go _ ?_, fun q => absurd q o3⟩, fun q => absurd q o2⟩, fun q1 => go _ ?_⟩
          · unfold uW
            rw [if_neg (fun e => q1 (o1.mpr (by omega)))]
            omega
          · unfold uW
            have := o1.mp q1
            rw [if_pos (by omega)]
        | [], c1, c2, h, t2, kk, c, it0 => exact absurd c (by simp)
      · unfold app
        rw [if_neg c22, if_pos c19]
        match W, h, c with
        | [], h, c => exact h
        | _ :: W, h, c => exact absurd c (by simp only [List.length_cons]; omega)
    · have o := tO_b s.toNat (by omega) (by omega)
      rw [show ((s.toNat : Nat) : Int) = s by omega] at o
      obtain ⟨⟨o1, o2, o3⟩, o4, o5⟩ := o
      refine b_Pa_apply_0 hp r0 r1 hE ⟨⟨by omega, by omega⟩, fun _ => ⟨fun _ => ?_, fun q => absurd q (by omega)⟩, fun q => absurd q c22⟩
      refine b_Pa_apply_21 hp r0 r1 hE ?_
      rw [c1]
      refine ⟨⟨by decide, by decide⟩, fun c => ?_, fun c => ⟨rfl, kk σ ?_⟩⟩
      · match W, c1, c2, h, t2, kk, c, it0 with
        | w2 :: w1 :: W, c1, c2, h, t2, kk, c, it0 =>
          have hW2 := FX_W h (w := w2) (by simp)
          have hW1 := FX_W h (w := w1) (by simp)
          rw [c1] at t2
          simp only [List.length_cons] at c1 t2 ⊢
          have L : ((W.length + 1 + 1 : Nat) : Int) - 2 = (W.length : Int) := by omega
          have hpop := FX_popW (n := 2) hp h (by simp)
          simp only [List.length_cons, List.drop_succ_cons, List.drop_zero] at hpop
          rw [show ((2 : Nat) : Int) = 2 from rfl, L] at hpop
          rw [L]
          refine ⟨⟨by omega, by omega⟩, fun q => absurd q (by decide), fun _ => ⟨⟨by omega, by omega⟩, ?_⟩⟩
          rw [Int.toNat_natCast, show ((W.length : Int) + 1).toNat = W.length + 1 by omega]
          have v1 : z σ 15 W.length = w1 := c2.2.1
          have v2 : z σ 15 (W.length + 1) = w2 := c2.1
          rw [v1, v2]
          refine b_Pa_apply_71 hp hpop.1.1.2.1 hpop.1.1.2.2 hpop.1.1.1 ⟨⟨by decide, by decide⟩, fun _ => ?_, fun q => absurd q (by decide)⟩
          have em : max w1 (max w2 w2) = max w1 w2 := by omega
          have go : ∀ w : Int, w = oW s w1 w2 → J ω m_Pa_apply (d + 1) 0 0 0 0 156 [(0, .ref 8), (1, .int (zI s)), (6, .int (zI (max w1 (max w2 w2))))] [.int (zI w)] (zs σ 8 12 (W.length : Int)) (q_kv K) := fun w ew => by
            have hw : 1 ≤ w ∧ w ≤ 8 := by
              rw [ew]; unfold oW
              split
              · omega
              · split <;> omega
            have mb : 1 ≤ max w1 w2 ∧ max w1 w2 ≤ 8 := by omega
            have sq : 0 ≤ max w1 w2 * max w1 w2 ∧ max w1 w2 * max w1 w2 ≤ 64 := by
              generalize max w1 w2 = m at mb
              have h1 := Int.mul_le_mul mb.2 mb.2 (by omega) (by omega)
              have h2 := Int.mul_nonneg (show 0 ≤ m by omega) (show 0 ≤ m by omega)
              omega
            rw [em]
            refine fin W w _ _ (oP s (max w1 w2)) hpop (by omega) (it0 (by simp)) hw mb ?_ (fun q => ?_) (fun q => ?_) (fun q1 q2 => ?_) (fun τ hτ => kk τ ?_)
            · unfold oP
              split
              · omega
              · split <;> omega
            · unfold oP; rw [if_pos (o4.mp q)]; omega
            · have := o5.mp q
              unfold oP; rw [if_neg (by omega), if_pos this]; omega
            · unfold oP; rw [if_neg (fun e => q1 (o4.mpr e)), if_neg (fun e => q2 (o5.mpr e))]; omega
            · unfold app
              rw [if_neg c22, if_neg c19]
              rw [ew] at hτ
              exact hτ
          refine b_Pa_apply_94 hp hpop.1.1.2.1 hpop.1.1.2.2 hpop.1.1.1 ⟨⟨by omega, by omega⟩, ⟨by omega, by omega⟩, ⟨by omega, by omega⟩, ⟨by omega, by omega⟩, ⟨by omega, by omega⟩, fun q1 => ⟨⟨by omega, by omega⟩, fun q2 => ⟨⟨by omega, by omega⟩, fun _ => go _ ?_, fun q => absurd q o3⟩, fun q2 => go _ ?_⟩, fun q1 => go _ ?_⟩
          · unfold oW; rw [if_neg (fun e => q1 (o1.mpr e)), if_neg (fun e => q2 (o2.mpr e)), em]
          · unfold oW; rw [if_neg (fun e => q1 (o1.mpr e)), if_pos (o2.mp q2)]
          · unfold oW; rw [if_pos (o1.mp q1)]
        | [], c1, c2, h, t2, kk, c, it0 => exact absurd c (by simp)
        | [_], c1, c2, h, t2, kk, c, it0 => exact absurd c (by simp)
      · unfold app
        rw [if_neg c22, if_neg c19]
        match W, h, c with
        | [], h, c => exact h
        | [_], h, c => exact h
        | _ :: _ :: W, h, c => exact absurd c (by simp only [List.length_cons]; omega)
end FyJ
