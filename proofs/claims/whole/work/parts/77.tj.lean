/-! Solver.trace -/
section TjJ
variable {ω : q_W} {d s top ts lv : Nat} {cs : List Nat} {Ws : Nat → List Nat} {σ : q_H}
/-- trace's state: at place n -/
def TI (s ts lv ls0 hc0 : Nat) (near : Int) (P : Prop) (cs : List Nat) (σ ρ : q_H) (n ls hc : Nat) (x3 : Int) : Prop :=
  fr [70, 84, 85, 86] σ ρ ∧ (∀ k, k ≠ 16 → k ≠ 18 → z ρ 70 k = z σ 70 k) ∧ z ρ 70 16 = (ls : Int) ∧ z ρ 70 18 = (hc : Int) ∧
  TC ts n ls0 ls hc0 hc (z σ 72) cs (z σ 78) (z σ 79) (z σ 80) (z σ 81) (z ρ 84) (z ρ 85) (z ρ 86) ∧
  q_imp P (TF lv (z σ 79) (z σ 81) (z ρ 84) (z ρ 85) n ls) ∧ q_imp (near ≠ 0) (x3 = ctn (z ρ 84) (z σ 79) (lv : Int) s) ∧
  q_imp (near = 0) (∀ j, ls0 ≤ j → j < ls → z σ 80 (gt (z ρ 85 j)) = 0) ∧ (∀ j, j < ls0 → z ρ 85 j = z σ 85 j)
theorem s_trace {K : q_H → Prop} {near x3 : Int} {P : Prop} {ls0 hc0 : Nat} (hd : 1 ≤ d) (hE : q_E σ) (hs : s ≤ 10240) (hx : CX s top cs Ws σ) (hX : TX s ts lv cs σ) (hl : 1 ≤ lv) (hls : ls0 ≤ 1) (hhc : hc0 ≤ 1) (hne : inR near)
    (h0 : TI s ts lv ls0 hc0 near P cs σ σ ts ls0 hc0 x3) (kk : ∀ (τ : q_H) (n ls hc : Nat) (x : Int), TI s ts lv ls0 hc0 near P cs σ τ n ls hc x → (∀ g, z τ 84 g = 0) → 1 ≤ n → K τ) :
    J ω m_So_trace d 0 0 0 0 0 [(0, .ref 70), (1, .int (zI near)), (2, .int (zI x3))] [] σ (q_kv K) := by
  obtain ⟨d, rfl⟩ : ∃ k, d = k + 1 := ⟨d - 1, by omega⟩
  obtain ⟨t6, t10, h12, hT⟩ := id hX
  have hlen := TR_len hT
  obtain ⟨f1, f2, f3⟩ := hT.2.2.2.2.1 1 (by omega) hl
  have hcl : ∀ c ∈ cs, ∀ x, inC (z σ 72) c x → lit s x := fun c hm x ⟨i, hi, e⟩ => by
    rw [← e]; exact (hx.2.2.1.1 c hm).2.2.2.1 i hi
  have l : ∀ (n : Nat) (x3 : Int) (ls hc : Nat) (ρ : q_H), z σ 82 1 ≤ (n : Int) → n ≤ ts → TI s ts lv ls0 hc0 near P cs σ ρ n ls hc x3 → J ω m_So_trace (d + 1) 0 0 0 0 10 [(0, .ref 70), (1, .int (zI near)), (3, .int (zI x3)), (4, .int (zI ((n : Int) - 1)))] [] ρ (q_kv K) := by
    intro n
    induction n with
    | zero => intro x3 ls hc ρ h1; omega
    | succ n ih =>
      intro x3 ls hc ρ h1 h2 hI
      obtain ⟨f, fk, f16, f18, hC, hF, hN, hD, hB⟩ := id hI
      have e82 : z ρ 82 = z σ 82 := fr_zF f (by decide)
      have e81 : z ρ 81 = z σ 81 := fr_zF f (by decide)
      have e79 : z ρ 79 = z σ 79 := fr_zF f (by decide)
      have e10 : z ρ 70 10 = (lv : Int) := by rw [fk 10 (by decide) (by decide), t10]
      refine b_So_trace_10 (fr_E f hE) ?_
      rw [e82, e81, e79, e10, show (((n + 1 : Nat) : Int) - 1) = (n : Int) by omega, Int.toNat_natCast]
      refine ⟨⟨by omega, by omega⟩, fun c => ⟨rfl, kk ρ (n + 1) ls hc x3 hI (TC_end hT hl hC (by omega)) (by omega)⟩, fun c => ?_⟩
      have htn := hT.1 n (by omega)
      have g := gt_sh hs htn.1
      have hg := gt_lt htn.1
      rw [g.1]
      refine ⟨⟨by omega, by omega⟩, ⟨g.2.1, g.2.2⟩, ?_⟩
      have hls2 := hC.2.2.2.2.2.2.1
      have hhc2 := hC.2.2.2.2.2.2.2
      -- what stands behind clearing the mark
      have w84 : z (zs ρ 84 (gt (z σ 81 n)) 0) 84 = up (z ρ 84) (gt (z σ 81 n)) 0 := z_up ⟨by decide, by decide⟩
      have F1 : fr [70, 84, 85, 86] σ (zs ρ 84 (gt (z σ 81 n)) 0) := fr_s f (by simp)
      -- the end of a turn
      have fin : ∀ (y0 x3' : Int) (ls' hc' : Nat) (τ : q_H), (y0 = 0 ∨ y0 = 1) → fr [70, 84, 85, 86] σ τ → TI s ts lv ls0 hc0 near P cs σ τ n ls' hc' (x3' - y0) → J ω m_So_trace (d + 1) 0 0 0 0 142 [(0, .ref 70), (1, .int (zI near)), (3, .int (zI x3')), (4, .int (zI (n : Int))), (7, .int (zI y0))] [] τ (q_kv K) := by
        intro y0 x3' ls' hc' τ hy ft hI'
        refine b_So_trace_142 (fr_E ft hE) ⟨by rcases hy with e | e <;> rw [e] <;> exact ⟨by decide, by decide⟩, fun cy => ?_, fun cy => ?_⟩
        · refine ih x3' ls' hc' τ (by omega) (by omega) ?_
          rw [cy, Int.sub_zero] at hI'; exact hI'
        · have : y0 = 1 := hy.resolve_left cy
          rw [this] at hI'
          exact ih (x3' - 1) ls' hc' τ (by omega) (by omega) hI'
      have turn : z ρ 84 (gt (z σ 81 n)) ≠ 0 → ∀ y0 : Int, ((y0 = 1 ∧ z σ 79 (gt (z σ 81 n)) = (lv : Int)) ∨ (y0 = 0 ∧ z σ 79 (gt (z σ 81 n)) ≠ (lv : Int))) → J ω m_So_trace (d + 1) 0 0 0 0 76 [(0, .ref 70), (1, .int (zI near)), (3, .int (zI x3)), (4, .int (zI (n : Int))), (5, .int (zI (z σ 81 n))), (6, .int (zI (zShr (z σ 81 n) 1)))] [.int (zI y0)] (zs ρ 84 (gt (z σ 81 n)) 0) (q_kv K) := by
        intro hS y0 hy
        have hy01 : y0 = 0 ∨ y0 = 1 := by omega
        have hyR : inR y0 := by rcases hy01 with e | e <;> rw [e] <;> exact ⟨by decide, by decide⟩
        -- how many are seen, behind clearing
        have cnt : ctn (up (z ρ 84) (gt (z σ 81 n)) 0) (z σ 79) (lv : Int) s = ctn (z ρ 84) (z σ 79) (lv : Int) s - y0 := by
          rcases hy with ⟨e, hh⟩ | ⟨e, hh⟩
          · rw [e, ctn_1 (S := up (z ρ 84) (gt (z σ 81 n)) 0) (S' := z ρ 84) (g0 := gt (z σ 81 n)) up_s hS hh (fun k hk => (up_n hk).symm) s hg]
            omega
          · rw [e, Int.sub_zero]
            refine ctn_c s (fun k _ hk => ?_)
            have : k ≠ gt (z σ 81 n) := fun e2 => hh (by rw [← e2]; exact hk)
            rw [up_n this]
        have e80 : z (zs ρ 84 (gt (z σ 81 n)) 0) 80 = z σ 80 := by rw [z_oF (by decide)]; exact fr_zF f (by decide)
        -- it is learned
        have push : (z σ 80 (gt (z σ 81 n)) = 0 ∨ (near ≠ 0 ∧ (z σ 79 (gt (z σ 81 n)) ≠ (lv : Int) ∨ x3 = 1))) → J ω m_So_trace (d + 1) 0 0 0 0 102 [(0, .ref 70), (1, .int (zI near)), (3, .int (zI x3)), (4, .int (zI (n : Int))), (5, .int (zI (z σ 81 n))), (7, .int (zI y0))] [] (zs ρ 84 (gt (z σ 81 n)) 0) (q_kv K) := by
          intro hw
          refine b_So_trace_102 (fr_E F1 hE) ?_
          rw [z_o (by decide), f16, Int.toNat_natCast, zX_ng hs htn.1]
          have F2 : fr [70, 84, 85, 86] σ (zs (zs (zs ρ 84 (gt (z σ 81 n)) 0) 85 ls (ng (z σ 81 n))) 70 16 ((ls : Int) + 1)) := fr_s (fr_s F1 (by simp)) (by simp)
          have r84 : z (zs (zs (zs ρ 84 (gt (z σ 81 n)) 0) 85 ls (ng (z σ 81 n))) 70 16 ((ls : Int) + 1)) 84 = up (z ρ 84) (gt (z σ 81 n)) 0 := by rw [z_oF (by decide), z_oF (by decide), w84]
          have r85 : z (zs (zs (zs ρ 84 (gt (z σ 81 n)) 0) 85 ls (ng (z σ 81 n))) 70 16 ((ls : Int) + 1)) 85 = up (z ρ 85) ls (ng (z σ 81 n)) := by rw [z_oF (by decide), z_up (lit_R hs (ng_lit htn.1)), z_oF (by decide)]
          have r86 : z (zs (zs (zs ρ 84 (gt (z σ 81 n)) 0) 85 ls (ng (z σ 81 n))) 70 16 ((ls : Int) + 1)) 86 = z ρ 86 := by rw [z_oF (by decide), z_oF (by decide), z_oF (by decide)]
          refine ⟨⟨by omega, by omega⟩, fin y0 x3 (ls + 1) hc _ hy01 F2 ⟨F2, fun k h3 h4 => ?_, ?_, ?_, ?_, fun hP => ?_, fun hn2 => ?_, fun hn2 j h3 h4 => ?_, fun j hj => ?_⟩⟩
          · rw [z_k h3, z_o (by decide), z_o (by decide)]; exact fk k h3 h4
          · rw [z_s ⟨by omega, by omega⟩]; omega
          · rw [z_k (by decide), z_o (by decide), z_o (by decide)]; exact f18
          · rw [r84, r85, r86]
            exact TC_push hT hcl hC (by omega) hS
          · rw [r84, r85]
            refine TF_push hT hl hC (hF hP) (by omega) hS ?_
            rcases hw with w | ⟨w1, w2 | w2⟩
            · exact Or.inl w
            · exact Or.inr (Or.inl w2)
            · exact Or.inr (Or.inr (by have := hN w1; rw [← this]; exact w2))
          · rw [r84, cnt]
            have := hN hn2
            omega
          · rw [r85]
            by_cases cj : j = ls
            · rw [cj, up_s, gt_ng]
              rcases hw with w | ⟨w1, -⟩
              · exact w
              · exact absurd hn2 w1
            · rw [up_n cj]; exact hD hn2 j h3 (by omega)
          · rw [r85, up_n (by omega)]; exact hB j hj
        -- its reason is taken
        have take : z σ 80 (gt (z σ 81 n)) ≠ 0 → J ω m_So_trace (d + 1) 0 0 0 0 128 [(0, .ref 70), (1, .int (zI near)), (3, .int (zI x3)), (4, .int (zI (n : Int))), (6, .int (zI (zShr (z σ 81 n) 1))), (7, .int (zI y0))] [] (zs ρ 84 (gt (z σ 81 n)) 0) (q_kv K) := by
          intro hr
          rcases hT.2.2.2.2.2.2.1 n (by omega) with e1 | ⟨c1, m1, e1, -⟩
          · exact absurd e1 hr
          refine b_So_trace_128 (fr_E F1 hE) ?_
          rw [e80, g.1, e1]
          have e72 : z (zs ρ 84 (gt (z σ 81 n)) 0) 72 = z σ 72 := by rw [z_oF (by decide)]; exact fr_zF f (by decide)
          have e73 : z (zs ρ 84 (gt (z σ 81 n)) 0) 73 = z σ 73 := by rw [z_oF (by decide)]; exact fr_zF f (by decide)
          have e71 : z (zs ρ 84 (gt (z σ 81 n)) 0) 71 = z σ 71 := by rw [z_oF (by decide)]; exact fr_zF f (by decide)
          have e78 : z (zs ρ 84 (gt (z σ 81 n)) 0) 78 = z σ 78 := by rw [z_oF (by decide)]; exact fr_zF f (by decide)
          have e79' : z (zs ρ 84 (gt (z σ 81 n)) 0) 79 = z σ 79 := by rw [z_oF (by decide)]; exact e79
          have e10' : z (zs ρ 84 (gt (z σ 81 n)) 0) 70 10 = (lv : Int) := by rw [z_o (by decide)]; exact e10
          refine ⟨⟨g.2.1, g.2.2⟩, s_gather (s := s) (top := top) (cs := cs) (Ws := Ws) (hc := hc) (fr_E F1 hE) hs ?_ m1 (by rw [z_o (by decide)]; exact f18) (by omega) (fun v τ iv v0 ft t18 tk t86 tS tv => ?_)⟩
          · unfold CX; rw [e71, e72, e73]; exact hx
          · rw [e72, e78, e79', w84] at tS
            rw [e79', e10', w84, cnt] at tv
            rw [z_oF (by decide)] at t86
            have F3 : fr [70, 84, 85, 86] σ τ := fr_trans F1 (fr_mono ft (by simp))
            have t85 : z τ 85 = z ρ 85 := by rw [fr_zF ft (by decide), z_oF (by decide)]
            refine b_So_trace_140 (fr_E F3 hE) (fin y0 (x3 + v) ls (hc + 1) τ hy01 F3 ⟨F3, fun k h3 h4 => ?_, ?_, by rw [t18]; omega, ?_, fun hP => ?_, fun hn2 => ?_, fun hn2 => ?_, fun j hj => ?_⟩)
            · rw [tk k h4, z_o (by decide)]; exact fk k h3 h4
            · rw [tk 16 (by decide), z_o (by decide)]; exact f16
            · rw [t85, t86]
              exact TC_gather hT hC (by omega) hS m1 e1 hr (hcl c1 m1) tS
            · rw [t85]
              exact TF_gather hT hl (hcl c1 m1) (hF hP) (by omega) hS e1 hr tS
            · have := hN hn2
              omega
            · rw [t85]; exact hD hn2
            · rw [t85]; exact hB j hj
        refine b_So_trace_76 (fr_E F1 hE) ?_
        rw [e80, g.1]
        refine ⟨⟨g.2.1, g.2.2⟩, fun c1 => push (Or.inl c1), fun c1 => ⟨hne, fun _ => take c1, fun c2 => ⟨hyR, fun c3 => push (Or.inr ⟨c2, Or.inl ?_⟩), fun _ => ⟨?_, fun _ => take c1, fun c4 => push (Or.inr ⟨c2, Or.inr c4⟩)⟩⟩⟩⟩
        · rcases hy with ⟨e, -⟩ | ⟨-, e⟩
          · omega
          · exact e
        · have := hN c2
          have := ctn_0 (S := z ρ 84) (L := z σ 79) (v := (lv : Int)) s
          exact ⟨by omega, by omega⟩
      refine ⟨fun cS => ⟨fun ch => turn cS 0 (Or.inr ⟨rfl, ch⟩), fun ch => turn cS 1 (Or.inl ⟨rfl, ch⟩)⟩, fun cS => ih x3 ls hc ρ (by omega) (by omega) ⟨f, fk, f16, f18, TC_skip hC cS, fun hP => TF_skip (hF hP) cS, hN, hD, hB⟩⟩
  refine b_So_trace_0 hE ?_
  rw [t6]
  exact l ts x3 ls0 hc0 σ (by omega) (Nat.le_refl _) h0
end TjJ
