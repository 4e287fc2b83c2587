/-! Solver.learn, up to the cut -/
theorem ctn_z {S L : Nat → Int} {v : Int} (h : ∀ g, S g = 0) : ∀ n, ctn S L v n = 0
  | 0 => rfl
  | n + 1 => by
    show ctn S L v n + (if S n ≠ 0 ∧ L n = v then 1 else 0) = 0
    rw [ctn_z h n, if_neg (fun q => q.1 (h n))]; rfl
section LnJ
variable {ω : q_W} {d s top ts lv : Nat} {cs : List Nat} {Ws : Nat → List Nat} {σ : q_H}
theorem s_analyse {Q : q_R → q_H → Prop} {c : Nat} (hd : 3 ≤ d) (hE : q_E σ) (hs : s ≤ 10240) (hx : CX s top cs Ws σ) (hX : TX s ts lv cs σ) (hm : c ∈ cs) (hden : ∀ x, inC (z σ 72) c x → z σ 78 x.toNat = -1) (hlv : 1 ≤ lv → ∃ x, inC (z σ 72) c x ∧ z σ 79 (gt x) = (lv : Int)) (h0 : ∀ g, z σ 84 g = 0)
    (k0 : lv = 0 → ∀ τ, fr [70, 75, 76, 77, 84, 85, 86] σ τ → z τ 70 16 = 0 → (∀ g, z τ 84 g = 0) → (∀ k, k ≠ 16 → k ≠ 18 → z τ 70 k = z σ 70 k) → J ω m_So_learn (d + 1) 0 0 0 0 65 [(0, .ref 70)] [] τ Q)
    (k1 : 1 ≤ lv → ∀ (τ : q_H) (n ls hc : Nat) (S Hi : Nat → Int), fr [70, 75, 76, 77, 84, 85, 86] σ τ → z τ 70 16 = (ls : Int) → (∀ g, z τ 84 g = 0) → (∀ k, k ≠ 16 → k ≠ 18 → z τ 70 k = z σ 70 k) → TC ts n 0 ls 1 hc (z σ 72) cs (z σ 78) (z σ 79) (z σ 80) (z σ 81) S (z τ 85) Hi → TF lv (z σ 79) (z σ 81) S (z τ 85) n ls → (∀ g, S g = 0) → (top + 100243 < 360000 ∨ ∀ j, 0 ≤ j → j < ls → z σ 80 (gt (z τ 85 j)) = 0) → J ω m_So_learn (d + 1) 0 0 0 0 65 [(0, .ref 70)] [] τ Q) :
    J ω m_So_learn (d + 1) 0 0 0 0 0 [(0, .ref 70), (1, .int (zI (c : Int)))] [] σ Q := by
  obtain ⟨t6, t10, h12, hT⟩ := id hX
  have hlen := TR_len hT
  have htop := hx.2.1
  obtain ⟨a1, a2, a3, a4, a5, a6⟩ := hx.2.2.1.1 c hm
  refine b_So_learn_0 hE ?_
  have o : ∀ a, a ≠ 70 → z (zs (zs σ 70 16 0) 70 18 0) a = z σ a := fun a h => by rw [z_oF h, z_oF h]
  have F0 : fr [70, 84, 85, 86] σ (zs (zs σ 70 16 0) 70 18 0) := fr_s (fr_s fr_refl (by simp)) (by simp)
  refine s_gather (hc := 0) (fr_E F0 hE) hs (CX_70 (CX_70 hx)) hm (z_s ⟨by decide, by decide⟩) (by omega) (fun v τ iv v0 ft t18 tk t86 tS tv => ?_)
  rw [o 72 (by decide), o 78 (by decide), o 79 (by decide), o 84 (by decide)] at tS
  rw [o 79 (by decide), o 84 (by decide), z_k (by decide), z_k (by decide), t10, ctn_z h0, Int.sub_zero] at tv
  have F1 : fr [70, 84, 85, 86] σ τ := fr_trans F0 (fr_mono ft (by simp))
  have E1 := fr_E F1 hE
  have p70 : ∀ k, k ≠ 16 → k ≠ 18 → z τ 70 k = z σ 70 k := fun k h1 h2 => by rw [tk k h2, z_k h2, z_k h1]
  have p16 : z τ 70 16 = 0 := by rw [tk 16 (by decide), z_k (by decide), z_s ⟨by decide, by decide⟩]
  have e : ∀ {a}, a ∉ [70, 84, 85, 86] → z τ a = z σ a := fun h => fr_zF F1 h
  have CX1 : CX s top cs Ws τ := by unfold CX; rw [e (by decide), e (by decide), e (by decide)]; exact hx
  have TX1 : TX s ts lv cs τ := ⟨by rw [p70 6 (by decide) (by decide)]; exact t6, by rw [p70 10 (by decide) (by decide)]; exact t10, h12, by rw [e (by decide), e (by decide), e (by decide), e (by decide), e (by decide), e (by decide)]; exact hT⟩
  -- the check
  have chk : ∀ (ρ : q_H) (ls hc : Nat), fr [70, 84, 85, 86] σ ρ → z ρ 70 16 = (ls : Int) → z ρ 70 18 = (hc : Int) → ls ≤ 10240 → hc ≤ 10240 → (∀ i, i < ls → lit s (z ρ 85 i)) → (∀ i, i < hc → ∃ c ∈ cs, z ρ 86 i = ((c : Nat) : Int)) → (∀ τ, fr [75, 76, 77] ρ τ → J ω m_So_learn (d + 1) 0 0 0 0 65 [(0, .ref 70)] [] τ Q) → J ω m_So_learn (d + 1) 0 0 0 0 35 [(0, .ref 70)] [] ρ Q := by
    intro ρ ls hc f f16 f18 b1 b2 b3 b4 kk
    refine b_So_learn_35 (fr_E f hE) ?_
    rw [f16, f18]
    refine k_check (s := s) (top := top) (cs := cs) (Ws := Ws) hd (fr_E f hE) hs ?_ b1 b2 b3 (fun i hi => Or.inr (b4 i hi)) kk
    unfold CX; rw [fr_zF f (by decide), fr_zF f (by decide), fr_zF f (by decide)]; exact hx
  refine b_So_learn_15 E1 ?_
  rw [p70 10 (by decide) (by decide), t10]
  refine ⟨fun cl => ?_, fun cl => ?_⟩
  · have l0 : lv = 0 := by omega
    have s0 : ∀ g, z τ 84 g = 0 := fun g => by
      by_cases q : z τ 84 g = 0
      · exact q
      · rcases (tS g).mp q with w | ⟨i, hi, v1, v2, v3⟩
        · exact absurd (h0 g) w
        · obtain ⟨j, hj, ej⟩ := TR_neg hT (a4 i (by omega)) v1
          have := (hT.2.2.2.1 j hj).2
          rw [ej, gt_ng] at this
          omega
    refine chk τ 0 1 F1 (by rw [p16]; rfl) (by rw [t18]; rfl) (by omega) (by omega) (fun i hi => absurd hi (by omega)) (fun i hi => ⟨c, hm, by rw [t86, show i = 0 by omega]; exact up_s⟩) (fun τ2 f2 => ?_)
    have e70 : z τ2 70 = z τ 70 := fr_zF f2 (by decide)
    exact k0 l0 τ2 (fr_trans (fr_mono F1 (by simp)) (fr_mono f2 (by simp))) (by rw [e70]; exact p16) (fun g => by rw [fr_zF f2 (by decide)]; exact s0 g) (fun k h1 h2 => by rw [e70]; exact p70 k h1 h2)
  · have l1 : 1 ≤ lv := by omega
    obtain ⟨xl, xl1, xl2⟩ := hlv l1
    have seenx : ∀ x, inC (z σ 72) c x → 1 ≤ z σ 79 (gt x) → z τ 84 (gt x) ≠ 0 := fun x hx2 hl2 => by
      have hv := hden x hx2
      obtain ⟨i, hi, ei⟩ := hx2
      exact (tS _).mpr (Or.inr ⟨i, by omega, by rw [ei]; exact hv, by rw [ei]; omega, by rw [ei]⟩)
    have litx : ∀ x, inC (z σ 72) c x → lit s x := fun x ⟨i, hi, ei⟩ => by rw [← ei]; exact a4 i hi
    -- trace and what is behind it
    have go : ∀ near : Int, inR near → (top + 100243 < 360000 ∨ near = 0) → J ω m_So_learn (d + 1) 0 0 0 0 31 [(0, .ref 70), (2, .int (zI v))] [.int (zI near), .ref 70] τ Q := by
      intro near hn hw
      have TI0 : TI s ts lv 0 1 near True cs τ τ ts 0 1 v := by
        refine ⟨fr_refl, fun _ _ _ => rfl, by rw [p16]; rfl, by rw [t18]; rfl, ⟨fun g hg => ?_, fun j h1 h2 => absurd h2 (by omega), fun j k p q h1 h2 h3 => absurd h3 (by omega), fun j hj => ⟨c, hm, by rw [t86, show j = 0 by omega]; exact up_s, fun x hx2 hv => ?_⟩, fun j h1 h2 => absurd h2 (by omega), fun j k p q h1 h2 h3 => absurd h3 (by omega), ⟨by omega, by omega⟩, ⟨by omega, by omega⟩⟩, fun _ => Or.inl ⟨rfl, ?_⟩, fun _ => by rw [e (show (79 : Nat) ∉ [70, 84, 85, 86] by decide)]; exact tv, fun _ j h1 h2 => absurd h2 (by omega), fun j hj => absurd hj (by omega)⟩
        · rw [e (show (81 : Nat) ∉ [70, 84, 85, 86] by decide), e (show (79 : Nat) ∉ [70, 84, 85, 86] by decide)]
          rcases (tS g).mp hg with w | ⟨i, hi, v1, v2, v3⟩
          · exact absurd (h0 g) w
          · obtain ⟨j, hj, ej⟩ := TR_neg hT (a4 i (by omega)) v1
            exact ⟨j, hj, by rw [ej, gt_ng]; exact v3, by rw [← v3]; exact v2⟩
        · rw [e (show (72 : Nat) ∉ [70, 84, 85, 86] by decide)] at hx2
          rw [e (show (78 : Nat) ∉ [70, 84, 85, 86] by decide)] at hv
          rw [e (show (79 : Nat) ∉ [70, 84, 85, 86] by decide)]
          obtain ⟨j, hj, ej⟩ := TR_neg hT (litx x hx2) hv
          have := (hT.2.2.2.1 j hj).1
          rw [ej, gt_ng] at this
          by_cases q : z σ 79 (gt x) = 0
          · exact Or.inl q
          · exact Or.inr (Or.inl (seenx x hx2 (by omega)))
        · rw [e (show (81 : Nat) ∉ [70, 84, 85, 86] by decide), e (show (79 : Nat) ∉ [70, 84, 85, 86] by decide)]
          obtain ⟨j, hj, ej⟩ := TR_neg hT (litx xl xl1) (hden xl xl1)
          exact ⟨j, hj, by rw [ej, gt_ng]; exact seenx xl xl1 (by omega), by rw [ej, gt_ng]; exact xl2⟩
      refine b_So_learn_31 E1 (s_trace (P := True) (ls0 := 0) (hc0 := 1) (by omega) E1 hs CX1 TX1 l1 (by omega) (by omega) hn TI0 (fun ρ n ls hc x hI hz hn1 => ?_))
      obtain ⟨g, gk, g16, g18, hC, hF, hN, hD, hB⟩ := hI
      rw [e (show (72 : Nat) ∉ [70, 84, 85, 86] by decide), e (show (78 : Nat) ∉ [70, 84, 85, 86] by decide), e (show (79 : Nat) ∉ [70, 84, 85, 86] by decide), e (show (80 : Nat) ∉ [70, 84, 85, 86] by decide), e (show (81 : Nat) ∉ [70, 84, 85, 86] by decide)] at hC
      rw [e (show (79 : Nat) ∉ [70, 84, 85, 86] by decide), e (show (81 : Nat) ∉ [70, 84, 85, 86] by decide)] at hF
      rw [e (show (80 : Nat) ∉ [70, 84, 85, 86] by decide)] at hD
      have F2 : fr [70, 84, 85, 86] σ ρ := fr_trans F1 g
      have q1 := hC.2.2.2.2.2.2.1
      have q2 := hC.2.2.2.2.2.2.2
      refine chk ρ ls hc F2 g16 g18 (by omega) (by omega) (fun i hi => ?_) (fun i hi => ?_) (fun τ2 f2 => ?_)
      · obtain ⟨p, -, p2, p3, -⟩ := hC.2.1 i (Nat.zero_le _) hi
        rw [p3]; exact ng_lit (hT.1 p p2).1
      · obtain ⟨c1, m1, e1, -⟩ := hC.2.2.2.1 i hi
        exact ⟨c1, m1, e1⟩
      · have e70 : z τ2 70 = z ρ 70 := fr_zF f2 (by decide)
        have e85 : z τ2 85 = z ρ 85 := fr_zF f2 (by decide)
        refine k1 l1 τ2 n ls hc (z ρ 84) (z ρ 86) (fr_trans (fr_mono F2 (by simp)) (fr_mono f2 (by simp))) (by rw [e70]; exact g16) (fun g => by rw [fr_zF f2 (by decide)]; exact hz g) (fun k h1 h2 => by rw [e70, gk k h1 h2]; exact p70 k h1 h2) (by rw [e85]; exact hC) (by rw [e85]; exact hF trivial) hz ?_
        rcases hw with w | w
        · exact Or.inl w
        · exact Or.inr (by rw [e85]; exact hD w)
    have ht : z τ 71 3 = (top : Int) := CX1.1
    refine b_Cl_hasNearRoom_0 E1 ?_
    rw [ht]
    exact ⟨⟨by omega, by omega⟩, fun _ => ⟨0, ⟨by decide, by decide⟩, rfl, go 0 ⟨by decide, by decide⟩ (Or.inr rfl)⟩, fun cr => ⟨1, ⟨by decide, by decide⟩, rfl, go 1 ⟨by decide, by decide⟩ (Or.inl (by omega))⟩⟩
end LnJ
