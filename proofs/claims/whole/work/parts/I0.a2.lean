/-! THE SOLVER: facts are noted; what is learned follows -/
section NgJ
variable {ω : q_W} {d s top ts lv : Nat} {cs : List Nat} {Ws : Nat → List Nat} {σ : q_H}
theorem s_noteFacts2 {K : q_H → Prop} {nt : Nat} (hd : 4 ≤ d) (hE : q_E σ) (hs : s ≤ 10240) (hx : CX s top cs Ws σ) (hX : TX s ts lv cs σ) (h8 : z σ 70 8 = (nt : Int)) (hnt : nt ≤ ts) (pn : ∀ i, i < nt → z σ 76 (z σ 81 i).toNat = 1) (p0 : ∀ i, i < ts → z σ 80 (gt (z σ 81 i)) = 0 → z σ 76 (z σ 81 i).toNat = 1)
    (kk : ∀ τ, fr [70, 75, 76, 77, 85, 86] σ τ → (∀ k, k ≠ 8 → z τ 70 k = z σ 70 k) → z τ 70 8 = (ts : Int) → z τ 75 3 = z σ 75 3 → (∀ x, z σ 76 x = 1 → z τ 76 x = 1) → (∀ i, i < ts → z τ 76 (z σ 81 i).toNat = 1) → K τ) : J ω m_So_noteFacts d 0 0 0 0 0 [(0, .ref 70)] [] σ (q_kv K) := by
  obtain ⟨d, rfl⟩ : ∃ k, d = k + 1 := ⟨d - 1, by omega⟩
  obtain ⟨t6, t10, h12, hT⟩ := id hX
  have hlen := TR_len hT
  have l : ∀ (m n : Nat) (ρ : q_H), ts ≤ n + m → n ≤ ts → fr [70, 75, 76, 77, 85, 86] σ ρ → (∀ k, k ≠ 8 → z ρ 70 k = z σ 70 k) → z ρ 70 8 = (n : Int) → z ρ 75 3 = z σ 75 3 → (∀ x, z σ 76 x = 1 → z ρ 76 x = 1) → (∀ i, i < n → z ρ 76 (z σ 81 i).toNat = 1) → J ω m_So_noteFacts (d + 1) 0 0 0 0 0 [(0, .ref 70)] [] ρ (q_kv K) := by
    intro m
    induction m with
    | zero =>
      intro n ρ h1 h2 f fk f8 w1 w2 w3
      refine b_So_noteFacts_0 (fr_E f hE) ?_
      rw [f8, fk 6 (by decide), t6]
      have e : n = ts := by omega
      exact ⟨fun _ => ⟨rfl, kk ρ f fk (by rw [f8, e]) w1 w2 (fun i hi => w3 i (by omega))⟩, fun c => absurd c (by omega)⟩
    | succ m ih =>
      intro n ρ h1 h2 f fk f8 w1 w2 w3
      refine b_So_noteFacts_0 (fr_E f hE) ?_
      rw [f8, fk 6 (by decide), t6, Int.toNat_natCast, fr_zF f (show (81 : Nat) ∉ [70, 75, 76, 77, 85, 86] by decide), fr_zF f (show (80 : Nat) ∉ [70, 75, 76, 77, 85, 86] by decide)]
      refine ⟨fun c => ⟨rfl, kk ρ f fk (by rw [f8]; omega) w1 w2 (fun i hi => w3 i (by omega))⟩, fun c => ?_⟩
      have htn := (hT.1 n (by omega)).1
      have ht1 := htn.2
      have g := gt_sh hs htn
      rw [g.1]
      refine ⟨⟨by omega, by omega⟩, ⟨g.2.1, g.2.2⟩, ?_⟩
      have F1 : fr [70, 75, 76, 77, 85, 86] σ (zs (zs ρ 85 0 (z σ 81 n)) 86 0 (z σ 80 (gt (z σ 81 n)))) := fr_s (fr_s f (by simp)) (by simp)
      have next : ∀ τ, fr [70, 75, 76, 77, 85, 86] σ τ → z τ 70 = z ρ 70 → z τ 75 3 = z σ 75 3 → (∀ x, z ρ 76 x = 1 → z τ 76 x = 1) → z τ 76 (z σ 81 n).toNat = 1 → J ω m_So_noteFacts (d + 1) 0 0 0 0 0 [(0, .ref 70)] [] (zs τ 70 8 (z τ 70 8 + 1)) (q_kv K) := by
        intro τ ft e70 v1 v2 v3
        rw [e70, f8]
        exact ih (n + 1) _ (by omega) (by omega) (fr_s ft (by simp)) (fun k hk => by rw [z_k hk, e70]; exact fk k hk) (by rw [z_s ⟨by omega, by omega⟩]; omega) (by rw [z_o (by decide)]; exact v1) (fun x hx => by rw [z_o (by decide)]; exact v2 x (w2 x hx)) (fun i hi => by
          rw [z_o (by decide)]
          by_cases q : i = n
          · rw [q]; exact v3
          · exact v2 _ (w3 i (by omega)))
      have e70 : z (zs (zs ρ 85 0 (z σ 81 n)) 86 0 (z σ 80 (gt (z σ 81 n)))) 70 = z ρ 70 := by rw [z_oF (by decide), z_oF (by decide)]
      have e75 : z (zs (zs ρ 85 0 (z σ 81 n)) 86 0 (z σ 80 (gt (z σ 81 n)))) 75 = z ρ 75 := by rw [z_oF (by decide), z_oF (by decide)]
      have e76 : z (zs (zs ρ 85 0 (z σ 81 n)) 86 0 (z σ 80 (gt (z σ 81 n)))) 76 = z ρ 76 := by rw [z_oF (by decide), z_oF (by decide)]
      have e85 : z (zs (zs ρ 85 0 (z σ 81 n)) 86 0 (z σ 80 (gt (z σ 81 n)))) 85 0 = z σ 81 n := by rw [z_o (by decide), z_s (lit_R hs htn)]
      have e86 : z (zs (zs ρ 85 0 (z σ 81 n)) 86 0 (z σ 80 (gt (z σ 81 n)))) 86 0 = z σ 80 (gt (z σ 81 n)) := z_s (z_R _ _ _)
      have e72 : z (zs (zs ρ 85 0 (z σ 81 n)) 86 0 (z σ 80 (gt (z σ 81 n)))) 72 = z σ 72 := fr_zF F1 (by decide)
      refine b_Ch_knows_0 (fr_E F1 hE) ⟨⟨htn.1, by omega⟩, fun nk => ⟨0, ⟨by decide, by decide⟩, rfl, b_So_noteFacts_61 (fr_E F1 hE) ⟨⟨by decide, by decide⟩, fun q => absurd rfl q, fun _ => ?_⟩⟩, fun kn => ⟨1, ⟨by decide, by decide⟩, rfl, b_So_noteFacts_61 (fr_E F1 hE) ⟨⟨by decide, by decide⟩, fun _ => next _ F1 e70 (by rw [e75]; exact w1) (fun x hx => by rw [e76]; exact hx) kn, fun q => absurd q (by decide)⟩⟩⟩
      have rn : z σ 80 (gt (z σ 81 n)) ≠ 0 := fun q => nk (by rw [e76]; exact w2 _ (p0 n (by omega) q))
      rcases hT.2.2.2.2.2.2.1 n (by omega) with q | ⟨c1, m1, q, -, o1, -⟩
      · exact absurd q rn
      · refine k_check2 (n := 1) (h := 1) (s := s) (top := top) (cs := cs) (Ws := Ws) (fun _ => 0) (by omega) (fr_E F1 hE) hs ?_ (by omega) ⟨Nat.le_refl _, by omega⟩ (fun i hi => ?_) (fun j hj => ?_) (fun τ ft g1 g2 g3 => b_So_noteFacts_88 (fr_E (fr_trans F1 (fr_mono ft (by simp))) hE) (next τ (fr_trans F1 (fr_mono ft (by simp))) ((fr_zF ft (by decide)).trans e70) (by rw [g1, e75]; exact w1) (fun x hx => g2 x (by rw [e76]; exact hx)) (by have := g3 rfl; rw [e85] at this; exact this)))
        · unfold CX; rw [fr_zF F1 (by decide), fr_zF F1 (by decide), fr_zF F1 (by decide)]; exact hx
        · rw [show i = 0 by omega, e85]; exact htn
        · rw [show j = 0 by omega, e86, e72, e76]
          refine ⟨c1, m1, q, fun x xi => ?_⟩
          by_cases ex : x = z σ 81 n
          · exact Or.inr (Or.inr (Or.inl ⟨0, by omega, by rw [e85, ex]⟩))
          · obtain ⟨i, hi, ei⟩ := o1 x xi ex
            exact Or.inr (Or.inl (by rw [← ei]; exact w3 i hi))
  exact l ts nt σ (by omega) hnt fr_refl (fun _ _ => rfl) h8 rfl (fun _ h => h) pn
theorem s_analyse2 {Q : q_R → q_H → Prop} {c : Nat} (hd : 3 ≤ d) (hE : q_E σ) (hs : s ≤ 10240) (hx : CX s top cs Ws σ) (hX : TX s ts lv cs σ) (hm : c ∈ cs) (hden : ∀ x, inC (z σ 72) c x → z σ 78 x.toNat = -1) (hlv : 1 ≤ lv → ∃ x, inC (z σ 72) c x ∧ z σ 79 (gt x) = (lv : Int)) (h0 : ∀ g, z σ 84 g = 0) (hpv : ∀ i, i < ts → z σ 79 (gt (z σ 81 i)) = 0 → z σ 76 (z σ 81 i).toNat = 1)
    (k0 : lv = 0 → ∀ τ, fr [70, 75, 76, 77, 84, 85, 86] σ τ → z τ 75 3 = z σ 75 3 → (∀ x, z σ 76 x = 1 → z τ 76 x = 1) → z τ 70 16 = 0 → (∀ g, z τ 84 g = 0) → (∀ k, k ≠ 16 → k ≠ 18 → z τ 70 k = z σ 70 k) → J ω m_So_learn (d + 1) 0 0 0 0 65 [(0, .ref 70)] [] τ Q)
    (k1 : 1 ≤ lv → ∀ (τ : q_H) (n ls hc : Nat) (S Hi : Nat → Int), fr [70, 75, 76, 77, 84, 85, 86] σ τ → z τ 75 3 = z σ 75 3 → (∀ x, z σ 76 x = 1 → z τ 76 x = 1) → (ls = 1 → z τ 76 (z τ 85 0).toNat = 1) → (1 ≤ hc ∧ Hi 0 = (c : Int)) → z τ 70 16 = (ls : Int) → (∀ g, z τ 84 g = 0) → (∀ k, k ≠ 16 → k ≠ 18 → z τ 70 k = z σ 70 k) → TC ts n 0 ls 1 hc (z σ 72) cs (z σ 78) (z σ 79) (z σ 80) (z σ 81) S (z τ 85) Hi → TF lv (z σ 79) (z σ 81) S (z τ 85) n ls → (∀ g, S g = 0) → (top + 100243 < 360000 ∨ ∀ j, 0 ≤ j → j < ls → z σ 80 (gt (z τ 85 j)) = 0) → J ω m_So_learn (d + 1) 0 0 0 0 65 [(0, .ref 70)] [] τ Q) :
    J ω m_So_learn (d + 1) 0 0 0 0 0 [(0, .ref 70), (1, .int (zI (c : Int)))] [] σ Q := by
  obtain ⟨t6, t10, h12, hT⟩ := id hX
  have hlen := TR_len hT
  have htop := hx.2.1
  obtain ⟨a1, a2, a3, a4, a5, a6⟩ := hx.2.2.1.1 c hm
  refine b_So_learn_0 hE ?_
  have o : ∀ a, a ≠ 70 → z (zs (zs σ 70 16 0) 70 18 0) a = z σ a := fun a h => by rw [z_oF h, z_oF h]
  have F0 : fr [70, 84, 85, 86] σ (zs (zs σ 70 16 0) 70 18 0) := fr_s (fr_s fr_refl (by simp)) (by simp)
  refine s_gather (hc := 0) (fr_E F0 hE) hs (CX_70 (CX_70 hx)) hm (z_s ⟨by decide, by decide⟩) (by omega) (fun v τ iv v0 ft t18 tk t86 tS tv => ?_)
  rw [o 72 (by decide), o 78 (by decide), o 79 (by decide), o 84 (by decide)] at tS
  rw [o 79 (by decide), o 84 (by decide), z_k (by decide), z_k (by decide), t10, ctn_z h0, Int.sub_zero] at tv
  have F1 : fr [70, 84, 85, 86] σ τ := fr_trans F0 (fr_mono ft (by simp))
  have E1 := fr_E F1 hE
  have p70 : ∀ k, k ≠ 16 → k ≠ 18 → z τ 70 k = z σ 70 k := fun k h1 h2 => by rw [tk k h2, z_k h2, z_k h1]
  have p16 : z τ 70 16 = 0 := by rw [tk 16 (by decide), z_k (by decide), z_s ⟨by decide, by decide⟩]
  have e : ∀ {a}, a ∉ [70, 84, 85, 86] → z τ a = z σ a := fun h => fr_zF F1 h
  have CX1 : CX s top cs Ws τ := by unfold CX; rw [e (by decide), e (by decide), e (by decide)]; exact hx
  have TX1 : TX s ts lv cs τ := ⟨by rw [p70 6 (by decide) (by decide)]; exact t6, by rw [p70 10 (by decide) (by decide)]; exact t10, h12, by rw [e (by decide), e (by decide), e (by decide), e (by decide), e (by decide), e (by decide)]; exact hT⟩
  -- the check
  have e7x : ∀ {ρ : q_H}, fr [70, 84, 85, 86] σ ρ → z ρ 75 = z σ 75 ∧ z ρ 76 = z σ 76 ∧ z ρ 72 = z σ 72 := fun f => ⟨fr_zF f (by decide), fr_zF f (by decide), fr_zF f (by decide)⟩
  have chk : ∀ (ρ : q_H) (ls hc : Nat) (Y : Nat → Int), fr [70, 84, 85, 86] σ ρ → z ρ 70 16 = (ls : Int) → z ρ 70 18 = (hc : Int) → ls ≤ 10240 → 1 ≤ hc ∧ hc ≤ 10240 → (∀ i, i < ls → lit s (z ρ 85 i)) → (∀ j, j < hc → ∃ c ∈ cs, z ρ 86 j = ((c : Nat) : Int) ∧ ∀ x, inC (z σ 72) c x → (1 ≤ j ∧ x = Y j) ∨ z σ 76 (ng x).toNat = 1 ∨ (∃ k, k < ls ∧ z ρ 85 k = x) ∨ ∃ k, j < k ∧ k < hc ∧ Y k = ng x) → (∀ τ, fr [75, 76, 77] ρ τ → z τ 75 3 = z σ 75 3 → (∀ x, z σ 76 x = 1 → z τ 76 x = 1) → (ls = 1 → z τ 76 (z ρ 85 0).toNat = 1) → J ω m_So_learn (d + 1) 0 0 0 0 65 [(0, .ref 70)] [] τ Q) → J ω m_So_learn (d + 1) 0 0 0 0 35 [(0, .ref 70)] [] ρ Q := by
    intro ρ ls hc Y f f16 f18 b1 b2 b3 b4 kk
    obtain ⟨g75, g76, g72⟩ := e7x f
    refine b_So_learn_35 (fr_E f hE) ?_
    rw [f16, f18]
    refine k_check2 (s := s) (top := top) (cs := cs) (Ws := Ws) Y hd (fr_E f hE) hs ?_ b1 b2 b3 (by rw [g72, g76]; exact b4) (fun τ q1 q2 q3 q4 => kk τ q1 (by rw [q2, g75]) (fun x hx => q3 x (by rw [g76]; exact hx)) q4)
    unfold CX; rw [fr_zF f (by decide), fr_zF f (by decide), fr_zF f (by decide)]; exact hx
  refine b_So_learn_15 E1 ?_
  rw [p70 10 (by decide) (by decide), t10]
  refine ⟨fun cl => ?_, fun cl => ?_⟩
  · have l0 : lv = 0 := by omega
    have s0 : ∀ g, z τ 84 g = 0 := fun g => by
      by_cases q : z τ 84 g = 0
      · exact q
      · rcases (tS g).mp q with w | ⟨i, hi, v1, v2, v3⟩
        · exact absurd (h0 g) w
        · obtain ⟨j, hj, ej⟩ := TR_neg hT (a4 i (by omega)) v1
          have := (hT.2.2.2.1 j hj).2
          rw [ej, gt_ng] at this
          omega
    refine chk τ 0 1 (fun _ => 0) F1 (by rw [p16]; rfl) (by rw [t18]; rfl) (by omega) (by omega) (fun i hi => absurd hi (by omega)) (fun j hj => ⟨c, hm, by rw [t86, show j = 0 by omega]; exact up_s, fun x xi => ?_⟩) (fun τ2 f2 c1 c2 _ => ?_)
    · obtain ⟨i, hi, ei⟩ := TR_neg hT (by obtain ⟨i, hi, ei⟩ := xi; rw [← ei]; exact a4 i hi) (hden x xi)
      have lb := hT.2.2.2.1 i hi
      exact Or.inr (Or.inl (by rw [← ei]; exact hpv i hi (by omega)))
    have e70 : z τ2 70 = z τ 70 := fr_zF f2 (by decide)
    exact k0 l0 τ2 (fr_trans (fr_mono F1 (by simp)) (fr_mono f2 (by simp))) c1 c2 (by rw [e70]; exact p16) (fun g => by rw [fr_zF f2 (by decide)]; exact s0 g) (fun k h1 h2 => by rw [e70]; exact p70 k h1 h2)
  · have l1 : 1 ≤ lv := by omega
    obtain ⟨xl, xl1, xl2⟩ := hlv l1
    have seenx : ∀ x, inC (z σ 72) c x → 1 ≤ z σ 79 (gt x) → z τ 84 (gt x) ≠ 0 := fun x hx2 hl2 => by
      have hv := hden x hx2
      obtain ⟨i, hi, ei⟩ := hx2
      exact (tS _).mpr (Or.inr ⟨i, by omega, by rw [ei]; exact hv, by rw [ei]; omega, by rw [ei]⟩)
    have litx : ∀ x, inC (z σ 72) c x → lit s x := fun x ⟨i, hi, ei⟩ => by rw [← ei]; exact a4 i hi
    -- trace and what is behind it
    have go : ∀ near : Int, inR near → (top + 100243 < 360000 ∨ near = 0) → J ω m_So_learn (d + 1) 0 0 0 0 31 [(0, .ref 70), (2, .int (zI v))] [.int (zI near), .ref 70] τ Q := by
      intro near hn hw
      have TI0 : TI2 s ts lv 0 1 0 near True cs τ τ ts 0 1 v := by
        refine ⟨fr_refl, fun _ _ _ => rfl, by rw [p16]; rfl, by rw [t18]; rfl, ⟨fun g hg => ?_, fun j h1 h2 => absurd h2 (by omega), fun j k p q h1 h2 h3 => absurd h3 (by omega), fun j hj => ⟨c, hm, by rw [t86, show j = 0 by omega]; exact up_s, fun x hx2 hv => ?_⟩, fun j h1 h2 => absurd h2 (by omega), fun j k p q h1 h2 h3 => absurd h3 (by omega), ⟨by omega, by omega⟩, ⟨by omega, by omega⟩⟩, fun _ => Or.inl ⟨rfl, ?_⟩, fun _ => by rw [e (show (79 : Nat) ∉ [70, 84, 85, 86] by decide)]; exact tv, fun _ j h1 h2 => absurd h2 (by omega), fun j hj => absurd hj (by omega), fun j hj => rfl, fun q => absurd q (by decide)⟩
        · rw [e (show (81 : Nat) ∉ [70, 84, 85, 86] by decide), e (show (79 : Nat) ∉ [70, 84, 85, 86] by decide)]
          rcases (tS g).mp hg with w | ⟨i, hi, v1, v2, v3⟩
          · exact absurd (h0 g) w
          · obtain ⟨j, hj, ej⟩ := TR_neg hT (a4 i (by omega)) v1
            exact ⟨j, hj, by rw [ej, gt_ng]; exact v3, by rw [← v3]; exact v2⟩
        · rw [e (show (72 : Nat) ∉ [70, 84, 85, 86] by decide)] at hx2
          rw [e (show (78 : Nat) ∉ [70, 84, 85, 86] by decide)] at hv
          rw [e (show (79 : Nat) ∉ [70, 84, 85, 86] by decide)]
          obtain ⟨j, hj, ej⟩ := TR_neg hT (litx x hx2) hv
          have := (hT.2.2.2.1 j hj).1
          rw [ej, gt_ng] at this
          by_cases q : z σ 79 (gt x) = 0
          · exact Or.inl q
          · exact Or.inr (Or.inl (seenx x hx2 (by omega)))
        · rw [e (show (81 : Nat) ∉ [70, 84, 85, 86] by decide), e (show (79 : Nat) ∉ [70, 84, 85, 86] by decide)]
          obtain ⟨j, hj, ej⟩ := TR_neg hT (litx xl xl1) (hden xl xl1)
          exact ⟨j, hj, by rw [ej, gt_ng]; exact seenx xl xl1 (by omega), by rw [ej, gt_ng]; exact xl2⟩
      refine b_So_learn_31 E1 (s_trace2 (P := True) (ls0 := 0) (hc0 := 1) (by omega) E1 hs CX1 TX1 l1 (by omega) (by omega) hn TI0 (fun ρ n ls hc x hI hz hn1 => ?_))
      obtain ⟨g, gk, g16, g18, hC, hF, hN, hD, hB, hH, -⟩ := hI
      rw [e (show (72 : Nat) ∉ [70, 84, 85, 86] by decide), e (show (78 : Nat) ∉ [70, 84, 85, 86] by decide), e (show (79 : Nat) ∉ [70, 84, 85, 86] by decide), e (show (80 : Nat) ∉ [70, 84, 85, 86] by decide), e (show (81 : Nat) ∉ [70, 84, 85, 86] by decide)] at hC
      rw [e (show (79 : Nat) ∉ [70, 84, 85, 86] by decide), e (show (81 : Nat) ∉ [70, 84, 85, 86] by decide)] at hF
      rw [e (show (80 : Nat) ∉ [70, 84, 85, 86] by decide)] at hD
      have F2 : fr [70, 84, 85, 86] σ ρ := fr_trans F1 g
      have q1 := hC.2.2.2.2.2.2.1
      have q2 := hC.2.2.2.2.2.2.2
      have h86 : z ρ 86 0 = (c : Int) ∧ 1 ≤ hc := ⟨by rw [hH 0 (by omega), t86]; exact up_s, by have := hC.2.2.2.2.2.2.2; omega⟩
      obtain ⟨Y, hY⟩ := TC_Y (P := fun x => z σ 76 x.toNat = 1) hT (fun c hm x ⟨i, hi, ei⟩ => by rw [← ei]; exact (hx.2.2.1.1 c hm).2.2.2.1 i hi) hC hz (fun i hi h0 => hpv i hi h0) (Nat.le_refl _) (fun _ c' ec x xi => Or.inl (hden x (by
        have : c' = c := by rw [h86.1] at ec; omega
        rw [this] at xi; exact xi)))
      refine chk ρ ls hc Y F2 g16 g18 (by omega) (by omega) (fun i hi => ?_) hY (fun τ2 f2 c1 c2 c3 => ?_)
      · obtain ⟨p, -, p2, p3, -⟩ := hC.2.1 i (Nat.zero_le _) hi
        rw [p3]; exact ng_lit (hT.1 p p2).1
      · have e70 : z τ2 70 = z ρ 70 := fr_zF f2 (by decide)
        have e85 : z τ2 85 = z ρ 85 := fr_zF f2 (by decide)
        refine k1 l1 τ2 n ls hc (z ρ 84) (z ρ 86) (fr_trans (fr_mono F2 (by simp)) (fr_mono f2 (by simp))) c1 c2 (fun q => by rw [e85]; exact c3 q) ⟨h86.2, h86.1⟩ (by rw [e70]; exact g16) (fun g => by rw [fr_zF f2 (by decide)]; exact hz g) (fun k h1 h2 => by rw [e70, gk k h1 h2]; exact p70 k h1 h2) (by rw [e85]; exact hC) (by rw [e85]; exact hF trivial) hz ?_
        rcases hw with w | w
        · exact Or.inl w
        · exact Or.inr (by rw [e85]; exact hD w)
    have ht : z τ 71 3 = (top : Int) := CX1.1
    refine b_Cl_hasNearRoom_0 E1 ?_
    rw [ht]
    exact ⟨⟨by omega, by omega⟩, fun _ => ⟨0, ⟨by decide, by decide⟩, rfl, go 0 ⟨by decide, by decide⟩ (Or.inr rfl)⟩, fun cr => ⟨1, ⟨by decide, by decide⟩, rfl, go 1 ⟨by decide, by decide⟩ (Or.inl (by omega))⟩⟩
end NgJ
