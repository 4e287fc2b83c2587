/-! THE SOLVER: a model passes -/
section CkJ
variable {ω : q_W} {d s top ts lv : Nat} {cs : List Nat} {Ws : Nat → List Nat} {σ : q_H}
theorem c_allHold2 {K : Int → q_H → Prop} (hE : q_E σ) (hs : s ≤ 10240) (hc : CX s top cs Ws σ) (hA : ∀ c ∈ cs, ∃ x, inC (z σ 72) c x ∧ z σ 78 x.toNat = 1) (kk : K 1 σ) : J ω m_Cl_allHold d 0 0 0 0 0 [(0, .ref 71), (1, .ref 78)] [] σ (q_ki K) := by
  obtain ⟨ht, ht1, hcl, hwl⟩ := id hc
  have l : ∀ (k : Nat) (x2 : Nat), top ≤ x2 + k → x2 ≤ top → (x2 = top ∨ x2 ∈ cs) → J ω m_Cl_allHold d 0 0 0 0 2 [(0, .ref 71), (1, .ref 78), (2, .int (zI (x2 : Int)))] [] σ (q_ki K) := by
    intro k
    induction k with
    | zero =>
      intro x2 hk h2 hm
      refine b_Cl_allHold_2 hE ?_
      rw [ht]
      exact ⟨⟨by omega, by omega⟩, fun _ => ⟨1, ⟨by decide, by decide⟩, rfl, kk⟩, fun c => absurd c (by omega)⟩
    | succ k ih =>
      intro x2 hk h2 hm
      refine b_Cl_allHold_2 hE ?_
      rw [ht, Int.toNat_natCast]
      refine ⟨⟨by omega, by omega⟩, fun _ => ⟨1, ⟨by decide, by decide⟩, rfl, kk⟩, fun c => ⟨⟨by omega, by omega⟩, ?_⟩⟩
      have hm : x2 ∈ cs := by rcases hm with e | e; omega; exact e
      obtain ⟨a1, a2, a3, a4, a5, a6⟩ := hcl.1 x2 hm
      have g51 : ∀ x4 : Int, inR x4 → x4 < (x2 : Int) + 3 + z σ 72 x2 → J ω m_Cl_allHold d 0 0 0 0 51 [(0, .ref 71), (1, .ref 78), (3, .int (zI ((x2 : Int) + 3 + z σ 72 x2))), (4, .int (zI x4))] [] σ (q_ki K) := by
        intro x4 h4 h5
        refine b_Cl_allHold_51 hE ⟨h4, ⟨by omega, by omega⟩, fun _ => ?_, fun q => absurd q (by omega)⟩
        rw [show (x2 : Int) + 3 + z σ 72 x2 = (((x2 : Int) + 3 + z σ 72 x2).toNat : Int) by omega]
        exact ih _ (by omega) (by omega) (by rcases a6 with e | e; exact Or.inl (by omega); exact Or.inr e)
      have l2 : ∀ (m : Nat) (x4 : Int), (x2 : Int) + 3 + z σ 72 x2 ≤ x4 + m → (x2 : Int) + 3 ≤ x4 → x4 ≤ (x2 : Int) + 3 + z σ 72 x2 → (∃ i : Nat, x4 ≤ (x2 : Int) + 3 + (i : Int) ∧ (i : Int) < z σ 72 x2 ∧ z σ 78 (z σ 72 (x2 + 3 + i)).toNat = 1) → J ω m_Cl_allHold d 0 0 0 0 26 [(0, .ref 71), (1, .ref 78), (3, .int (zI ((x2 : Int) + 3 + z σ 72 x2))), (4, .int (zI x4))] [] σ (q_ki K) := by
        intro m
        induction m with
        | zero =>
          intro x4 hm h1 h2 ⟨i, i1, i2, i3⟩
          exact b_Cl_allHold_26 hE ⟨⟨by omega, by omega⟩, ⟨by omega, by omega⟩, fun q => absurd q (by omega), fun c => absurd c (by omega)⟩
        | succ m ih2 =>
          intro x4 hm h1 h2 ⟨i, i1, i2, i3⟩
          refine b_Cl_allHold_26 hE ⟨⟨by omega, by omega⟩, ⟨by omega, by omega⟩, fun q => absurd q (by omega), fun c => ⟨⟨by omega, by omega⟩, ?_, fun _ => g51 x4 ⟨by omega, by omega⟩ c, fun nh => ih2 (x4 + 1) (by omega) (by omega) (by omega) ⟨i, ?_, i2, i3⟩⟩⟩
          rotate_left
          · by_cases q : x4 = (x2 : Int) + 3 + (i : Int)
            · rw [show x4.toNat = x2 + 3 + i by omega] at nh
              exact absurd i3 nh
            · omega
          have := a4 (x4 - x2 - 3).toNat (by omega)
          rw [show x2 + 3 + (x4 - x2 - 3).toNat = x4.toNat by omega] at this
          exact ⟨this.1, by have := this.2; omega⟩
      obtain ⟨y, ⟨i, i1, i2⟩, yv⟩ := hA x2 hm
      exact l2 360000 _ (by omega) (Int.le_refl _) (by omega) ⟨i, by omega, i1, by rw [i2]; exact yv⟩
  exact b_Cl_allHold_0 hE (l top 1 (by omega) ht1.1 (hcl.2.2.2.imp (fun h => h.symm) id))
theorem s_checkModel2 {K : q_H → Prop} {wc : Nat} (hd : 4 ≤ d) (hE : q_E σ) (hs : s ≤ 10240) (hx : CX s top cs Ws σ) (hX : TX s ts lv cs σ) (hw : WI s wc σ) (h0 : ∀ g, z σ 84 g = 0) (hpv : ∀ i, i < ts → z σ 79 (gt (z σ 81 i)) = 0 → z σ 76 (z σ 81 i).toNat = 1) (hAll : ∀ c ∈ cs, ∃ x, inC (z σ 72) c x ∧ z σ 78 x.toNat = 1) (hDW : DW wc lv (z σ 83) (z σ 78) (z σ 79) (z σ 81) (z σ 82))
    (kk : ∀ τ, fr [70, 75, 76, 77, 84, 85, 86] σ τ → (∀ k, k ≠ 16 → k ≠ 18 → z τ 70 k = z σ 70 k) → (∀ g, z τ 84 g = 0) → z τ 75 3 = z σ 75 3 → (∀ x, z σ 76 x = 1 → z τ 76 x = 1) → K τ) : J ω m_So_checkModel d 0 0 0 0 0 [(0, .ref 70)] [] σ (q_kv K) := by
  obtain ⟨d, rfl⟩ : ∃ k, d = k + 1 := ⟨d - 1, by omega⟩
  obtain ⟨t6, t10, h12, hT⟩ := id hX
  obtain ⟨w12, w1, w2, w3⟩ := id hw
  have hlen := TR_len hT
  have l : ∀ (m n : Nat) (ρ : q_H), wc ≤ n + m → n ≤ wc → fr [70, 75, 76, 77, 84, 85, 86] σ ρ → (∀ k, k ≠ 16 → k ≠ 18 → z ρ 70 k = z σ 70 k) → (∀ g, z ρ 84 g = 0) → z ρ 75 3 = z σ 75 3 → (∀ x, z σ 76 x = 1 → z ρ 76 x = 1) → J ω m_So_checkModel (d + 1) 0 0 0 0 29 [(0, .ref 70), (1, .int (zI (n : Int)))] [] ρ (q_kv K) := by
    intro m
    induction m with
    | zero =>
      intro n ρ a1 a2 f fk fz f75 f76
      refine b_So_checkModel_29 (fr_E f hE) ?_
      rw [fk 12 (by decide) (by decide), w12]
      exact ⟨⟨by omega, by omega⟩, fun _ => ⟨rfl, kk ρ f fk fz f75 f76⟩, fun c => absurd c (by omega)⟩
    | succ m ih =>
      intro n ρ a1 a2 f fk fz f75 f76
      have e : ∀ {a}, a ∉ [70, 75, 76, 77, 84, 85, 86] → z ρ a = z σ a := fun h => fr_zF f h
      refine b_So_checkModel_29 (fr_E f hE) ?_
      rw [fk 12 (by decide) (by decide), w12, Int.toNat_natCast, e (show (83 : Nat) ∉ [70, 75, 76, 77, 84, 85, 86] by decide), e (show (78 : Nat) ∉ [70, 75, 76, 77, 84, 85, 86] by decide), e (show (79 : Nat) ∉ [70, 75, 76, 77, 84, 85, 86] by decide)]
      refine ⟨⟨by omega, by omega⟩, fun _ => ⟨rfl, kk ρ f fk fz f75 f76⟩, fun c => ?_⟩
      have hl := w2 n (by omega)
      have hl1 := hl.2
      have g := gt_sh hs hl
      have hng := ng_lit hl
      rw [g.1, zX_ng hs hl, show (n : Int) + 1 = ((n + 1 : Nat) : Int) by omega]
      refine ⟨⟨by omega, by omega⟩, ⟨hl.1, by omega⟩, fun _ => ih (n + 1) ρ (by omega) (by omega) f fk fz f75 f76, fun cv => ⟨⟨g.2.1, g.2.2⟩, fun _ => ih (n + 1) ρ (by omega) (by omega) f fk fz f75 f76, fun cl => ?_⟩⟩
      obtain ⟨j, hj, ej⟩ := TR_neg hT hl cv
      have hlj := (hT.2.2.2.1 j hj).2
      rw [ej, gt_ng] at hlj
      have l1 : 1 ≤ lv := by omega
      -- the state before trace
      have F1 : fr [70, 75, 76, 77, 84, 85, 86] σ (zs (zs (zs (zs ρ 85 0 (ng (z σ 83 n))) 70 16 1) 70 18 0) 84 (gt (z σ 83 n)) 1) := fr_s (fr_s (fr_s (fr_s f (by simp)) (by simp)) (by simp)) (by simp)
      generalize hπ : zs (zs (zs (zs ρ 85 0 (ng (z σ 83 n))) 70 16 1) 70 18 0) 84 (gt (z σ 83 n)) 1 = π at F1 ⊢
      have p84 : ∀ q, z π 84 q ≠ 0 → q = gt (z σ 83 n) := fun q hq => by
        rw [← hπ, z_if ⟨by decide, by decide⟩] at hq
        by_cases c2 : q = gt (z σ 83 n)
        · exact c2
        · rw [if_neg (fun h => c2 h.2), z_o (by decide), z_o (by decide), z_o (by decide), fz q] at hq
          exact absurd rfl hq
      have p85 : z π 85 0 = ng (z σ 83 n) := by rw [← hπ, z_o (by decide), z_o (by decide), z_o (by decide), z_s (lit_R hs hng)]
      have p16 : z π 70 16 = 1 := by rw [← hπ, z_o (by decide), z_k (by decide), z_s ⟨by decide, by decide⟩]
      have p18 : z π 70 18 = 0 := by rw [← hπ, z_o (by decide), z_s ⟨by decide, by decide⟩]
      have pk : ∀ k, k ≠ 16 → k ≠ 18 → z π 70 k = z σ 70 k := fun k h1 h2 => by rw [← hπ, z_o (by decide), z_k h2, z_k h1, z_o (by decide)]; exact fk k h1 h2
      have Eπ := fr_E F1 hE
      have e2 : ∀ {a}, a ∉ [70, 75, 76, 77, 84, 85, 86] → z π a = z σ a := fun h => fr_zF F1 h
      have CX1 : CX s top cs Ws π := by unfold CX; rw [e2 (by decide), e2 (by decide), e2 (by decide)]; exact hx
      have TX1 : TX s ts lv cs π := ⟨by rw [pk 6 (by decide) (by decide)]; exact t6, by rw [pk 10 (by decide) (by decide)]; exact t10, h12, by rw [e2 (by decide), e2 (by decide), e2 (by decide), e2 (by decide), e2 (by decide), e2 (by decide)]; exact hT⟩
      have TI0 : TI2 s ts lv 1 0 j 0 False cs π π ts 1 0 0 := by
        refine ⟨fr_refl, fun _ _ _ => rfl, by rw [p16]; rfl, by rw [p18]; rfl, ⟨fun q hq => ⟨j, hj, ?_, ?_⟩, fun i h1 h2 => absurd h2 (by omega), fun i k p q h1 h2 h3 => absurd h3 (by omega), fun i hi => absurd hi (by omega), fun i h1 h2 => absurd h2 (by omega), fun i k p q h1 h2 h3 => absurd h3 (by omega), ⟨by omega, by omega⟩, ⟨by omega, by omega⟩⟩, fun q => absurd q id, fun q => absurd rfl q, fun _ i h1 h2 => absurd h2 (by omega), fun i _ => rfl, fun i _ => rfl, fun _ => ⟨hj, Or.inl ?_, fun q hq => ⟨j, Nat.le_refl _, ?_⟩, fun k hk => absurd hk (by omega)⟩⟩
        · rw [e2 (show (81 : Nat) ∉ [70, 75, 76, 77, 84, 85, 86] by decide), p84 q hq, ej, gt_ng]
        · rw [e2 (show (79 : Nat) ∉ [70, 75, 76, 77, 84, 85, 86] by decide), p84 q hq]; exact cl
        · rw [e2 (show (81 : Nat) ∉ [70, 75, 76, 77, 84, 85, 86] by decide), ej, gt_ng, ← hπ, z_s ⟨by decide, by decide⟩]; decide
        · rw [e2 (show (81 : Nat) ∉ [70, 75, 76, 77, 84, 85, 86] by decide), p84 q hq, ej, gt_ng]
      refine s_trace2 (P := False) (ls0 := 1) (hc0 := 0) (jx := j) (by omega) Eπ hs CX1 TX1 l1 (by omega) (by omega) ⟨by decide, by decide⟩ TI0 (fun μ k ls hc x hI hz hn1 => ?_)
      obtain ⟨g0, gk, g16, g18, hC, -, -, hD, hB, -, hA⟩ := hI
      have F2 : fr [70, 75, 76, 77, 84, 85, 86] σ μ := fr_trans F1 (fr_mono g0 (by simp))
      have q1 := hC.2.2.2.2.2.2.1
      have q2 := hC.2.2.2.2.2.2.2
      refine b_So_checkModel_112 (fr_E F2 hE) ?_
      rw [g16, g18]
      -- the reason of what was denied comes first
      obtain ⟨A0, A1, A2, A3⟩ := hA rfl
      rw [e2 (show (72 : Nat) ∉ [70, 75, 76, 77, 84, 85, 86] by decide), e2 (show (78 : Nat) ∉ [70, 75, 76, 77, 84, 85, 86] by decide), e2 (show (79 : Nat) ∉ [70, 75, 76, 77, 84, 85, 86] by decide), e2 (show (80 : Nat) ∉ [70, 75, 76, 77, 84, 85, 86] by decide), e2 (show (81 : Nat) ∉ [70, 75, 76, 77, 84, 85, 86] by decide)] at hC
      rw [e2 (show (80 : Nat) ∉ [70, 75, 76, 77, 84, 85, 86] by decide)] at hD
      rw [e2 (show (80 : Nat) ∉ [70, 75, 76, 77, 84, 85, 86] by decide), e2 (show (81 : Nat) ∉ [70, 75, 76, 77, 84, 85, 86] by decide)] at A1 A3
      have rj : z σ 80 (gt (z σ 81 j)) ≠ 0 := fun q => by
        have e3 := TR_dec hT hj (by rw [ej, gt_ng]; exact cl) q
        obtain ⟨i, i1, i2, -⟩ := hDW (z σ 79 (gt (z σ 81 j))).toNat (by rw [ej, gt_ng]; omega) (by rw [ej, gt_ng]; omega)
        rw [← e3, Int.toNat_natCast, ej] at i2
        by_cases ii : i = n
        · rw [ii] at i2; exact ng_ne _ i2
        · have gg : gt (z σ 83 i) = gt (z σ 83 n) := by rw [← i2, gt_ng]
          rcases Nat.lt_or_gt_of_ne ii with q1 | q1
          · exact w3 i n q1 (by omega) gg
          · exact w3 n i q1 i1 gg.symm
      obtain ⟨k0, k01, k02⟩ : ∃ k, k < hc ∧ z μ 86 k = z σ 80 (gt (z σ 81 j)) := by
        rcases A1 with q | ⟨k, k1, k2, k3⟩ | q
        · exact absurd (hz _) q
        · have := hD rfl k k1 k2
          rw [k3, gt_ng] at this
          exact absurd this rj
        · exact q
      have h86 : z μ 86 0 = z σ 80 (gt (z σ 81 j)) := by
        obtain ⟨p, p1, p2, p3⟩ := A3 0 (by omega)
        by_cases kk0 : k0 = 0
        · rw [kk0] at k02; exact k02
        · have := hC.2.2.2.2.2.1 0 k0 p j (Nat.le_refl _) (by omega) k01 (by omega) hj p2 k02
          omega
      have b85 : z μ 85 0 = z σ 81 j := by rw [hB 0 (by omega), p85, ej]
      have e76 : z μ 76 = z ρ 76 := by rw [fr_zF g0 (by decide), ← hπ, z_oF (by decide), z_oF (by decide), z_oF (by decide), z_oF (by decide)]
      have e75 : z μ 75 = z ρ 75 := by rw [fr_zF g0 (by decide), ← hπ, z_oF (by decide), z_oF (by decide), z_oF (by decide), z_oF (by decide)]
      have hclx : ∀ c ∈ cs, ∀ x, inC (z σ 72) c x → lit s x := fun c hm x ⟨i, hi, ei⟩ => by rw [← ei]; exact (hx.2.2.1.1 c hm).2.2.2.1 i hi
      obtain ⟨Y, hY⟩ := TC_Y (P := fun x => z μ 76 x.toNat = 1) hT hclx hC hz (fun i hi h0 => by rw [e76]; exact f76 _ (hpv i hi h0)) (by omega) (fun _ c' ec x xi => by
        rcases hT.2.2.2.2.2.2.1 j hj with q | ⟨c1, m1, q, -, o1, -⟩
        · exact absurd q rj
        · have : c' = c1 := by rw [h86, q] at ec; omega
          subst this
          by_cases ex : x = z σ 81 j
          · exact Or.inr ⟨0, by omega, by rw [b85, ex]⟩
          · obtain ⟨i, hi, ei⟩ := o1 x xi ex
            have := (hT.1 i (by omega)).2.2
            rw [ei, ng_ng] at this
            exact Or.inl this)
      refine k_check2 (s := s) (top := top) (cs := cs) (Ws := Ws) Y (by omega) (fr_E F2 hE) hs ?_ (by omega) (by omega) (fun i hi => ?_) (by rw [fr_zF F2 (show (72 : Nat) ∉ [70, 75, 76, 77, 84, 85, 86] by decide)]; exact hY) (fun ν ft v1 v2 _ => ?_)
      · unfold CX; rw [fr_zF F2 (by decide), fr_zF F2 (by decide), fr_zF F2 (by decide)]; exact hx
      · by_cases q : i = 0
        · rw [q, hB 0 (by omega), p85]; exact hng
        · obtain ⟨p, -, h2, h3, -⟩ := hC.2.1 i (by omega) hi
          rw [h3]; exact ng_lit (hT.1 p h2).1
      · have F3 : fr [70, 75, 76, 77, 84, 85, 86] σ ν := fr_trans F2 (fr_mono ft (by simp))
        refine b_So_checkModel_142 (fr_E F3 hE) ?_
        rw [show (n : Int) + 1 = ((n + 1 : Nat) : Int) by omega]
        exact ih (n + 1) ν (by omega) (by omega) F3 (fun k h1 h2 => by rw [fr_zF ft (by decide), gk k h1 h2]; exact pk k h1 h2) (fun q => by rw [fr_zF ft (by decide)]; exact hz q) (by rw [v1, e75]; exact f75) (fun x hx => v2 x (by rw [e76]; exact f76 x hx))
  exact b_So_checkModel_0 hE (c_allHold2 hE hs hx hAll (b_So_checkModel_11 hE ⟨⟨by decide, by decide⟩, fun _ => l wc 0 σ (by omega) (by omega) fr_refl (fun _ _ _ => rfl) h0 rfl (fun _ h => h), fun q => absurd q (by decide)⟩))
end CkJ
