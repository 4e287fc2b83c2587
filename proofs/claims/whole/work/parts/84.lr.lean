/-! Solver.learn -/
/-- behind learning: one literal more, of a lower level -/
def LR (s ts lv top : Nat) (cs : List Nat) (σ τ : q_H) (k0 ts' top' : Nat) (cs' : List Nat) (Ws' : Nat → List Nat) : Prop :=
  fr [70, 71, 72, 73, 75, 76, 77, 78, 79, 80, 81, 84, 85, 86] σ τ ∧ CX s top' cs' Ws' τ ∧ TX s (ts' + 1) k0 cs' τ ∧ k0 < lv ∧ ts' < ts ∧ (ts' : Int) = z σ 82 (k0 + 1) ∧ z τ 70 7 = (ts' : Int) ∧
  (∀ k, k ≠ 6 → k ≠ 7 → k ≠ 10 → k ≠ 16 → k ≠ 18 → z τ 70 k = z σ 70 k) ∧ WQ (z τ 72) (z τ 78) (z τ 79) (z τ 81) cs' ts' ∧ z τ 79 (gt (z τ 81 ts')) = (k0 : Int) ∧ (1 ≤ k0 → z τ 80 (gt (z τ 81 ts')) ≠ 0) ∧ (∀ g, z τ 84 g = 0) ∧
  (∀ i, i < ts' → z τ 81 i = z σ 81 i ∧ z τ 79 (gt (z σ 81 i)) = z σ 79 (gt (z σ 81 i)) ∧ z τ 80 (gt (z σ 81 i)) = z σ 80 (gt (z σ 81 i))) ∧ (∀ j, j < top → z τ 72 j = z σ 72 j) ∧
  ((k0 = 0 ∧ top' = top ∧ cs' = cs) ∨ ∃ ls, 2 ≤ ls ∧ top' = top + 3 + ls ∧ cs' = top :: cs ∧ z τ 72 top = (ls : Int) ∧ (top' ≤ 270000 ∨ (ls ≤ 12 ∧ (∀ j, j < ls → ∃ p, p < ts ∧ z τ 72 (top + 3 + j) = ng (z σ 81 p) ∧ z σ 80 (gt (z σ 81 p)) = 0 ∧ 1 ≤ z σ 79 (gt (z σ 81 p))) ∧ ∀ a ∈ cs, 2 ≤ z σ 72 a → ¬ ∀ x, inC (z σ 72) a x → ∃ j, j < ls ∧ z τ 72 (top + 3 + j) = x)))
section LrJ
variable {ω : q_W} {d s top ts lv : Nat} {cs : List Nat} {Ws : Nat → List Nat} {σ : q_H}
theorem s_learn {K : Int → q_H → Prop} {c dn : Nat} (hd : 4 ≤ d) (hE : q_E σ) (hs : s ≤ 10240) (hx : CX s top cs Ws σ) (hX : TX s ts lv cs σ) (hm : c ∈ cs) (hden : ∀ x, inC (z σ 72) c x → z σ 78 x.toNat = -1) (hlv : 1 ≤ lv → ∃ x, inC (z σ 72) c x ∧ z σ 79 (gt x) = (lv : Int)) (h0 : ∀ g, z σ 84 g = 0) (hroom : top + 15 ≤ 360000) (hQ : 1 ≤ lv → WQ (z σ 72) (z σ 78) (z σ 79) (z σ 81) cs dn ∧ z σ 82 lv ≤ (dn : Int))
    (k0 : lv = 0 → ∀ τ, fr [70, 75, 76, 77, 84, 85, 86] σ τ → (∀ g, z τ 84 g = 0) → (∀ k, k ≠ 16 → k ≠ 18 → z τ 70 k = z σ 70 k) → K 0 τ)
    (k1 : 1 ≤ lv → ∀ (τ : q_H) (k0 ts' top' : Nat) (cs' : List Nat) (Ws' : Nat → List Nat), LR s ts lv top cs σ τ k0 ts' top' cs' Ws' → K 1 τ) :
    J ω m_So_learn d 0 0 0 0 0 [(0, .ref 70), (1, .int (zI (c : Int)))] [] σ (q_ki K) := by
  obtain ⟨d, rfl⟩ : ∃ k, d = k + 1 := ⟨d - 1, by omega⟩
  obtain ⟨t6, t10, h12, hT⟩ := id hX
  have hlen := TR_len hT
  have htop := hx.2.1
  refine s_analyse (by omega) hE hs hx hX hm hden hlv h0 (fun l0 τ f f16 fz fk => ?_) (fun l1 τ n ls hc S Hi f f16 fz fk hC hF hS hw => ?_)
  · refine b_So_learn_65 (fr_E f hE) ?_
    rw [f16]
    exact ⟨fun q => absurd rfl q, fun _ => ⟨0, ⟨by decide, by decide⟩, rfl, k0 l0 τ f fz fk⟩⟩
  · obtain ⟨hQ1, hQ2⟩ := hQ l1
    have e : ∀ {a}, a ∉ [70, 75, 76, 77, 84, 85, 86] → z τ a = z σ a := fun h => fr_zF f h
    have Eτ := fr_E f hE
    have CX1 : CX s top cs Ws τ := by unfold CX; rw [e (by decide), e (by decide), e (by decide)]; exact hx
    have TX1 : TX s ts lv cs τ := ⟨by rw [fk 6 (by decide) (by decide)]; exact t6, by rw [fk 10 (by decide) (by decide)]; exact t10, h12, by rw [e (by decide), e (by decide), e (by decide), e (by decide), e (by decide), e (by decide)]; exact hT⟩
    have q1 := hC.2.2.2.2.2.2.1
    -- one literal of this level, the first
    obtain ⟨g1, g2, -, g4⟩ : 1 ≤ ls ∧ z σ 79 (gt (z τ 85 0)) = (lv : Int) ∧ (∀ g, S g ≠ 0 → z σ 79 g ≠ (lv : Int)) ∧ ∀ j, 1 ≤ j → j < ls → z σ 79 (gt (z τ 85 j)) < (lv : Int) := by
      rcases hF with ⟨-, i, -, q, -⟩ | q
      · exact absurd (hS _) q
      · exact q
    have pos := hC.2.1
    obtain ⟨p0, -, p01, p02, p03⟩ := pos 0 (Nat.le_refl _) (by omega)
    have lits : ∀ j, j < ls → lit s (z τ 85 j) := fun j hj => by
      obtain ⟨p, -, h2, h3, -⟩ := pos j (Nat.zero_le _) hj
      rw [h3]; exact ng_lit (hT.1 p h2).1
    have dist : ∀ i j, i < j → j < ls → z τ 85 i ≠ z τ 85 j := fun i j hij hj q => by
      obtain ⟨p, -, h2, h3, -⟩ := pos i (Nat.zero_le _) (by omega)
      obtain ⟨p', -, h2', h3', -⟩ := pos j (Nat.zero_le _) hj
      have := hC.2.2.1 i j p p' (Nat.zero_le _) hij hj h2 h2' h3 h3'
      have : p = p' := TR_inj hT h2 h2' (by rw [← gt_ng (z σ 81 p), ← gt_ng (z σ 81 p'), ← h3, ← h3', q])
      omega
    -- going back to a level
    have back : ∀ kb : Nat, kb < lv → ((ls = 1 ∧ kb = 0) ∨ (2 ≤ ls ∧ z σ 79 (gt (z τ 85 1)) = (kb : Int))) → J ω m_So_learn (d + 1) 0 0 0 0 100 [(0, .ref 70)] [.int (zI (kb : Int)), .ref 70] τ (q_ki K) := by
      intro kb hkb hls
      refine b_So_learn_100 Eτ (s_backTo Eτ hs TX1 ⟨by omega, by omega⟩ (fun q => absurd q (by omega)) (fun _ ρ ts' ht' hlt fb TXb b7 bk bv bz => ?_))
      have F1 : fr [70, 75, 76, 77, 78, 84, 85, 86] σ ρ := fr_trans (fr_mono f (by simp)) (fr_mono fb (by simp))
      have Eρ := fr_E F1 hE
      have r16 : z ρ 70 16 = (ls : Int) := by rw [bk 16 (by decide) (by decide) (by decide)]; exact f16
      have r85 : z ρ 85 = z τ 85 := fr_zF fb (by decide)
      have r81 : z ρ 81 = z σ 81 := fr_zF F1 (by decide)
      have r79 : z ρ 79 = z σ 79 := fr_zF F1 (by decide)
      have r80 : z ρ 80 = z σ 80 := fr_zF F1 (by decide)
      have r72 : z ρ 72 = z σ 72 := fr_zF F1 (by decide)
      have e82 : z τ 82 = z σ 82 := e (by decide)
      have e81 : z τ 81 = z σ 81 := e (by decide)
      have e78 : z τ 78 = z σ 78 := e (by decide)
      rw [e82] at ht'
      rw [e81, e78] at bv
      rw [e81] at bz
      have CXb : CX s top cs Ws ρ := by unfold CX; rw [fr_zF F1 (by decide), fr_zF F1 (by decide), fr_zF F1 (by decide)]; exact hx
      have hTb := TXb.2.2.2
      have tb10 := TXb.2.1
      obtain ⟨f1, f2, f3⟩ := hT.2.2.2.2.1 (kb + 1) (by omega) (by omega)
      have hdn2 : ts' ≤ dn := by have := St_le hT (a := kb + 1) (b := lv) (by omega) (by omega) (Nat.le_refl _); omega
      have Qb : WQ (z ρ 72) (z ρ 78) (z ρ 79) (z ρ 81) cs ts' := by
        rw [r72, r79, r81]
        exact WQ_back hT hx.2.2.1 hkb ht' hdn2 hQ1 bv
      -- the first is free now
      have l0 := lits 0 (by omega)
      have v0 : z ρ 78 (z τ 85 0).toNat = 0 := by
        have := (f3 p0 p01).mp (by rw [← gt_ng (z σ 81 p0), ← p02, g2]; omega)
        have := (bz p0 (by omega) p01).2
        rw [p02]; exact this
      refine b_So_learn_103 Eρ ?_
      rw [r16, r85]
      refine ⟨fun c1 => ?_, fun c1 => ?_⟩
      · -- a fact
        have hk0 : kb = 0 := by omega
        subst hk0
        refine s_assign Eρ hs l0 ⟨by decide, by decide⟩ TXb.1 (by omega) (fun π fa t78 t79 t80 t81 tt6 tk => ?_)
        have F2 : fr [70, 71, 72, 73, 75, 76, 77, 78, 79, 80, 81, 84, 85, 86] σ π := fr_trans (fr_mono F1 (by simp)) (fr_mono fa (by simp))
        have u72 : z π 72 = z ρ 72 := fr_zF fa (by decide)
        have u82 : z π 82 = z ρ 82 := fr_zF fa (by decide)
        rw [tb10] at t79
        have hTR := TR_assign (r := 0) hTb l0 v0 (fun _ _ _ => Or.inr trivial) (Or.inl rfl) (fun q => absurd q (by decide))
        refine b_So_learn_140 (fr_E F2 hE) ⟨1, ⟨by decide, by decide⟩, rfl, k1 l1 π 0 ts' top cs Ws ⟨F2, ?_, ⟨by rw [tt6]; omega, by rw [tk 10 (by decide)]; exact tb10, by omega, by rw [u72, t78, t79, t80, t81, u82]; exact hTR⟩, hkb, hlt, ht', by rw [tk 7 (by decide)]; exact b7, fun k a1 a2 a3 a4 a5 => by rw [tk k a1, bk k a1 a2 a3]; exact fk k a4 a5, ?_, by rw [t79, t81, up_s, up_s], fun q => absurd q (by decide), fun g => by rw [fr_zF fa (by decide), fr_zF fb (by decide)]; exact fz g, fun i hi => ?_, fun j _ => by rw [u72, r72], Or.inl ⟨rfl, rfl, rfl⟩⟩⟩
        · unfold CX; rw [fr_zF fa (by decide), fr_zF fa (by decide), fr_zF fa (by decide)]; exact CXb
        · rw [u72, t78, t79, t81]
          exact WQ_assign hTb CXb.2.2.1 l0 v0 (Nat.le_refl _) Qb
        · have hti := hTb.1 i hi
          have g := (AS_o hTb l0 v0 hti.1 (by rw [hti.2.1]; decide)).1
          rw [r81] at g
          rw [t79, t80, t81, up_n (by omega), up_n g, up_n g, r79, r80, r81]
          exact ⟨rfl, rfl, rfl⟩
      · -- a clause
        have hls2 : 2 ≤ ls ∧ z σ 79 (gt (z τ 85 1)) = (kb : Int) := by
          rcases hls with q | q
          · omega
          · exact q
        obtain ⟨hl2, hk1⟩ := hls2
        obtain ⟨p1, -, p11, p12, p13⟩ := pos 1 (Nat.zero_le _) (by omega)
        have far : top + 100243 < 360000 ∨ ls ≤ 12 := by
          rcases hw with w | w
          · exact Or.inl w
          · have := far_len hT hC w; exact Or.inr (by omega)
        -- the others stay denied
        have rest : ∀ j, 1 ≤ j → j < ls → z ρ 78 (z τ 85 j).toNat = -1 := fun j h1 h2 => by
          obtain ⟨p, -, h3, h4, -⟩ := pos j (Nat.zero_le _) h2
          have hp : p ≤ p1 := by
            by_cases q : j = 1
            · subst q
              have : p = p1 := TR_inj hT h3 p11 (by rw [← gt_ng (z σ 81 p), ← gt_ng (z σ 81 p1), ← h4, ← p12])
              omega
            · have := hC.2.2.1 1 j p1 p (Nat.zero_le _) (by omega) h2 p11 h3 p12 h4
              omega
          have m1 := TR_mono hT hp p11
          rw [← gt_ng (z σ 81 p1), ← p12, hk1] at m1
          have hpt : p < ts' := by
            by_cases q : p < ts'
            · exact q
            · have := (f3 p h3).mpr (by omega); omega
          have := (hTb.1 p hpt).2.2
          rw [r81] at this
          rw [h4]; exact this
        refine c_add (s := s) (top := top) (cs := cs) (Ws := Ws) (l := 85) (nl := 10240) (k := ls) (by omega) Eρ (tg_85 Eρ) (q_okE Eρ (by decide)) (by decide) ⟨by decide, by decide, by decide⟩ hs CXb (by omega) (by omega) (fun i hi => by rw [r85]; exact lits i hi) (fun i j h1 h2 => by rw [r85]; exact dist i j h1 h2) (fun π W2 fa CXa ma mt ml => ?_)
        rw [r85] at ml
        rw [r72] at ma
        have F2 : fr [70, 71, 72, 73, 75, 76, 77, 78, 84, 85, 86] σ π := fr_trans (fr_mono F1 (by simp)) (fr_mono fa (by simp))
        have Eπ := fr_E F2 hE
        have w : ∀ {a}, a ∉ [71, 72, 73] → z π a = z ρ a := fun h => fr_zF fa h
        have inq : ∀ a ∈ cs, ∀ x, inC (z π 72) a x ↔ inC (z ρ 72) a x := fun a ha x => by
          obtain ⟨b1, b2, b3, -⟩ := CXb.2.2.1.1 a ha
          rw [r72] at b2 b3
          unfold inC
          rw [r72, ma a (by omega)]
          constructor
          · rintro ⟨i, hi, ei⟩; exact ⟨i, hi, by rw [← ma _ (by omega)]; exact ei⟩
          · rintro ⟨i, hi, ei⟩; exact ⟨i, hi, by rw [ma _ (by omega)]; exact ei⟩
        have hTa : TRp s ts' kb (z π 72) (top :: cs) (z ρ 78) (z ρ 79) (z ρ 80) (z ρ 81) (z ρ 82) := TR_cl hTb (fun a ha => ⟨List.mem_cons_of_mem _ ha, inq a ha⟩)
        refine b_So_learn_133 Eπ (s_assign Eπ hs l0 ⟨by omega, by omega⟩ (by rw [w (by decide)]; exact TXb.1) (by omega) (fun μ fb2 t78 t79 t80 t81 tt6 tk => ?_))
        rw [w (by decide)] at t78 t79 t80 t81
        rw [w (by decide), tb10] at t79
        have F3 : fr [70, 71, 72, 73, 75, 76, 77, 78, 79, 80, 81, 84, 85, 86] σ μ := fr_trans (fr_mono F2 (by simp)) (fr_mono fb2 (by simp))
        have u72 : z μ 72 = z π 72 := fr_zF fb2 (by decide)
        have u82 : z μ 82 = z ρ 82 := (fr_zF fb2 (by decide)).trans (w (by decide))
        have m0 : z π 72 (top + 3 + 0) = z τ 85 0 := ml 0 (by omega)
        have m1 : z π 72 (top + 3 + 1) = z τ 85 1 := ml 1 (by omega)
        have cin : ∀ y, inC (z π 72) top y → ∃ j, j < ls ∧ z τ 85 j = y := fun y ⟨i, hi, ei⟩ => by
          rw [mt] at hi
          exact ⟨i, by omega, by rw [← ml i (by omega)]; exact ei⟩
        have hTR := TR_assign (r := (top : Int)) hTa l0 v0 (fun _ _ _ => Or.inr trivial) (Or.inr ⟨top, List.mem_cons_self .., rfl, htop.1, ⟨0, by rw [mt]; omega, m0⟩, fun y hy hne => by
            obtain ⟨j, hj, ej⟩ := cin y hy
            have : j ≠ 0 := fun q => hne (by rw [← ej, q])
            rw [← ej]
            exact ⟨lits j hj, rest j (by omega) hj⟩, fun _ => ⟨z τ 85 1, ⟨1, by rw [mt]; omega, m1⟩, fun q => dist 0 1 (by omega) (by omega) q.symm, by rw [r79]; exact hk1⟩⟩) (fun _ => by omega)
        refine b_So_learn_140 (fr_E F3 hE) ⟨1, ⟨by decide, by decide⟩, rfl, k1 l1 μ kb ts' (top + 3 + ls) (top :: cs) W2 ⟨F3, ?_, ⟨by rw [tt6]; omega, by rw [tk 10 (by decide), w (by decide)]; exact tb10, by omega, by rw [u72, t78, t79, t80, t81, u82]; exact hTR⟩, hkb, hlt, ht', by rw [tk 7 (by decide), w (by decide)]; exact b7, fun k a1 a2 a3 a4 a5 => by rw [tk k a1, w (by decide), bk k a1 a2 a3]; exact fk k a4 a5, ?_, by rw [t79, t81, up_s, up_s], fun _ => by rw [t80, t81, up_s, up_s]; omega, fun g => by rw [fr_zF fb2 (by decide), w (by decide), fr_zF fb (by decide)]; exact fz g, fun i hi => ?_, fun j hj => by rw [u72]; exact ma j hj, Or.inr ⟨ls, hl2, rfl, rfl, by rw [u72]; exact mt, ?_⟩⟩⟩
        · unfold CX; rw [fr_zF fb2 (by decide), fr_zF fb2 (by decide), fr_zF fb2 (by decide)]; exact CXa
        · rw [u72, t78, t79, t81]
          refine WQ_new hTb CXb.2.2.1 l0 v0 Qb (fun j hj => by rw [r72]; exact ma j hj) m0 ?_ ?_ ?_
          · rw [show top + 4 = top + 3 + 1 by rfl, m1]; exact lits 1 (by omega)
          · rw [show top + 4 = top + 3 + 1 by rfl, m1]; exact rest 1 (by omega) (by omega)
          · rw [show top + 4 = top + 3 + 1 by rfl, m1, r79]; exact hk1
        · have hti := hTb.1 i hi
          have g := (AS_o hTb l0 v0 hti.1 (by rw [hti.2.1]; decide)).1
          rw [r81] at g
          rw [t79, t80, t81, up_n (by omega), up_n g, up_n g, r79, r80, r81]
          exact ⟨rfl, rfl, rfl⟩
        · rcases hw with q | q
          · exact Or.inl (by omega)
          · have hl12 := far_len hT hC q
            refine Or.inr ⟨by omega, fun j hj => ?_, fun a ha h2a hall => ?_⟩
            · obtain ⟨p, -, h3, h4, h5⟩ := pos j (Nat.zero_le _) hj
              have := q j (Nat.zero_le _) hj
              rw [h4, gt_ng] at this
              exact ⟨p, h3, by rw [u72, ml j hj]; exact h4, this, h5⟩
            · obtain ⟨-, -, -, -, b5, -⟩ := hx.2.2.1.1 a ha
              refine far_new hT hC q hQ1 hQ2 ha h2a (b5 0 1 (by omega) (by omega)) (fun x hx2 => ?_)
              obtain ⟨j, hj, ej⟩ := hall x hx2
              rw [u72, ml j hj] at ej
              exact ⟨j, hj, ej⟩
    refine b_So_learn_65 Eτ ?_
    rw [f16]
    refine ⟨fun _ => ⟨fun c1 => back 0 (by omega) (Or.inl ⟨by omega, rfl⟩), fun c1 => ?_⟩, fun c1 => absurd c1 (by omega)⟩
    have l1' := lits 1 (by omega)
    have gs := gt_sh hs l1'
    rw [gs.1, e (show (79 : Nat) ∉ [70, 75, 76, 77, 84, 85, 86] by decide)]
    obtain ⟨p1, -, p11, p12, p13⟩ := pos 1 (Nat.zero_le _) (by omega)
    have hk := g4 1 (by omega) (by omega)
    have hk2 : 1 ≤ z σ 79 (gt (z τ 85 1)) := by rw [p12, gt_ng]; exact p13
    obtain ⟨kb, ekb⟩ : ∃ kb : Nat, z σ 79 (gt (z τ 85 1)) = (kb : Int) := ⟨(z σ 79 (gt (z τ 85 1))).toNat, by omega⟩
    rw [ekb]
    exact ⟨⟨gs.2.1, gs.2.2⟩, back kb (by omega) (Or.inr ⟨by omega, ekb⟩)⟩
end LrJ
