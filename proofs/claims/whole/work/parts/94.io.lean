/-! INQUIRY, safety: pose, look, and what asks many times -/
section IoJ
variable {ω : q_W} {d p s0 s : Nat} {σ σ0 : q_H}
theorem IS_fr {τ : q_H} {S : List Nat} (hp : p = 16 ∨ p = 29) (h : IS p s0 s σ0 σ) (f : fq S σ τ) (hS : ∀ a ∈ S, a ∈ [70, 71, 72, 73, 74, 75, 76, 77, 78, 79, 80, 81, 82, 83, 85, 86, 87, 88, 89, 90, 91, 93]) : IS p s0 s σ0 τ := by
  obtain ⟨hQ, h84, hR, f0⟩ := h
  have f1 : fq [70, 71, 72, 73, 74, 75, 76, 77, 78, 79, 80, 81, 82, 83, 85, 86, 87, 88, 89, 90, 91, 93] σ τ := fq_mono f hS
  exact ⟨QS_fq hp hQ (fq_mono f1 (by unfold SIn; simp)), fun g => by rw [fq_z f1 (by decide)]; exact h84 g, RS_fr hR f1 (by decide) (by decide), fq_trans f0 (fq_mono f1 (by unfold SQ; simp))⟩
theorem i_pose {K : q_H → Prop} (hd : 7 ≤ d) (hp : p = 16 ∨ p = 29) (h : IS p s0 s σ0 σ) (kk : ∀ τ wc rq, PSt p s0 s wc rq σ0 τ → rq ≤ 64 → z τ 47 = z σ 47 → K τ) : J ω m_In_pose d 0 0 0 0 0 [(0, .ref 47)] [] σ (q_kv K) := by
  obtain ⟨d, rfl⟩ : ∃ k, d = k + 1 := ⟨d - 1, by omega⟩
  obtain ⟨hQ, h84, ⟨rc, dm, e1, e2, e3, e4, e5⟩, f⟩ := id h
  obtain ⟨⟨hE, r1, r2⟩, gp, hci, hs0, h7, -, -, -, -, hI⟩ := id hQ
  have hs := hci.2.1.2
  generalize hw : z σ (p + 1) = w
  generalize hn : z σ p 0 = n
  obtain ⟨⟨w1, w2, w3, w4⟩, ⟨b1, b2, b3⟩, -⟩ := id gp
  rw [hn] at b1 b3 w1
  rw [hw] at b3
  have wpos : ∀ i : Nat, (i : Int) < n → 1 ≤ w i ∧ w i ≤ 8 := fun i hi => by have := w3 i (by omega); rw [hw] at this; exact this
  have nn : ∀ i, i < n.toNat → 0 ≤ w i := fun i hi => by have := wpos i (by omega); omega
  have smb : ∀ i : Nat, (i : Int) < n → 0 ≤ sm w i ∧ sm w i + w i ≤ 12 := fun i hi => by
    have g1 := sm_le (f := w) (n := n.toNat) nn (n.toNat - (i + 1)) (i + 1) (by omega)
    rw [show i + 1 + (n.toNat - (i + 1)) = n.toNat by omega] at g1
    have g2 : sm w (i + 1) = sm w i + w i := rfl
    have g3 := sm_le (f := w) (n := n.toNat) nn i 0 (by omega)
    rw [Nat.zero_add] at g3
    have g4 : sm w 0 = 0 := rfl
    omega
  -- what is demanded
  have g88 : ∀ (m i : Nat) (ρ : q_H) (wc rq : Nat), dm ≤ i + m → i ≤ dm → PSt p s0 s wc rq σ0 ρ → rq ≤ 4 * i → z ρ 47 = z σ 47 → z ρ 92 = z σ 92 → J ω m_In_pose (d + 1) 0 0 0 0 88 [(0, .ref 47), (1, .int (zI (i : Int)))] [] ρ (q_kv K) := by
    intro m
    induction m with
    | zero =>
      intro i ρ wc rq a1 a2 a3 a4 a5 a6
      refine b_In_pose_88 hp a3.1.1.1.2.1 a3.1.1.1.1 ?_
      rw [a5, e3]
      exact ⟨⟨by omega, by omega⟩, fun _ => ⟨rfl, kk ρ wc rq a3 (by omega) a5⟩, fun c => absurd c (by omega)⟩
    | succ m ih =>
      intro i ρ wc rq a1 a2 a3 a4 a5 a6
      refine b_In_pose_88 hp a3.1.1.1.2.1 a3.1.1.1.1 ?_
      rw [a5, e3, a6, Int.toNat_natCast]
      refine ⟨⟨by omega, by omega⟩, fun _ => ⟨rfl, kk ρ wc rq a3 (by omega) a5⟩, fun c => ⟨⟨by omega, by omega⟩, ?_⟩⟩
      have lx := e5 i (by omega)
      have F : fr [93] ρ (zs ρ 93 0 (z σ 92 i)) := fr_s fr_refl (by simp)
      obtain ⟨hI2, ts, dn, top, cs, Ws, Fl, hS⟩ := a3
      refine i_require (sz := 1) (by omega) hp (Or.inl ⟨IS_fr hp hI2 (fq_of F) (by simp), ts, dn, top, cs, Ws, Fl, SC_fr hS F (by decide)⟩) (by omega) (by decide) (fun j hj => ?_) (fun τ hτ ft => ?_)
      · rw [show j = 0 by omega, z_s (lit_R hs lx)]; exact lx
      · refine b_In_pose_120 hp hτ.1.1.1.2.1 hτ.1.1.1.1 ?_
        rw [show (i : Int) + 1 = ((i + 1 : Nat) : Int) by omega]
        exact ih (i + 1) τ wc (rq + 3 + 1) (by omega) (by omega) hτ (by omega) (by rw [fr_zF ft (by decide), z_oF (by decide)]; exact a5) (by rw [fr_zF ft (by decide), z_oF (by decide)]; exact a6)
  -- the wishes
  have g24 : ∀ (m i : Nat) (ρ : q_H) (wc top : Nat) (cs : List Nat) (Ws : Nat → List Nat), 12 ≤ i + m → (i : Int) ≤ n → fq [70, 71, 72, 73, 74, 76, 78, 79, 80, 81, 83] σ ρ → SC s 1 0 wc 0 top cs Ws [] ρ → (wc : Int) = sm w i → (∀ k, k < wc → (gt (z ρ 83 k) : Int) < 1 + sm w i) → J ω m_In_pose (d + 1) 0 0 0 0 24 [(0, .ref 47), (1, .int (zI (i : Int)))] [] ρ (q_kv K) := by
    intro m
    have done : ∀ (ρ : q_H) (wc top : Nat) (cs : List Nat) (Ws : Nat → List Nat), fq [70, 71, 72, 73, 74, 76, 78, 79, 80, 81, 83] σ ρ → SC s 1 0 wc 0 top cs Ws [] ρ → J ω m_In_pose (d + 1) 0 0 0 0 88 [(0, .ref 47), (1, .int (zI 0))] [] ρ (q_kv K) := fun ρ wc top cs Ws a1 a2 =>
      g88 dm 0 ρ wc 0 (by omega) (by omega) ⟨IS_fr hp h a1 (by simp), 1, 0, top, cs, Ws, [], a2⟩ (by omega) (fq_z a1 (by decide)) (fq_z a1 (by decide))
    induction m with
    | zero =>
      intro i ρ wc top cs Ws a1 a2 a3 a4 a5 a6
      have Q := (IS_fr hp h a3 (by simp)).1.1
      refine b_In_pose_24 hp Q.2.1 Q.1 ?_
      rw [fq_z a3 (show p ∉ _ by simp; omega), hn]
      exact ⟨⟨by omega, by omega⟩, fun _ => done ρ wc top cs Ws a3 a4, fun c => absurd c (by omega)⟩
    | succ m ih =>
      intro i ρ wc top cs Ws a1 a2 a3 a4 a5 a6
      have Q := (IS_fr hp h a3 (by simp)).1.1
      refine b_In_pose_24 hp Q.2.1 Q.1 ?_
      rw [fq_z a3 (show p ∉ _ by simp; omega), hn, fq_z a3 (show p + 1 ∉ _ by simp; omega), hw, Int.toNat_natCast]
      refine ⟨⟨by omega, by omega⟩, fun _ => done ρ wc top cs Ws a3 a4, fun c => ⟨⟨by omega, by omega⟩, ?_⟩⟩
      have wp := wpos i (by omega)
      have sb := smb i (by omega)
      have l : ∀ (k : Nat) (x2 : Int) (ρ : q_H) (wc : Nat), x2 + 1 ≤ (k : Int) → -1 ≤ x2 → x2 < w i → fq [70, 71, 72, 73, 74, 76, 78, 79, 80, 81, 83] σ ρ → SC s 1 0 wc 0 top cs Ws [] ρ → (wc : Int) = sm w i + (w i - 1 - x2) → (∀ k, k < wc → (gt (z ρ 83 k) : Int) < 1 + sm w i ∨ (1 + sm w i + x2 < (gt (z ρ 83 k) : Int) ∧ (gt (z ρ 83 k) : Int) < 1 + sm w i + w i)) → J ω m_In_pose (d + 1) 0 0 0 0 47 [(0, .ref 47), (1, .int (zI (i : Int))), (2, .int (zI x2))] [] ρ (q_kv K) := by
        intro k
        have out : ∀ (x2 : Int) (ρ : q_H) (wc : Nat), x2 < 0 → -1 ≤ x2 → fq [70, 71, 72, 73, 74, 76, 78, 79, 80, 81, 83] σ ρ → SC s 1 0 wc 0 top cs Ws [] ρ → (wc : Int) = sm w i + (w i - 1 - x2) → (∀ k, k < wc → (gt (z ρ 83 k) : Int) < 1 + sm w i ∨ (1 + sm w i + x2 < (gt (z ρ 83 k) : Int) ∧ (gt (z ρ 83 k) : Int) < 1 + sm w i + w i)) → J ω m_In_pose (d + 1) 0 0 0 0 24 [(0, .ref 47), (1, .int (zI ((i : Int) + 1)))] [] ρ (q_kv K) := fun x2 ρ wc b1 b2 b3 b4 b5 b6 => by
          rw [show (i : Int) + 1 = ((i + 1 : Nat) : Int) by omega]
          have g2 : sm w (i + 1) = sm w i + w i := rfl
          exact ih (i + 1) ρ wc top cs Ws (by omega) (by omega) b3 b4 (by omega) (fun k hk => by have := b6 k hk; omega)
        induction k with
        | zero =>
          intro x2 ρ wc b0 b1 b2 b3 b4 b5 b6
          have Q := (IS_fr hp h b3 (by simp)).1.1
          exact b_In_pose_47 hp Q.2.1 Q.1 ⟨⟨by omega, by omega⟩, fun _ => out x2 ρ wc (by omega) b1 b3 b4 b5 b6, fun c => absurd c (by omega)⟩
        | succ k ih2 =>
          intro x2 ρ wc b0 b1 b2 b3 b4 b5 b6
          have Q := (IS_fr hp h b3 (by simp)).1.1
          refine b_In_pose_47 hp Q.2.1 Q.1 ⟨⟨by omega, by omega⟩, fun c0 => out x2 ρ wc c0 b1 b3 b4 b5 b6, fun c0 => ⟨⟨by omega, by omega⟩, ?_⟩⟩
          have e61 : z ρ 61 ((i : Int) * 8 + x2).toNat = 2 * (1 + sm w i + x2) := by
            rw [fq_z b3 (by decide)]
            have := hI.2.1 i x2.toNat (by omega) (by rw [hw]; omega)
            rw [hw] at this
            rw [show ((i : Int) * 8 + x2).toNat = 8 * i + x2.toNat by omega, this]
            omega
          have ll : lit s (z ρ 61 ((i : Int) * 8 + x2).toNat) := by
            rw [fq_z b3 (by decide)]; exact lit_m (hI.1 _ (by omega)) hs0.2
          rw [zX_ng hs ll]
          have ln := ng_lit ll
          have eg : (gt (ng (z ρ 61 ((i : Int) * 8 + x2).toNat)) : Int) = 1 + sm w i + x2 := by
            rw [gt_ng, e61]; unfold gt; omega
          refine s_wish Q.1 hs b4 (by omega) ln (fun k hk => ?_) (fun τ ft hS e83 _ => ?_)
          · have := b6 k hk
            intro e
            rw [← e] at eg
            omega
          · have b3' := fq_trans b3 (fq_of (fr_mono ft (by simp) : fr [70, 71, 72, 73, 74, 76, 78, 79, 80, 81, 83] ρ τ))
            have Q2 := (IS_fr hp h b3' (by simp)).1.1
            refine b_In_pose_74 hp Q2.2.1 Q2.1 (ih2 (x2 - 1) τ (wc + 1) (by omega) (by omega) (by omega) b3' hS (by omega) (fun k hk => ?_))
            rw [e83]
            by_cases q : k = wc
            · rw [q, up_s]; omega
            · rw [up_n q]; have := b6 k (by omega); omega
      exact l 8 (w i - 1) ρ wc (by omega) (by omega) (by omega) a3 a4 (by omega) (fun k hk => Or.inl (a6 k hk))
  refine b_In_pose_0 hp r1 hE (b_En_circuit_0 hp r2 hE ⟨50, rfl, rfl, b_In_pose_11 hp r1 hE ?_⟩)
  rw [e1]
  refine s_begin (by omega) hE hci e2 e5 h84 (fun τ top cs Ws ft hS => ?_)
  have F : fq [70, 71, 72, 73, 74, 76, 78, 79, 80, 81, 83] σ τ := fq_of (fr_mono ft (by simp))
  have Q := (IS_fr hp h F (by simp)).1.1
  exact b_In_pose_22 hp Q.2.1 Q.1 (g24 12 0 τ 0 top cs Ws (by decide) (by omega) F hS rfl (fun k hk => absurd hk (by omega)))
/-- a model, or none -/
theorem i_look {K : q_H → Prop} {wc rq : Nat} (hd : 7 ≤ d) (hp : p = 16 ∨ p = 29) (h : PSt p s0 s wc rq σ0 σ ∨ LSt p s0 s wc rq σ0 σ) (hrq : rq ≤ 28000)
    (k0 : ∀ τ, IS p s0 s σ0 τ → z τ 47 5 = 0 → K τ) (k1 : ∀ τ, LSt p s0 s wc rq σ0 τ → z τ 47 5 = 1 → K τ) : J ω m_In_look d 0 0 0 0 0 [(0, .ref 47)] [] σ (q_kv K) := by
  obtain ⟨d, rfl⟩ : ∃ k, d = k + 1 := ⟨d - 1, by omega⟩
  obtain ⟨hI, ts, lv, dn, top, cs, Ws, F, hS⟩ : IS p s0 s σ0 σ ∧ ∃ (ts lv dn top : Nat) (cs : List Nat) (Ws : Nat → List Nat) (F : List Nat), SC s ts dn wc rq top cs Ws F σ ∨ SI s ts lv ts wc rq top cs Ws F σ := by
    rcases h with ⟨hI, ts, dn, top, cs, Ws, F, hS⟩ | ⟨hI, ts, lv, top, cs, Ws, F, hS⟩
    · exact ⟨hI, ts, 0, dn, top, cs, Ws, F, Or.inl hS⟩
    · exact ⟨hI, ts, lv, 0, top, cs, Ws, F, Or.inr hS⟩
  obtain ⟨hQ, h84, hR, f⟩ := id hI
  have hs := hQ.2.2.1.2.1.2
  -- the flag
  have flag : ∀ (ρ : q_H) (v : Int), IS p s0 s σ0 ρ → inR v → IS p s0 s σ0 (zs ρ 47 5 v) := fun ρ v q iv => by
    obtain ⟨a1, a2, ⟨rc, dm, c1, c2, c3, c4, c5⟩, a4⟩ := q
    have G : fr [47] ρ (zs ρ 47 5 v) := fr_s fr_refl (by simp)
    exact ⟨QS_fq hp a1 (fq_of (fr_mono G (by unfold SIn; simp))), fun g => by rw [fr_zF G (by decide)]; exact a2 g, ⟨rc, dm, by rw [z_k (by decide)]; exact c1, c2, by rw [z_k (by decide)]; exact c3, c4, by rw [fr_zF G (by decide)]; exact c5⟩, fq_trans a4 (fq_of (fr_mono G (by unfold SQ; simp)))⟩
  have ISf : ∀ τ, SF σ τ → (∀ g, z τ 84 g = 0) → IS p s0 s σ0 τ := fun τ g gz => by
    have G : fq [70, 71, 72, 73, 75, 76, 77, 78, 79, 80, 81, 82, 84, 85, 86] σ τ := fq_of g.1
    exact ⟨QS_fq hp hQ (fq_mono G (by unfold SIn; simp)), gz, RS_fr hR G (by decide) (by decide), fq_trans f (fq_mono G (by unfold SQ; simp))⟩
  refine b_In_look_0 hp hQ.1.2.1 hQ.1.1 (s_searchD (by omega) hQ.1.1 hs hrq (fun τ g gz => ?_) (fun τ ts lv top cs Ws F g hSI _ => ?_) hS)
  · have hτ := ISf τ g gz
    exact b_In_look_8 hp hτ.1.1.2.1 hτ.1.1.1 ⟨Or.inl rfl, ⟨by decide, by decide⟩, fun q => absurd rfl q, fun _ => ⟨rfl, k0 _ (flag τ 0 hτ ⟨by decide, by decide⟩) (z_s ⟨by decide, by decide⟩)⟩⟩
  · have hτ := ISf τ g hSI.2.2.2.2.2.2.1
    have hτ1 := flag τ 1 hτ ⟨by decide, by decide⟩
    have SI1 : SI s ts lv ts wc rq top cs Ws F (zs τ 47 5 1) := SI_fr2 hSI (fr_s fr_refl (show (47 : Nat) ∈ [47] by simp)) (by decide)
    have f5 : z (zs τ 47 5 1) 47 5 = 1 := z_s ⟨by decide, by decide⟩
    refine b_In_look_8 hp hτ.1.1.2.1 hτ.1.1.1 ⟨Or.inr rfl, ⟨by decide, by decide⟩, fun _ => ?_, fun q => absurd q (by decide)⟩
    generalize zs τ 47 5 1 = π at hτ1 SI1 f5 ⊢
    have l : ∀ (m i : Nat) (ρ : q_H), 12 ≤ i + m → (i : Int) ≤ z π p 0 → fr [91] π ρ → J ω m_In_look (d + 1) 0 0 0 0 21 [(0, .ref 47), (1, .int (zI (i : Int)))] [] ρ (q_kv K) := by
      intro m
      have n12 := hτ1.1.2.1.1.1
      have out : ∀ ρ, fr [91] π ρ → J ω m_Ma_execute d 0 0 0 0 0 [(0, .ref 87), (1, .ref p), (2, .ref 91)] [] ρ (q_kv (fun τ => J ω m_In_look (d + 1) 0 0 0 0 72 [] [] τ (q_kv K))) := fun ρ g => by
        have hρ := IS_fr hp hτ1 (fq_of g) (by simp)
        refine m_execute (m := 87) (w := 91) (by omega) (Or.inr rfl) hp (Or.inr rfl) hρ.1.1.1 hρ.1.2.1 (fun μ hM => ?_)
        obtain ⟨m1, m2, m3, m4, mf⟩ := hM
        have G : fq [87, 88, 89, 90, 91] π μ := by
          refine fq_trans (fq_of (fr_mono g (by simp))) ⟨mf.1, mf.2.1, fun o k q => ?_, fun o ho => ?_⟩
          · rw [mf.2.2.1]
            by_cases c1 : o = 87
            · rw [zr_k (fun e => q ⟨c1, Or.inr e⟩), zr_k (fun e => q ⟨c1, Or.inl e⟩)]
            · rw [zr_o c1, zr_o c1]
          · exact mf.2.2.2 o (fun c => ho (by simp at c ⊢; omega))
        have hμ := IS_fr hp hτ1 G (by simp)
        refine b_In_look_72 hp hμ.1.1.2.1 hμ.1.1.1 ⟨rfl, k1 μ ⟨hμ, ts, lv, top, cs, Ws, F, ?_⟩ (by rw [fq_z G (by decide)]; exact f5)⟩
        obtain ⟨a1, a2, a3, a4⟩ := id SI1
        unfold SI CX TX WI at SI1 ⊢
        rw [fq_z G (by decide), fq_z G (by decide), fq_z G (by decide), fq_z G (by decide), fq_z G (by decide), fq_z G (by decide), fq_z G (by decide), fq_z G (by decide), fq_z G (by decide), fq_z G (by decide), fq_z G (by decide)]
        exact SI1
      induction m with
      | zero =>
        intro i ρ a1 a2 g
        have hρ := IS_fr hp hτ1 (fq_of g) (by simp)
        refine b_In_look_21 hp hρ.1.1.2.1 hρ.1.1.1 ?_
        rw [fr_zF g (show p ∉ [91] by simp; omega)]
        exact ⟨⟨by omega, by omega⟩, fun _ => out ρ g, fun c => absurd c (by omega)⟩
      | succ m ih =>
        intro i ρ a1 a2 g
        have hρ := IS_fr hp hτ1 (fq_of g) (by simp)
        refine b_In_look_21 hp hρ.1.1.2.1 hρ.1.1.1 ?_
        rw [fr_zF g (show p ∉ [91] by simp; omega)]
        refine ⟨⟨by omega, by omega⟩, fun _ => out ρ g, fun c => ?_⟩
        refine i_worth (s := s0) (by omega) hp (Or.inl rfl) hρ.1.1.1 hρ.1.1.2.1 (by have := hρ.1.2.2.2.1; omega) (by omega) (Or.inl rfl) hρ.1.2.2.2.2.2.2.2.2.2.1 (fun v iv => b_In_look_50 hp hρ.1.1.2.1 hρ.1.1.1 ⟨⟨by omega, by omega⟩, ?_⟩)
        rw [show (i : Int) + 1 = ((i + 1 : Nat) : Int) by omega]
        exact ih (i + 1) _ (by omega) (by omega) (fr_s g (by simp))
    exact l 12 0 π (by decide) (by have := hτ1.1.2.1.1.1; omega) fr_refl
theorem i_verdict {K : Int → q_H → Prop} {x : Int} (hp : p = 16 ∨ p = 29) (hE : q_E σ) (r1 : q_r σ 47 2 = p) (ix : inR x) (h5 : z σ 47 5 = 0 ∨ z σ 47 5 = 1) (kk : ∀ τ, fr [47] σ τ → (∀ k, k ≠ 10 → z τ 47 k = z σ 47 k) → K (z σ 47 5) τ) : J ω m_In_verdict d 0 0 0 0 0 [(0, .ref 47), (1, .int (zI x))] [] σ (q_ki K) := by
  have a := kk σ fr_refl (fun _ _ => rfl)
  have b := kk (zs σ 47 10 (z σ 47 10 + 1)) (fr_s fr_refl (by simp)) (fun k q => z_k q)
  refine b_In_verdict_0 hp r1 hE ?_
  rcases h5 with e | e
  · rw [e] at a b ⊢
    exact ⟨fun _ => ⟨fun _ => ⟨0, ⟨by decide, by decide⟩, rfl, a⟩, fun q => absurd rfl q⟩, fun q => absurd rfl q⟩
  · rw [e] at a b ⊢
    exact ⟨fun q => absurd q (by decide), fun _ => ⟨ix, fun _ => ⟨fun q => absurd q (by decide), fun _ => ⟨1, ⟨by decide, by decide⟩, rfl, a⟩⟩, fun _ => ⟨fun q => absurd q (by decide), fun _ => ⟨1, ⟨by decide, by decide⟩, rfl, b⟩⟩⟩⟩
end IoJ
