/-! THE CLASS READS STATEMENTS: all of them -/
section AiP
variable {ω : q_W} {d T p h N : Nat} {σ0 σ ρ : q_H}
theorem bnC_e {r : q_PR} {x : Nat} {g : Nat → q_Ex → Option (Except Nat q_Cs)} (h : r = .error x) : bnC r g = some (.error x) := by rw [h]; rfl
theorem bnC_o {r : q_PR} {x : Nat} {e : q_Ex} {g : Nat → q_Ex → Option (Except Nat q_Cs)} (h : r = .ok (x, e)) : bnC r g = g x e := by rw [h]; rfl
/-- an if or a while -/
theorem w_fork {Kk : Int → q_H → Prop} {X : Nat → Nat → q_PR} {V t as w : Nat} {S : List q_Fr} {st : List q_St} {f : Option (Int × Nat)} (hd : 7 ≤ d) (hp : p = 16 ∨ p = 29) (ks : KS T σ0) (hT : z σ0 4 T = 46) (hX : XO X (z σ0 4) (nmI p σ0) (nmB p σ0) T) (hx : PX T p σ0 σ S.length st.length) (hq : AQ p (z σ0 5) (t, S, st, as, w, f) σ) (il : (itF st).length ≤ t) (h30 : S.length ≤ 30) (hk : z σ0 4 t = 41 ∨ z σ0 4 t = 43) (hB : B0 p σ st.length)
    (kx : ∀ τ x h' N', (∀ m, cS X (z σ0 4) (nmI p σ0) (nmB p σ0) V (m + 1) (t, S, st, as, w, f) = some (.error x)) → PX T p σ0 τ h' N' → z τ 2 8 = ((x : Nat) : Int) → Kk 0 τ)
    (kk : ∀ τ C', (∀ m, cS X (z σ0 4) (nmI p σ0) (nmB p σ0) V (m + 1) (t, S, st, as, w, f) = cS X (z σ0 4) (nmI p σ0) (nmB p σ0) V m C') → PX T p σ0 τ C'.2.1.length C'.2.2.1.length → AQ p (z σ0 5) C' τ → (itF C'.2.2.1).length ≤ C'.1 → t < C'.1 → B0 p τ C'.2.2.1.length → Kk 1 τ) : J ω m_Pa_fork d 0 0 0 0 0 [(0, .ref 8)] [] σ (q_ki Kk) := by
  obtain ⟨d, rfl⟩ : ∃ k, d = k + 1 := ⟨d - 1, by omega⟩
  have hcc := PX_c hx
  have hn := PX_N ks hx
  have hT4 : T ≤ 4096 := hx.1.2.1.1
  have q1 : z σ 2 8 = (t : Int) := hq.1
  rw [q1, Int.toNat_natCast] at hn
  have k4 : z σ 4 (z σ 2 8).toNat = z σ0 4 t := by rw [(PX_4 hp hx).1, q1, Int.toNat_natCast]
  obtain ⟨⟨⟨hE, r0, r1⟩, -⟩, -⟩ := id hx
  have d0 : ¬ (30 < S.length ∧ z σ0 4 t ≠ 38) := fun q => by omega
  have tT : t < T := by
    rcases Nat.lt_or_ge t T with c | c
    · exact c
    · rw [show t = T by omega, hT] at hk; omega
  have a := ks.1 t tT
  have go : ∀ y0 : Int, (y0 = 0 ∧ z σ0 4 t = 41) ∨ (y0 = 1 ∧ z σ0 4 t = 43) → J ω m_Pa_fork (d + 1) 0 0 0 0 17 [(0, .ref 8)] [.int (zI y0)] σ (q_ki Kk) := by
    intro y0 hy
    refine b_Pa_fork_17 hp r0 r1 hE (y_adv hp ks hx (fun τ c e ht e2 e3 e4 e5 => ?_))
    have e6 := e5 (by rw [k4]; omega)
    have ec0 : c = ((t + 1 : Nat) : Int) := by omega
    rw [ec0] at e e2
    have t9 : z τ 9 = z σ 9 := by rw [e, z_oF (by decide)]
    have hqt : AQ p (z σ0 5) (t + 1, S, st, as, w, f) τ := by rw [e]; exact AI_28 (t2 := t + 1) (its := itF st) hp hq (by omega)
    have hBt : B0 p τ st.length := by rw [e]; exact ⟨fun c => (z_o (by omega)).trans (hB.1 c), fun c => by rw [z_o (by omega)]; exact hB.2 c⟩
    obtain ⟨⟨⟨hE2, r02, r12⟩, ⟨c1, c2, c3⟩, -⟩, -⟩ := id ht
    refine b_Pa_fork_25 hp r02 r12 hE2 ⟨⟨by omega, by omega⟩, ⟨by omega, by omega⟩, fun c0 => ?_, fun c1 => ?_⟩
    · subst c0
      have k41 : z σ0 4 t = 41 := by omega
      have hk2 : kl (z σ0 4 t) = 2 := by rw [k41]; rfl
      have u : ∀ m, cS X (z σ0 4) (nmI p σ0) (nmB p σ0) V (m + 1) (t, S, st, as, w, f) = if z σ0 4 (t + 1) = 35 then bnC (X (S.length + 1) (t + 2)) (fun t1 e => if z σ0 4 t1 = 36 then cS X (z σ0 4) (nmI p σ0) (nmB p σ0) V m (t1 + 1, (2, st.length, 0, e.2.2.1, 0) :: S, st ++ [(4, 0, 0, e.1)], as, w, f.or (xF e)) else some (.error t1))
        else some (.error (t + 1)) := fun m => by rw [cS_s, if_neg d0, if_neg (by omega), if_neg (by omega), if_pos k41]
      refine l_fork_45 (by omega) hp ks hT hX ht hqt (by omega) h30 (by rw [t9, e2, Int.toNat_natCast]; omega) (Or.inl rfl) (fun c => absurd c (by decide)) (fun c => ⟨rfl, hBt.1 c⟩) (fun c c7 => absurd c7 (hBt.2 c)) (fun τ2 x q g1 g2 => ?_) (fun τ2 C' t1 e' g0 q g1 g2 g3 g4 g5 g6 g7 => ?_)
      · refine kx τ2 x _ _ (fun m => ?_) g1 g2
        rw [u]
        rcases q with ⟨q, q2⟩ | ⟨q, q2 | ⟨e', q2, q3⟩⟩
        · rw [if_neg q, q2]
        · rw [if_pos q]; exact bnC_e q2
        · rw [if_pos q, bnC_o q2, if_neg q3]
      · refine kk τ2 C' (fun m => ?_) g3 g4 g5 (by omega) g7
        rw [u, if_pos g0, bnC_o q, if_pos g1, g2]; rfl
    · have y1 : y0 = 1 := by omega
      subst y1
      have k43 : z σ0 4 t = 43 := by omega
      have hk2 : kl (z σ0 4 t) = 5 := by rw [k43]; rfl
      rw [e2, Int.toNat_natCast]
      have u : ∀ m, cS X (z σ0 4) (nmI p σ0) (nmB p σ0) V (m + 1) (t, S, st, as, w, f) = if z σ0 4 (t + 1) = 23 then
          if z σ0 4 (t + 2) = 35 then bnC (X (S.length + 1) (t + 3)) (fun t1 e => if z σ0 4 t1 = 36 then cS X (z σ0 4) (nmI p σ0) (nmB p σ0) V m (t1 + 1, (4, st.length + 1, (nmI p σ0 (t + 1)).2.1, e.2.2.1, 0) :: S, st ++ [(7, (nmI p σ0 (t + 1)).2.1, (lpS S : Int), []), (8, (lpS S : Int), 0, e.1)], as, w, (f.or (lpF (nmI p σ0 (t + 1)).2.1 (t + 1))).or (xF e)) else some (.error t1))
          else some (.error (t + 2))
        else some (.error (t + 1)) := fun m => by rw [cS_s, if_neg d0, if_neg (by omega), if_neg (by omega), if_neg (by omega), if_pos k43]
      refine w_loopNumber (by omega) hp ks ht hqt (inR_of _) (by rw [t9, e2, Int.toNat_natCast]; omega) hBt (fun k => ?_) (fun k23 π hπ hqp p9 t1T => ?_)
      · exact b_Pa_fork_42 hp r02 r12 hE2 ⟨⟨by decide, by decide⟩, fun _ => ⟨0, ⟨by decide, by decide⟩, rfl, kx τ (t + 1) _ _ (fun m => by rw [u, if_neg k]) ht e2⟩, fun c => absurd rfl c⟩
      · obtain ⟨⟨⟨hE3, r03, r13⟩, -⟩, -⟩ := id hπ
        have ex2 : zL (q_l τ 6 (t + 1)) = (nmI p σ0 (t + 1)).2.1 := by
          rw [← (nm_PX hp ht).1]
          unfold nmI
          rw [if_pos (by rw [(PX_4 hp ht).1]; exact k23)]
        have hr := (c3 (t + 1) (by omega)).2.2.2 (by rw [(PX_4 hp ht).1]; exact k23)
        rw [ex2] at hqp hr
        rw [ex2]
        generalize (nmI p σ0 (t + 1)).2.1 = xx at *
        have p2 : z π 2 8 = ((t + 1 + 1 : Nat) : Int) := hqp.1
        have k := KS_le ks (t + 1) (t + 1 + 1) (by omega) (by have := PX_c hπ; omega)
        have ls : (st ++ [((7, xx, (lpS S : Int), []) : q_St)]).length = st.length + 1 := List.length_append
        have ei : itF (st ++ [((7, xx, (lpS S : Int), []) : q_St)]) = itF st := by rw [itF_app]; exact List.append_nil _
        have p17 : z π p 17 = ((itF (st ++ [((7, xx, (lpS S : Int), []) : q_St)])).length : Int) := hqp.2.2.2.1.1
        rw [ei] at p17
        have s17 : z τ p 17 = ((itF st).length : Int) := hqt.2.2.2.1.1
        refine b_Pa_fork_42 hp r03 r13 hE3 ⟨⟨by decide, by decide⟩, fun c => absurd c (by decide), fun _ => l_fork_45 (t := t + 1 + 1) (by omega) hp ks hT hX (by rw [ls]; exact hπ) hqp (by rw [ei]; omega) h30 ?_ (Or.inr rfl) (fun _ => hr) (fun c => absurd c (by omega)) (fun c _ => ⟨rfl, ?_⟩) (fun τ2 x q g1 g2 => ?_) (fun τ2 C' t1 e' g0 q g1 g2 g3 g4 g5 g6 g7 => ?_)⟩
        · rw [p9, t9, p2, Int.toNat_natCast, ls]; omega
        · rw [p17, ← s17]; exact hBt.1 (by omega)
        · refine kx τ2 x _ _ (fun m => ?_) g1 g2
          rw [u, if_pos k23]
          rcases q with ⟨q, q2⟩ | ⟨q, q2 | ⟨e', q2, q3⟩⟩
          · rw [if_neg q, q2]
          · rw [if_pos q]; exact bnC_e q2
          · rw [if_pos q, bnC_o q2, if_neg q3]
        · refine kk τ2 C' (fun m => ?_) g3 g4 g5 (by omega) g7
          rw [u, if_pos k23, if_pos g0, bnC_o q, if_pos g1, g2, ls, List.append_assoc]; rfl
  refine b_Pa_fork_0 hp r0 r1 hE ⟨⟨by omega, by omega⟩, fun c => go 0 (by rw [k4] at c; omega), fun c => go 1 (by rw [k4] at c; omega)⟩
/-- a block ends -/
theorem w_closeBlock {Kk : Int → q_H → Prop} {X : Nat → Nat → q_PR} {V t as w : Nat} {S : List q_Fr} {st : List q_St} {f : Option (Int × Nat)} (hd : 5 ≤ d) (hp : p = 16 ∨ p = 29) (ks : KS T σ0) (hT : z σ0 4 T = 46) (hV : z σ0 p 4 = (V : Int)) (hx : PX T p σ0 σ S.length st.length) (hq : AQ p (z σ0 5) (t, S, st, as, w, f) σ) (il : (itF st).length ≤ t) (hk : z σ0 4 t = 38) (hB : B0 p σ st.length)
    (kx : ∀ τ x h' N', (∀ m, cS X (z σ0 4) (nmI p σ0) (nmB p σ0) V (m + 1) (t, S, st, as, w, f) = some (.error x)) → PX T p σ0 τ h' N' → z τ 2 8 = ((x : Nat) : Int) → Kk 0 τ)
    (kk : ∀ τ C', (∀ m, cS X (z σ0 4) (nmI p σ0) (nmB p σ0) V (m + 1) (t, S, st, as, w, f) = cS X (z σ0 4) (nmI p σ0) (nmB p σ0) V m C') → PX T p σ0 τ C'.2.1.length C'.2.2.1.length → AQ p (z σ0 5) C' τ → (itF C'.2.2.1).length ≤ C'.1 → t < C'.1 → B0 p τ C'.2.2.1.length → Kk 1 τ) : J ω m_Pa_closeBlock d 0 0 0 0 0 [(0, .ref 8)] [] σ (q_ki Kk) := by
  obtain ⟨d, rfl⟩ : ∃ k, d = k + 1 := ⟨d - 1, by omega⟩
  have hT4 : T ≤ 4096 := hx.1.2.1.1
  have hcc := PX_c hx
  have q1 : z σ 2 8 = (t : Int) := hq.1
  obtain ⟨⟨⟨hE, r0, r1⟩, -⟩, -, -, -, ⟨h7, h31, h8⟩, hN, hw, hs⟩ := id hx
  have k4 : z σ 4 (z σ 2 8).toNat = z σ0 4 t := by rw [(PX_4 hp hx).1, q1, Int.toNat_natCast]
  have u : ∀ m, cS X (z σ0 4) (nmI p σ0) (nmB p σ0) V (m + 1) (t, S, st, as, w, f) = cCl S (some (.error t)) (fun x S' => cS X (z σ0 4) (nmI p σ0) (nmB p σ0) V m (cE (z σ0 4) V (t + 1, S', st, as, w, f) x.2.2.2.2)) := fun m => by rw [cS_s, if_neg (fun q => q.2 hk), if_neg (by omega), if_neg (by omega), if_neg (by omega), if_neg (by omega), if_neg (by omega), if_pos hk]
  refine b_Pa_closeBlock_0 hp r0 r1 hE ⟨fun c => ?_, fun c => ?_⟩
  · cases S with
    | nil => exact ⟨0, ⟨by decide, by decide⟩, rfl, kx σ t _ _ (fun m => u m) hx q1⟩
    | cons x S => exact absurd c (by rw [h7]; simp only [List.length_cons]; omega)
  cases S with
  | nil => exact absurd h7 c
  | cons fr S =>
    have h7' : z σ 8 7 = (S.length : Int) + 1 := h7
    have h31' : S.length + 1 ≤ 31 := h31
    obtain ⟨⟨⟨b1, b2, b3, b4, b5⟩, b6⟩⟩ := And.intro hq.2.1 trivial
    rw [show z σ 8 7 - 1 = (S.length : Int) by omega, Int.toNat_natCast]
    refine ⟨⟨by omega, by omega⟩, fun k1 => y_adv hp ks hx (fun τ c e ht e2 e3 e4 e5 => ?_), fun k1 => ⟨0, ⟨by decide, by decide⟩, rfl, kx σ t _ _ (fun m => ?_) hx q1⟩⟩
    · have e6 := e5 (by rw [k4, hk]; decide)
      have ec0 : c = ((t + 1 : Nat) : Int) := by omega
      rw [ec0] at e e2
      have t9 : z τ 9 = z σ 9 := by rw [e, z_oF (by decide)]
      have hqt : AQ p (z σ0 5) (t + 1, fr :: S, st, as, w, f) τ := by rw [e]; exact AI_28 (t2 := t + 1) (its := itF st) hp hq (by omega)
      obtain ⟨⟨⟨hE2, r02, r12⟩, -⟩, -, -, -, ⟨g7, g31, g8⟩, gN, gw, gs⟩ := id ht
      have g7' : z τ 8 7 = (S.length : Int) + 1 := g7
      refine b_Pa_closeBlock_31 hp r02 r12 hE2 ?_
      rw [show z τ 8 7 - 1 = (S.length : Int) by omega, Int.toNat_natCast]
      have u8 : ∀ a, a ≠ 8 → z (zs τ 8 7 (S.length : Int)) a = z τ a := fun a h => z_oF h
      have hπ : PX T p σ0 (zs τ 8 7 (S.length : Int)) S.length st.length := by
        refine PX_mk hp ht (fr_s fr_refl (by simp)) (fun k _ _ _ => z_o (by omega)) (z_s ⟨by omega, by omega⟩) (by omega) ?_ (by rw [u8 p (by omega)]; exact gN) (by rw [u8 p (by omega)]; exact gw) ?_
        · rw [z_k (by decide), u8 9 (by decide), g8]
          show cb (z τ 9) S.length + (if z τ 9 S.length = 4 then 1 else 0) = _
          rw [if_neg (by rw [t9, k1]; decide)]; omega
        · rw [u8 p (by omega), u8 9 (by decide), u8 10 (by decide), u8 11 (by decide), u8 12 (by decide), u8 13 (by decide), u8 (p + 5) (by omega), u8 (p + 6) (by omega), u8 (p + 7) (by omega), u8 (p + 8) (by omega), u8 (p + 9) (by omega)]
          exact SX_pop gs (by rw [t9]; exact k1)
      obtain ⟨d1, ⟨⟨f1, f2, f3, f4, f5⟩, d2⟩, d3, ⟨d4, d5⟩, d6, d7, d8⟩ := hqt
      dsimp only at d1 d3 d4 d5 d6 d7 d8
      have hqp : AQ p (z σ0 5) (t + 1, S, st, as, w, f) (zs τ 8 7 (S.length : Int)) := by
        unfold AQ
        dsimp only
        rw [u8 2 (by decide), u8 9 (by decide), u8 10 (by decide), u8 11 (by decide), u8 12 (by decide), u8 13 (by decide), u8 p (by omega), u8 (p + 5) (by omega), u8 (p + 6) (by omega), u8 (p + 7) (by omega), u8 (p + 8) (by omega), u8 (p + 9) (by omega), u8 (p + 10) (by omega), u8 (p + 11) (by omega), u8 (p + 12) (by omega)]
        exact ⟨d1, d2, d3, ⟨d4, d5⟩, d6, d7, d8⟩
      refine ⟨⟨by omega, by omega⟩, w_finish (by omega) hp ks hV hπ hqp (cpq_mk f5) (fun π C' eC hp3 hq3 hN' h17' hA' => ?_)⟩
      obtain ⟨⟨⟨hE3, r03, r13⟩, -⟩, -⟩ := id hp3
      have f11 : fr.1 = 1 := b1.symm.trans k1
      obtain ⟨w1, w2, -⟩ := cF_it (z σ0 4) V S (t + 1) st fr.2.2.2.2 w
      have e1' : itF C'.2.2.1 = itF st := by rw [eC]; exact w1
      have e2' : t + 1 ≤ C'.1 := by rw [eC]; exact w2
      refine b_Pa_closeBlock_54 hp r03 r13 hE3 ⟨1, ⟨by decide, by decide⟩, rfl, kk π C' (fun m => ?_) hp3 hq3 (by rw [e1']; omega) (by omega) ⟨fun c => ?_, fun c => ?_⟩⟩
      · rw [u, eC]
        unfold cCl
        dsimp only
        rw [if_pos f11]
      · rw [h17', u8 p (by omega), e, z_o (by omega)]; exact hB.1 (by omega)
      · by_cases c1 : st.length = 1
        · rw [hA' 0 (by omega), u8 (p + 5) (by omega), e, z_o (by omega)]; exact hB.2 c1
        · have := hN'.2 (by omega); omega
    · rw [u]
      unfold cCl
      dsimp only
      rw [if_neg (by rw [← b1]; exact k1)]
/-- STATEMENTS, as the pure stack reads them -/
theorem l_statements {Kk : Int → q_H → Prop} {X : Nat → Nat → q_PR} {V : Nat} {r : Except Nat q_Cs} (hd : 7 ≤ d) (hp : p = 16 ∨ p = 29) (ks : KS T σ0) (hT : z σ0 4 T = 46) (hX : XO X (z σ0 4) (nmI p σ0) (nmB p σ0) T) (hV : z σ0 p 4 = (V : Int))
    (kx : ∀ τ x h' N', r = .error x → PX T p σ0 τ h' N' → z τ 2 8 = ((x : Nat) : Int) → Kk 0 τ)
    (kk : ∀ τ C', r = .ok C' → C'.2.1 = [] → PX T p σ0 τ 0 C'.2.2.1.length → AQ p (z σ0 5) C' τ → B0 p τ C'.2.2.1.length → Kk 1 τ) : ∀ (m i : Nat) (C : q_Cs) (σ : q_H), cS X (z σ0 4) (nmI p σ0) (nmB p σ0) V m C = some r → PX T p σ0 σ C.2.1.length C.2.2.1.length → AQ p (z σ0 5) C σ → (itF C.2.2.1).length ≤ C.1 → B0 p σ C.2.2.1.length → i ≤ C.1 → J ω m_Pa_statements (d + 1) 0 0 0 0 4 [(0, .ref 8), (1, .int (zI 1)), (2, .int (zI (i : Int)))] [] σ (q_ki Kk) := by
  intro m
  induction m with
  | zero => intro i C σ h; unfold cS at h; cases h
  | succ m ih =>
    intro i C σ h hx hq il hB hi
    obtain ⟨t, S, st, as, w, f⟩ := C
    dsimp only at hx il hB hi
    have hcc := PX_c hx
    have hT4 : T ≤ 4096 := hx.1.2.1.1
    have q1 : z σ 2 8 = (t : Int) := hq.1
    have k4 : z σ 4 (z σ 2 8).toNat = z σ0 4 t := by rw [(PX_4 hp hx).1, q1, Int.toNat_natCast]
    obtain ⟨⟨⟨hE, r0, r1⟩, -⟩, -, -, -, ⟨h7, h31, h8⟩, hN, hw, hs⟩ := id hx
    have zero : ∀ τ, Kk 0 τ → q_ki Kk (.inl (some (.int (zI 0)))) τ := fun τ h => ⟨0, ⟨by decide, by decide⟩, rfl, h⟩
    -- a failure is handed on
    have fl : ∀ (τ : q_H) (h' N' : Nat), PX T p σ0 τ h' N' → Kk 0 τ → J ω m_Pa_statements (d + 1) 0 0 0 0 4 [(0, .ref 8), (1, .int (zI 0)), (2, .int (zI ((i : Int) + 1)))] [] τ (q_ki Kk) := fun τ h' N' ht hk => by
      obtain ⟨⟨⟨hE2, r02, r12⟩, -⟩, -⟩ := id ht
      exact b_Pa_statements_4 hp r02 r12 hE2 ⟨⟨by omega, by omega⟩, fun _ => zero τ hk, fun _ => ⟨⟨by decide, by decide⟩, fun _ => zero τ hk, fun c => absurd rfl c⟩⟩
    have er : ∀ x, (∀ m, cS X (z σ0 4) (nmI p σ0) (nmB p σ0) V (m + 1) (t, S, st, as, w, f) = some (.error x)) → r = .error x := fun x q => by rw [q m] at h; exact (Option.some.inj h).symm
    have nx : ∀ (τ : q_H) (C' : q_Cs), (∀ m, cS X (z σ0 4) (nmI p σ0) (nmB p σ0) V (m + 1) (t, S, st, as, w, f) = cS X (z σ0 4) (nmI p σ0) (nmB p σ0) V m C') → PX T p σ0 τ C'.2.1.length C'.2.2.1.length → AQ p (z σ0 5) C' τ → (itF C'.2.2.1).length ≤ C'.1 → t < C'.1 → B0 p τ C'.2.2.1.length → J ω m_Pa_statements (d + 1) 0 0 0 0 4 [(0, .ref 8), (1, .int (zI 1)), (2, .int (zI ((i : Int) + 1)))] [] τ (q_ki Kk) := fun τ C' q g1 g2 g3 g4 g5 => by
      rw [q m] at h
      have := ih (i + 1) C' τ h g1 g2 g3 g5 (by omega)
      rwa [show ((i + 1 : Nat) : Int) = (i : Int) + 1 by omega] at this
    have g38 : (S.length ≤ 30 ∨ z σ0 4 t = 38) → J ω m_Pa_statements (d + 1) 0 0 0 0 38 [(0, .ref 8), (1, .int (zI 1)), (2, .int (zI (i : Int)))] [] σ (q_ki Kk) := by
      intro h30
      have d0 : ¬ (30 < S.length ∧ z σ0 4 t ≠ 38) := fun q => by omega
      refine b_Pa_statements_38 hp r0 r1 hE ?_
      rw [k4]
      refine ⟨⟨by omega, by omega⟩, fun c => ?_, fun c => ?_, fun c => ?_, fun c => ?_, fun c => ⟨fun c46 => ?_, fun c46 => ⟨fun c0 => ?_, fun c0 => ?_⟩⟩⟩
      · refine w_simple hd hp ks hT hX hV hx hq il (by omega) c hB (fun τ x q ht h2 => ?_) (fun τ C' q g1 g2 g3 g4 g5 => ?_)
        · obtain ⟨⟨⟨hE2, r02, r12⟩, -⟩, -⟩ := id ht
          exact b_Pa_statements_128 hp r02 r12 hE2 (fl τ _ _ ht (kx τ x _ _ (er x q) ht h2))
        · obtain ⟨⟨⟨hE2, r02, r12⟩, -⟩, -⟩ := id g1
          exact b_Pa_statements_128 hp r02 r12 hE2 (nx τ C' q g1 g2 g3 g4 g5)
      · refine y_adv hp ks hx (fun τ c' e ht e2 e3 e4 e5 => ?_)
        have e6 := e5 (by rw [k4, c]; decide)
        have ec0 : c' = ((t + 1 : Nat) : Int) := by omega
        rw [ec0] at e e2
        have hqt : AQ p (z σ0 5) (t + 1, S, st, as, w, f) τ := by rw [e]; exact AI_28 (t2 := t + 1) (its := itF st) hp hq (by omega)
        obtain ⟨⟨⟨hE2, r02, r12⟩, -⟩, -, -, -, ⟨g7, g31, g8⟩, gN, gw, gs⟩ := id ht
        refine b_Pa_statements_147 hp r02 r12 hE2 (x_enter (h := S.length) hp hE2 r02 r12 g7 g31 ⟨by decide, by decide⟩ ⟨by decide, by decide⟩ ⟨by decide, by decide⟩ ⟨by decide, by decide⟩ (fun ξ f2 y7 y8 y9 y10 y11 y12 y13 => ?_))
        have o2 : ∀ a, a ∉ [8, 9, 10, 11, 12, 13] → z ξ a = z τ a := fun a h => fr_zF f2 h
        have op := o2 p (by simp; omega)
        have hξ : PX T p σ0 ξ (S.length + 1) st.length := by
          refine PX_mk hp ht (fr_mono f2 (by simp)) (fun k _ _ _ => by rw [op]) (by omega) (by omega) ?_ (by rw [op]; exact gN) (by rw [op]; exact gw) ?_
          · rw [y8, y9, g8]
            show _ = cb (up (z τ 9) S.length 1) S.length + (if up (z τ 9) S.length 1 S.length = 4 then 1 else 0)
            rw [cb_up S.length (Nat.le_refl _), up_s, if_neg (by decide)]; omega
          · rw [op, y9, y10, y11, y12, y13, o2 (p + 5) (by simp; omega), o2 (p + 6) (by simp; omega), o2 (p + 7) (by simp; omega), o2 (p + 8) (by simp; omega), o2 (p + 9) (by simp; omega)]
            exact SX_block gs (by decide) (by decide)
        have hqx := AQ_enter (e := 0) (tu := 0) hp hqt rfl f2 y9 y10 y11 y12 y13 rfl
        obtain ⟨⟨⟨hE3, r03, r13⟩, -⟩, -⟩ := id hξ
        refine b_Pa_statements_155 hp r03 r13 hE3 (nx ξ (t + 1, (1, 0, 0, 0, 0) :: S, st, as, w, f) (fun m => by rw [cS_s, if_neg d0, if_neg (by omega), if_neg (by omega), if_neg (by omega), if_neg (by omega), if_pos c]) hξ hqx (by dsimp only; omega) (by dsimp only; omega) ⟨fun c => ?_, fun c => ?_⟩)
        · rw [op, e, z_o (by omega)]; exact hB.1 c
        · rw [o2 (p + 5) (by simp; omega), e, z_o (by omega)]; exact hB.2 c
      · refine w_closeBlock (X := X) (by omega) hp ks hT hV hx hq il c hB (fun τ x h' N' q ht h2 => ?_) (fun τ C' q g1 g2 g3 g4 g5 => ?_)
        · obtain ⟨⟨⟨hE2, r02, r12⟩, -⟩, -⟩ := id ht
          exact b_Pa_statements_162 hp r02 r12 hE2 (fl τ _ _ ht (kx τ x _ _ (er x q) ht h2))
        · obtain ⟨⟨⟨hE2, r02, r12⟩, -⟩, -⟩ := id g1
          exact b_Pa_statements_162 hp r02 r12 hE2 (nx τ C' q g1 g2 g3 g4 g5)
      · refine w_fork (V := V) hd hp ks hT hX hx hq il (by omega) c hB (fun τ x h' N' q ht h2 => ?_) (fun τ C' q g1 g2 g3 g4 g5 => ?_)
        · obtain ⟨⟨⟨hE2, r02, r12⟩, -⟩, -⟩ := id ht
          exact b_Pa_statements_136 hp r02 r12 hE2 (fl τ _ _ ht (kx τ x _ _ (er x q) ht h2))
        · obtain ⟨⟨⟨hE2, r02, r12⟩, -⟩, -⟩ := id g1
          exact b_Pa_statements_136 hp r02 r12 hE2 (nx τ C' q g1 g2 g3 g4 g5)
      · exact zero σ (kx σ t _ _ (er t (fun m => by rw [cS_s, if_neg d0, if_neg (by omega), if_neg (by omega), if_neg (by omega), if_neg (by omega), if_neg (by omega), if_neg (by omega), if_neg (fun q => c46 q.1)])) hx q1)
      · refine zero σ (kx σ t _ _ (er t (fun m => ?_)) hx q1)
        rw [cS_s, if_neg d0, if_neg (by omega), if_neg (by omega), if_neg (by omega), if_neg (by omega), if_neg (by omega), if_neg (by omega), if_neg (fun q => ?_)]
        rw [q.2] at h7
        exact c0 h7
      · have hS : S = [] := List.length_eq_zero_iff.mp (by omega)
        subst hS
        rw [cS_s, if_neg d0, if_neg (by omega), if_neg (by omega), if_neg (by omega), if_neg (by omega), if_neg (by omega), if_neg (by omega), if_pos ⟨c46, rfl⟩] at h
        exact ⟨1, ⟨by decide, by decide⟩, rfl, kk σ (t, [], st, as, w, f) (Option.some.inj h).symm rfl hx hq hB⟩
    refine b_Pa_statements_4 hp r0 r1 hE ⟨⟨by omega, by omega⟩, fun c => absurd c (by omega), fun ci => ⟨⟨by decide, by decide⟩, fun c => absurd c (by decide), fun cx => ⟨fun c30 => g38 (Or.inl (by omega)), fun c30 => ⟨⟨by omega, by omega⟩, fun c38 => g38 (Or.inr (by rw [← k4]; exact c38)), fun c38 => ?_⟩⟩⟩⟩
    rw [k4] at c38
    exact zero σ (kx σ t _ _ (er t (fun m => by rw [cS_s, if_pos ⟨by omega, c38⟩])) hx q1)
/-- THE CLASS READS STATEMENTS as recursive descent does -/
theorem w_statements {Kk : Int → q_H → Prop} {X : Nat → Nat → q_PR} {V n t : Nat} {r : q_SR} {f : Option (Int × Nat)} (hd : 8 ≤ d) (hp : p = 16 ∨ p = 29) (ks : KS T σ0) (hT : z σ0 4 T = 46) (hX : XO X (z σ0 4) (nmI p σ0) (nmB p σ0) T) (hV : z σ0 p 4 = (V : Int)) (hx : PX T p σ0 σ 0 0) (hq : AQ p (z σ0 5) (t, [], [], 0, 0, f) σ) (hr : pS X (z σ0 4) (nmI p σ0) (nmB p σ0) V n (some ([], 0, none, 0)) 0 0 0 0 t = some r)
    (kx : ∀ τ x h' N', r = .error x → PX T p σ0 τ h' N' → z τ 2 8 = ((x : Nat) : Int) → Kk 0 τ)
    (kk : ∀ τ t' s, r = .ok (t', s) → PX T p σ0 τ 0 s.1.length → AQ p (z σ0 5) (t', [], s.1, s.2.2.2, s.2.1, f.or s.2.2.1) τ → B0 p τ s.1.length → Kk 1 τ) : J ω m_Pa_statements d 0 0 0 0 0 [(0, .ref 8)] [] σ (q_ki Kk) := by
  obtain ⟨d, rfl⟩ : ∃ k, d = k + 1 := ⟨d - 1, by omega⟩
  obtain ⟨⟨⟨hE, r0, r1⟩, -⟩, -⟩ := id hx
  have h17 : z σ p 17 = 0 := hq.2.2.2.1.1
  have b0 : B0 p σ 0 := ⟨fun _ => h17, fun c => absurd c (by decide)⟩
  cases r with
  | error y =>
    obtain ⟨m, hm⟩ := SIMS hr f
    exact b_Pa_statements_0 hp r0 r1 hE (l_statements (by omega) hp ks hT hX hV (fun τ x h' N' q ht h2 => kx τ x h' N' (by cases q; rfl) ht h2) (fun τ C' q hS ht hq2 hb => by cases q) m 0 (t, [], [], 0, 0, f) σ hm hx hq (Nat.zero_le _) b0 (Nat.zero_le _))
  | ok q =>
    obtain ⟨t', s⟩ := q
    obtain ⟨m, hm⟩ := SIMS hr f
    exact b_Pa_statements_0 hp r0 r1 hE (l_statements (by omega) hp ks hT hX hV (fun τ x h' N' q ht h2 => by cases q) (fun τ C' q hS ht hq2 hb => by cases q; exact kk τ t' s rfl ht hq2 hb) m 0 (t, [], [], 0, 0, f) σ hm hx hq (Nat.zero_le _) b0 (Nat.zero_le _))
end AiP
