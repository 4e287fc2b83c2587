/-! INQUIRY: worth, look, verdict -/
theorem FND_z {s wc : Nat} {D : (Nat → Bool) → Prop} {σ τ : q_H} {u : Nat → Bool} (h : FND s wc D σ u) (e : ∀ a ∈ [51, 52, 53, 54, 70, 71, 72, 73, 74, 76, 78, 79, 80, 81, 82, 83, 84], z τ a = z σ a) : FND s wc D τ u := by
  obtain ⟨h1, h2, h3, h4⟩ := h
  unfold FND
  rw [e 74 (by simp), e 83 (by simp), e 78 (by simp)]
  exact ⟨CSv_z (e 51 (by simp)).symm (e 52 (by simp)).symm (e 53 (by simp)).symm (e 54 (by simp)).symm h1, h2, h3, fun v cv => h4 v (CSv_z (e 51 (by simp)) (e 52 (by simp)) (e 53 (by simp)) (e 54 (by simp)) cv)⟩
theorem zXor_00 {s : Nat} {x : Int} (hs : s ≤ 10240) (h : lit s x) : zXor x 0 = x := by
  have h0 := h.1
  have h1 := h.2
  unfold zXor
  rw [← zI_0, Int32.xor_zero]
  exact zI_toInt ⟨by omega, by omega⟩
theorem or_pow {m n : Nat} (h : m < 2 ^ n) : m ||| 2 ^ n = m + 2 ^ n := by
  have := Nat.two_pow_add_eq_or_of_lt h 1
  rw [Nat.mul_one] at this
  rw [Nat.or_comm, ← this, Nat.add_comm]
section I4J
variable {ω : q_W} {d p s0 s V rc wc rq : Nat} {WI R : Nat → Int} {S : List q_St} {σ σ0 : q_H} {D : (Nat → Bool) → Prop}
theorem i_worth2 {K : Int → q_H → Prop} {b i : Nat} {x3 : Int} {u : Nat → Bool} (hd : 1 ≤ d) (hp : p = 16 ∨ p = 29) (hb : b = 61 ∨ b = 62) (hE : q_E σ) (r1 : q_r σ 47 2 = p) (hs : s ≤ 10240) (hi : i < 12) (h3 : x3 = 0 ∨ x3 = 1) (hl : ∀ j, j < 96 → lit s (z σ b j)) (hv : ∀ j, j < 8 → (z σ 78 (zXor (z σ b (8 * i + j)) x3).toNat = 1 ↔ lvb u (zXor (z σ b (8 * i + j)) x3) = true)) (kk : K ((nV u (fun j => zXor (z σ b (8 * i + j)) x3) 8 : Nat) : Int) σ) : J ω m_In_worth d 0 0 0 0 0 [(0, .ref 47), (1, .ref b), (2, .int (zI (i : Int))), (3, .int (zI x3))] [] σ (q_ki K) := by
  obtain ⟨d, rfl⟩ : ∃ k, d = k + 1 := ⟨d - 1, by omega⟩
  have l : ∀ (m n : Nat), 8 ≤ n + m → n ≤ 8 → J ω m_In_worth (d + 1) 0 0 0 0 6 [(0, .ref 47), (1, .ref b), (2, .int (zI (i : Int))), (3, .int (zI x3)), (4, .int (zI ((nV u (fun j => zXor (z σ b (8 * i + j)) x3) n : Nat) : Int))), (5, .int (zI (n : Int)))] [] σ (q_ki K) := by
    intro m
    have out : ∀ n, n = 8 → q_ki K (.inl (some (.int (zI ((nV u (fun j => zXor (z σ b (8 * i + j)) x3) n : Nat) : Int))))) σ := fun n e => by
      subst e
      have := nV_lt (v := u) (f := fun j => zXor (z σ b (8 * i + j)) x3) 8
      exact ⟨_, ⟨by omega, by omega⟩, rfl, kk⟩
    induction m with
    | zero =>
      intro n a1 a2
      exact b_In_worth_6 hp r1 hb hE ⟨⟨by omega, by omega⟩, fun _ => out n (by omega), fun c => absurd c (by omega)⟩
    | succ m ih =>
      intro n a1 a2
      refine b_In_worth_6 hp r1 hb hE ⟨⟨by omega, by omega⟩, fun c => out n (by omega), fun c => ⟨⟨by omega, by omega⟩, ?_⟩⟩
      have e8 : ((i : Int) * 8 + (n : Int)).toNat = 8 * i + n := by omega
      rw [e8]
      have lx := lit_b hs (hl (8 * i + n) (by omega)) h3
      have lx2 := lx.2
      have e : (n : Int) + 1 = ((n + 1 : Nat) : Int) := by omega
      have hvn := hv n (by omega)
      have en : nV u (fun j => zXor (z σ b (8 * i + j)) x3) (n + 1) = nV u (fun j => zXor (z σ b (8 * i + j)) x3) n + 2 ^ n * (lvb u (zXor (z σ b (8 * i + n)) x3)).toNat := rfl
      have b8 := nV_lt (v := u) (f := fun j => zXor (z σ b (8 * i + j)) x3) n
      have p8 : 2 ^ n ≤ 2 ^ 8 := Nat.pow_le_pow_right (by decide) (by omega)
      refine b_So_holds_0 hE ⟨⟨lx.1, by omega⟩, fun q => ⟨0, ⟨by decide, by decide⟩, rfl, b_In_worth_31 hp r1 hb hE ⟨⟨by decide, by decide⟩, fun _ => ?_, fun q => absurd rfl q⟩⟩, fun q => ⟨1, ⟨by decide, by decide⟩, rfl, b_In_worth_31 hp r1 hb hE ⟨⟨by decide, by decide⟩, fun q => absurd q (by decide), fun _ => ?_⟩⟩⟩
      · have hf : lvb u (zXor (z σ b (8 * i + n)) x3) = false := by
          cases h : lvb u (zXor (z σ b (8 * i + n)) x3) with
          | false => rfl
          | true => exact absurd (hvn.mpr h) q
        have := ih (n + 1) (by omega) (by omega)
        rw [en, hf, show (false : Bool).toNat = 0 from rfl, Nat.mul_zero, Nat.add_zero] at this
        rw [e]; exact this
      · have := ih (n + 1) (by omega) (by omega)
        rw [en, hvn.mp q, show (true : Bool).toNat = 1 from rfl, Nat.mul_one] at this
        rw [e, zShl_1 n (by omega), show (2 : Int) ^ n = ((2 ^ n : Nat) : Int) by simp, zOr_n (by omega) (by omega), or_pow b8]
        exact this
  exact b_In_worth_0 hp r1 hb hE (l 8 0 (by decide) (by decide))
theorem QQ_fq {τ : q_H} {S' : List Nat} (hp : p = 16 ∨ p = 29) (h : QQ p s0 s V WI S rc R wc rq D σ0 σ) (f : fq S' σ τ) (hS : ∀ a ∈ S', a ∈ [77, 85, 86, 87, 88, 89, 90, 91, 93]) (hb : b256 (z τ 91)) : QQ p s0 s V WI S rc R wc rq D σ0 τ := by
  obtain ⟨q1, q2, q3, q4, q5, q6⟩ := h
  have e : ∀ a, a ∉ [77, 85, 86, 87, 88, 89, 90, 91, 93] → z τ a = z σ a := fun a ha => fq_z f (fun c => ha (hS a c))
  refine ⟨IS_fr hp q1 f (fun a ha => by have := hS a ha; simp at this ⊢; omega), EXq_fq hp q2 f (fun a ha => by have := hS a ha; simp at this; omega) hb, MKq_tr q3 ⟨by rw [e 50 (by decide)], by rw [e 47 (by decide)], by rw [e 75 (by decide)], by rw [e 71 (by decide)]⟩, QP_z q4 (fun a ha => e a (by simp at ha ⊢; omega)), ?_, by rw [e 74 (by decide)]; exact q6⟩
  unfold WSH iW iN at q5 ⊢
  rw [e 83 (by decide), e 61 (by decide), e p (by simp; omega), e (p + 1) (by simp; omega)]
  exact q5
theorem QQ_5 {v : Int} (hp : p = 16 ∨ p = 29) (h : QQ p s0 s V WI S rc R wc rq D σ0 σ) : QQ p s0 s V WI S rc R wc rq D σ0 (zs σ 47 5 v) := by
  obtain ⟨q1, q2, q3, q4, q5, q6⟩ := h
  have F : fr [47] σ (zs σ 47 5 v) := fr_s fr_refl (by simp)
  have e : ∀ a, a ≠ 47 → z (zs σ 47 5 v) a = z σ a := fun a ha => z_oF ha
  refine ⟨IS_end hp q1, EXq_fq hp q2 (fq_of F) (by simp) (by rw [e 91 (by decide)]; exact q2.2.2.2.2.2), MKq_tr q3 ⟨by rw [e 50 (by decide)], z_k (by decide), by rw [e 75 (by decide)], by rw [e 71 (by decide)]⟩, QP_z q4 (fun a ha => e a (by simp at ha; omega)), ?_, by rw [e 74 (by decide)]; exact q6⟩
  unfold WSH iW iN at q5 ⊢
  rw [e 83 (by decide), e 61 (by decide), e p (by omega), e (p + 1) (by omega)]
  exact q5
/-- the literals of INPUTS are asked about -/
theorem RL_in (h : QQ p s0 s V WI S rc R wc rq D σ0 σ) {j : Nat} (hj : j < 96) : RLv (z σ 74) wc (z σ 83) (gt (z σ 61 j)) := by
  obtain ⟨q1, q2, q3, q4, ⟨w1, w2⟩, q6⟩ := h
  have gp := q1.1.2.1
  have hin := q1.1.2.2.2.2.2.2.2.2.2
  have ej : j = 8 * (j / 8) + j % 8 := by omega
  by_cases c : j / 8 < iN p σ ∧ j % 8 < iW p σ (j / 8)
  · have wb := (iW_b gp).2.1 _ c.1
    have sb := smn_mono (w := iW p σ) (iN p σ - (j / 8 + 1)) (j / 8 + 1)
    rw [show j / 8 + 1 + (iN p σ - (j / 8 + 1)) = iN p σ by omega] at sb
    have se : smn (iW p σ) (j / 8 + 1) = smn (iW p σ) (j / 8) + iW p σ (j / 8) := rfl
    refine Or.inr (Or.inr ⟨smn (iW p σ) (j / 8) + (iW p σ (j / 8) - 1 - j % 8), by omega, ?_⟩)
    rw [w2 _ _ c.1 c.2, ← ej, gt_ng]
  · have := INP_no hin (by omega) (by omega) c
    rw [← ej] at this
    rw [this]; exact Or.inl rfl
theorem i_look2 {K : q_H → Prop} {P : (Nat → Nat) → Prop} (hd : 7 ≤ d) (hp : p = 16 ∨ p = 29) (h : QQ p s0 s V WI S rc R wc rq D σ0 σ) (hrq : rq ≤ 28000) (hP : ∀ v, CSv s σ v → (D v ↔ P (IvN σ v)))
    (k0 : ∀ τ, IS p s0 s σ0 τ → EXq p s0 s V WI S τ → MKq σ0 τ → z τ 47 5 = 0 → z τ 91 = z σ 91 → (∀ t, ¬ P (spr (iW p σ) (iN p σ) t)) → K τ)
    (k1 : ∀ τ t u, QQ p s0 s V WI S rc R wc rq D σ0 τ → z τ 47 5 = 1 → FND s wc D τ u → t < 2 ^ smn (iW p σ) (iN p σ) → P (spr (iW p σ) (iN p σ) t) → (∀ t', t' < t → ¬ P (spr (iW p σ) (iN p σ) t')) → IvN τ u = spr (iW p σ) (iN p σ) t → (∀ i, i < iN p σ → z τ 91 i = ((spr (iW p σ) (iN p σ) t i : Nat) : Int)) → z τ 87 0 = (runF S (z σ (p + 3)) (spr (iW p σ) (iN p σ) t)).1 → z τ 87 1 = (runF S (z σ (p + 3)) (spr (iW p σ) (iN p σ) t)).2.1 → nw (z τ 88) = (runF S (z σ (p + 3)) (spr (iW p σ) (iN p σ) t)).2.2 → b256 (z τ 88) → K τ) : J ω m_In_look d 0 0 0 0 0 [(0, .ref 47)] [] σ (q_kv K) := by
  obtain ⟨d, rfl⟩ : ∃ k, d = k + 1 := ⟨d - 1, by omega⟩
  obtain ⟨hI, hX, hM, hQP, hW, hR⟩ := id h
  obtain ⟨hQ, h84, hRS, f⟩ := id hI
  have hs := hQ.2.2.1.2.1.2
  have gp := hQ.2.1
  have hin := hQ.2.2.2.2.2.2.2.2.2
  have hci := hQ.2.2.1
  refine b_In_look_0 hp hQ.1.2.1 hQ.1.1 (q_search (by omega) hQ.1.1 hs hQP hrq (fun τ g gz gm hno => ?_) (fun τ u g gz gm hq hf => ?_))
  · have G : fq [70, 71, 72, 73, 75, 76, 77, 78, 79, 80, 81, 82, 84, 85, 86] σ τ := fq_of g.1
    have hτ : IS p s0 s σ0 τ := ⟨QS_fq hp hQ (fq_mono G (by unfold SIn; simp)), gz, RS_fr hRS G (by decide) (by decide), fq_trans f (fq_mono G (by unfold SQ; simp))⟩
    have e91 : z τ 91 = z σ 91 := fq_z G (by decide)
    have F : fr [47] τ (zs τ 47 5 0) := fr_s fr_refl (by simp)
    refine b_In_look_8 hp hτ.1.1.2.1 hτ.1.1.1 ⟨Or.inl rfl, ⟨by decide, by decide⟩, fun q => absurd rfl q, fun _ => ⟨rfl, k0 _ (IS_end hp hτ) (EXq_fq hp (EXq_fq hp hX G (by simp) (by rw [e91]; exact hX.2.2.2.2.2)) (fq_of F) (by simp) (by rw [fr_zF F (by decide), e91]; exact hX.2.2.2.2.2)) (MKq_tr hM ⟨by rw [fr_zF F (by decide), fq_z G (by decide)], by rw [z_k (by decide), fq_z G (by decide)], by rw [fr_zF F (by decide)]; exact gm.1, by rw [fr_zF F (by decide)]; exact gm.2⟩) (z_s ⟨by decide, by decide⟩) (by rw [fr_zF F (by decide)]; exact e91) (fun t hPt => ?_)⟩⟩
    obtain ⟨v, cv, iv⟩ := IvN_all gp hin hci hX.2.1.1.2 t
    exact hno v cv ((hP v cv).mpr (by rw [iv]; exact hPt))
  · have G : fq [70, 71, 72, 73, 75, 76, 77, 78, 79, 80, 81, 82, 84, 85, 86] σ τ := fq_of g.1
    have eG : ∀ a, a ∉ [70, 71, 72, 73, 75, 76, 77, 78, 79, 80, 81, 82, 84, 85, 86] → z τ a = z σ a := fun a ha => fq_z G ha
    have hτ : IS p s0 s σ0 τ := ⟨QS_fq hp hQ (fq_mono G (by unfold SIn; simp)), gz, RS_fr hRS G (by decide) (by decide), fq_trans f (fq_mono G (by unfold SQ; simp))⟩
    have e91 : z τ 91 = z σ 91 := eG 91 (by decide)
    have iw : iW p τ = iW p σ := by unfold iW; rw [eG (p + 1) (by simp; omega)]
    have inn : iN p τ = iN p σ := by unfold iN; rw [eG p (by simp; omega)]
    have Qτ : QQ p s0 s V WI S rc R wc rq D σ0 τ := by
      refine ⟨hτ, EXq_fq hp hX G (by simp) (by rw [e91]; exact hX.2.2.2.2.2), MKq_tr hM ⟨by rw [eG 50 (by decide)], by rw [eG 47 (by decide)], gm⟩, hq, ?_, by rw [eG 74 (by decide)]; exact hR⟩
      unfold WSH
      rw [iw, inn, eG 83 (by decide), eG 61 (by decide)]
      exact hW
    refine b_In_look_8 hp hτ.1.1.2.1 hτ.1.1.1 ⟨Or.inr rfl, ⟨by decide, by decide⟩, fun _ => ?_, fun q => absurd q (by decide)⟩
    have Qπ := QQ_5 (v := 1) hp Qτ
    have f5 : z (zs τ 47 5 1) 47 5 = 1 := z_s ⟨by decide, by decide⟩
    have fu : FND s wc D (zs τ 47 5 1) u := FND_z hf (fun a ha => z_oF (by simp at ha; omega))
    have epi : ∀ a, a ∉ [47, 70, 71, 72, 73, 75, 76, 77, 78, 79, 80, 81, 82, 84, 85, 86] → z (zs τ 47 5 1) a = z σ a := fun a ha => by
      rw [z_oF (fun q => ha (by rw [q]; simp)), eG a (fun q => ha (List.mem_cons_of_mem _ q))]
    generalize zs τ 47 5 1 = π at Qπ f5 fu epi ⊢
    have w3 : z π (p + 3) = z σ (p + 3) := epi (p + 3) (by simp; omega)
    have iwπ : iW p π = iW p σ := by unfold iW; rw [epi (p + 1) (by simp; omega)]
    have innπ : iN p π = iN p σ := by unfold iN; rw [epi p (by simp; omega)]
    have gpπ := Qπ.1.1.2.1
    have hinπ := Qπ.1.1.2.2.2.2.2.2.2.2.2
    have cu := fu.1
    have bb := iW_b gp
    -- the INPUTS that were found
    obtain ⟨t, ht⟩ : ∃ t, t = cod (iW p σ) (IvN π u) (iN p σ) := ⟨_, rfl⟩
    have tb : t < 2 ^ smn (iW p σ) (iN p σ) := by
      have := IvN_cod gpπ hinπ cu.1
      rw [iwπ, innπ] at this
      rw [ht]; exact this
    have ut : IvN π u = spr (iW p σ) (iN p σ) t := by
      have := IvN_spr gpπ hinπ cu.1
      rw [iwπ, innπ] at this
      rw [ht]; exact this
    have cs : ∀ v, CSv s π v → CSv s σ v := fun v cv => CSv_z (epi 51 (by decide)) (epi 52 (by decide)) (epi 53 (by decide)) (epi 54 (by decide)) cv
    have iv : ∀ v, IvN π v = IvN σ v := fun v => IvN_cg (epi 61 (by decide))
    have pt : P (spr (iW p σ) (iN p σ) t) := by
      rw [← ut, iv]; exact (hP u (cs u cu)).mp fu.2.1
    have le : ∀ t', t' < t → ¬ P (spr (iW p σ) (iN p σ) t') := fun t' hl hp' => by
      obtain ⟨v, cv, e⟩ := IvN_all gpπ hinπ Qπ.1.1.2.2.1 Qπ.2.1.2.1.1.2 t'
      rw [iwπ, innπ] at e
      have dv : D v := (hP v (cs v cv)).mpr (by rw [← iv, e]; exact hp')
      have := FND_least gpπ hinπ Qπ.2.2.2.2.1 fu cv dv
      rw [iwπ, innπ, e, cod_spr _ _ (by omega), ← ht] at this
      omega
    have l : ∀ (m i : Nat) (ρ : q_H), 12 ≤ i + m → i ≤ iN p σ → fr [91] π ρ → (∀ i', i' < i → z ρ 91 i' = ((spr (iW p σ) (iN p σ) t i' : Nat) : Int)) → (∀ i', i ≤ i' → z ρ 91 i' = z π 91 i') → J ω m_In_look (d + 1) 0 0 0 0 21 [(0, .ref 47), (1, .int (zI (i : Int)))] [] ρ (q_kv K) := by
      intro m
      have n0 : 0 ≤ z σ p 0 := gp.1.1.1
      have nE : z π p 0 = ((iN p σ : Nat) : Int) := by rw [epi p (by simp; omega)]; unfold iN; omega
      have s256 : ∀ i, i < iN p σ → spr (iW p σ) (iN p σ) t i < 256 := fun i hi => by
        have a := spr_lt (w := iW p σ) (iN p σ) t i hi
        have b := (bb.2.1 i hi).2
        have : 2 ^ iW p σ i ≤ 2 ^ 8 := Nat.pow_le_pow_right (by decide) b
        omega
      have b91 : ∀ (i : Nat) (ρ : q_H), i ≤ iN p σ → (∀ i', i' < i → z ρ 91 i' = ((spr (iW p σ) (iN p σ) t i' : Nat) : Int)) → (∀ i', i ≤ i' → z ρ 91 i' = z π 91 i') → b256 (z ρ 91) := fun i ρ h0 h1 h2 j hj => by
        by_cases c : j < i
        · rw [h1 j c]; have := s256 j (by omega); omega
        · rw [h2 j (by omega)]; exact Qπ.2.1.2.2.2.2.2 j hj
      have out : ∀ (i : Nat) (ρ : q_H), i = iN p σ → fr [91] π ρ → (∀ i', i' < i → z ρ 91 i' = ((spr (iW p σ) (iN p σ) t i' : Nat) : Int)) → (∀ i', i ≤ i' → z ρ 91 i' = z π 91 i') → J ω m_Ma_execute d 0 0 0 0 0 [(0, .ref 87), (1, .ref p), (2, .ref 91)] [] ρ (q_kv (fun τ => J ω m_In_look (d + 1) 0 0 0 0 72 [] [] τ (q_kv K))) := fun i ρ ei g h1 h2 => by
        subst ei
        have hb := b91 _ ρ (Nat.le_refl _) h1 h2
        have Qρ := QQ_fq hp Qπ (fq_of g) (by simp) hb
        have r3 : z ρ (p + 3) = z σ (p + 3) := by rw [fr_zF g (by simp; omega)]; exact w3
        have same : ∀ j, j < 12 → WI j ≤ 8 → nw (z ρ 91) j = spr (iW p σ) (iN p σ) t j := fun j hj hw => by
          rcases Qρ.2.1.2.2.2.2.1 j hj with ⟨q, -⟩ | q
          · rw [fr_zF g (by simp; omega), nE] at q
            unfold nw
            rw [if_pos hj, h1 j (by omega), Int.toNat_natCast]
          · omega
        have hrun := Qρ.2.1.2.2.2.1 (nw (z ρ 91)) (z ρ (87 + 2))
        have rc := runF_cong2 (S := S) (W := z ρ (p + 3)) (fun x hx => (Qρ.2.1.2.2.1.2.2.2.2 x hx).1) same
        rw [rc] at hrun
        refine c_execute (m := 87) (w := 91) (by omega) (Or.inr rfl) hp (Or.inr rfl) Qρ.1.1.1.1 Qρ.2.1.2.2.1 hb (fun j hj => ?_) (by decide) hrun (fun μ hM v0 v1 v2 => ?_)
        · rcases Qρ.2.1.2.2.2.2.1 j hj with ⟨q, q2⟩ | q
          · rw [fr_zF g (by simp; omega), nE] at q
            rw [q2]
            unfold nw
            rw [if_pos hj, h1 j (by omega), Int.toNat_natCast, fr_zF g (by simp; omega), epi (p + 1) (by simp; omega)]
            exact spr_lt (w := iW p σ) (iN p σ) t j (by omega)
          · have := hb j hj
            have p9 : 2 ^ 9 ≤ 2 ^ (WI j).toNat := Nat.pow_le_pow_right (by decide) (by omega)
            unfold nw
            rw [if_pos hj]
            omega
        · obtain ⟨m1, m2, m3, mf, m5, m6⟩ := hM
          have G2 : fq [87, 88, 89, 90, 91] π μ := by
            refine fq_trans (fq_of (fr_mono g (by simp))) ⟨mf.1, mf.2.1, fun o k q => ?_, fun o ho => ?_⟩
            · rw [mf.2.2.1]
              by_cases c1 : o = 87
              · rw [zr_k (fun e => q ⟨c1, Or.inr e⟩), zr_k (fun e => q ⟨c1, Or.inl e⟩)]
              · rw [zr_o c1, zr_o c1]
            · exact mf.2.2.2 o (fun c => ho (by simp at c ⊢; omega))
          have e91 : z μ 91 = z ρ 91 := funext fun k => by
            unfold z
            rw [(mf.2.2.2 91 (by decide)).1]
            rfl
          have Qμ := QQ_fq hp Qπ G2 (by simp) (by rw [e91]; exact hb)
          rw [r3] at v0 v1 v2
          refine b_In_look_72 hp Qμ.1.1.1.2.1 Qμ.1.1.1.1 ⟨rfl, k1 μ t u Qμ (by rw [fq_z G2 (by decide)]; exact f5) (FND_z fu (fun a ha => fq_z G2 (by simp at ha ⊢; omega))) tb pt le ?_ (fun i hi => by rw [e91]; exact h1 i hi) v0 v1 v2 m5⟩
          rw [← ut]; exact IvN_cg (fq_z G2 (by decide))
      induction m with
      | zero =>
        intro i ρ a1 a2 g h1 h2
        have hρ := IS_fr hp Qπ.1 (fq_of g) (by simp)
        refine b_In_look_21 hp hρ.1.1.2.1 hρ.1.1.1 ?_
        rw [fr_zF g (show p ∉ [91] by simp; omega), nE]
        have := bb.1
        exact ⟨⟨by omega, by omega⟩, fun _ => out i ρ (by omega) g h1 h2, fun c => absurd c (by omega)⟩
      | succ m ih =>
        intro i ρ a1 a2 g h1 h2
        have hb := b91 _ ρ a2 h1 h2
        have Qρ := QQ_fq hp Qπ (fq_of g) (by simp) hb
        have hρ := Qρ.1
        have n12 := bb.1
        refine b_In_look_21 hp hρ.1.1.2.1 hρ.1.1.1 ?_
        rw [fr_zF g (show p ∉ [91] by simp; omega), nE]
        refine ⟨⟨by omega, by omega⟩, fun _ => out i ρ (by omega) g h1 h2, fun c => ?_⟩
        have hl0 := hρ.1.2.2.2.2.2.2.2.2.2.1
        have s0s := hρ.1.2.2.2.1
        have fρ : FND s wc D ρ u := FND_z fu (fun a ha => fr_zF g (by simp at ha ⊢; omega))
        have val : nV u (fun j => zXor (z ρ 61 (8 * i + j)) 0) 8 = spr (iW p σ) (iN p σ) t i := by
          rw [nV_cf (g := fun j => z π 61 (8 * i + j)) 8 (fun j hj => by
            show zXor (z ρ 61 (8 * i + j)) 0 = _
            rw [zXor_00 hs (lit_m (hl0 (8 * i + j) (by omega)) s0s.2), fr_zF g (by decide)]), ← ut]
          unfold IvN
          rw [if_pos (by omega)]
        refine i_worth2 (s := s) (u := u) (by omega) hp (Or.inl rfl) hρ.1.1.1 hρ.1.1.2.1 hs (by omega) (Or.inl rfl) (fun j hj => lit_m (hl0 j hj) s0s.2) (fun j hj => ?_) ?_
        · have lj := lit_m (hl0 (8 * i + j) (by omega)) s0s.2
          rw [zXor_00 hs lj]
          exact fρ.2.2.1 _ lj (RL_in Qρ (by omega))
        · rw [val]
          have s2 := s256 i (by omega)
          refine b_In_look_50 hp hρ.1.1.2.1 hρ.1.1.1 ⟨⟨by omega, by omega⟩, ?_⟩
          rw [Int.toNat_natCast, show (i : Int) + 1 = ((i + 1 : Nat) : Int) by omega]
          have zu : z (zs ρ 91 i ((spr (iW p σ) (iN p σ) t i : Nat) : Int)) 91 = up (z ρ 91) i ((spr (iW p σ) (iN p σ) t i : Nat) : Int) := z_up ⟨by omega, by omega⟩
          refine ih (i + 1) _ (by omega) (by omega) (fr_s g (by simp)) (fun i' hi' => ?_) (fun i' hi' => ?_)
          · rw [zu]
            by_cases q : i' = i
            · rw [q, up_s]
            · rw [up_n q]; exact h1 i' (by omega)
          · rw [zu, up_n (by omega)]; exact h2 i' (by omega)
    exact l 12 0 π (by decide) (by omega) fr_refl (fun i' hi' => absurd hi' (by omega)) (fun _ _ => rfl)
/-- a verdict that is right changes nothing -/
theorem i_verdict2 {K : Int → q_H → Prop} {x : Int} (hp : p = 16 ∨ p = 29) (hE : q_E σ) (r1 : q_r σ 47 2 = p) (ix : inR x) (h5 : z σ 47 5 = 0 ∨ (z σ 47 5 = 1 ∧ x ≠ 0)) (kk : K (z σ 47 5) σ) : J ω m_In_verdict d 0 0 0 0 0 [(0, .ref 47), (1, .int (zI x))] [] σ (q_ki K) := by
  refine b_In_verdict_0 hp r1 hE ?_
  rcases h5 with e | ⟨e, hx⟩
  · rw [e] at kk ⊢
    exact ⟨fun _ => ⟨fun _ => ⟨0, ⟨by decide, by decide⟩, rfl, kk⟩, fun q => absurd rfl q⟩, fun q => absurd rfl q⟩
  · rw [e] at kk ⊢
    exact ⟨fun q => absurd q (by decide), fun _ => ⟨ix, fun _ => ⟨fun q => absurd q (by decide), fun _ => ⟨1, ⟨by decide, by decide⟩, rfl, kk⟩⟩, fun q => absurd q hx⟩⟩
end I4J
