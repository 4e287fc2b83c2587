/-! SET, TAKE, RUN, VALUE, WITNESS, in both -/
theorem iW_z {p : Nat} {σ τ : q_H} (e : z τ (p + 1) = z σ (p + 1)) : iW p τ = iW p σ := by unfold iW; rw [e]
theorem iN_z {p : Nat} {σ τ : q_H} (e : z τ p = z σ p) : iN p τ = iN p σ := by unfold iN; rw [e]
theorem RWd_z {p : Nat} {σ τ : q_H} (h : RWd p σ) (e0 : z τ p = z σ p) (e1 : z τ (p + 1) = z σ (p + 1)) (e6 : z τ 106 = z σ 106) (k26 : z τ 94 26 = z σ 94 26) (k29 : z τ 94 29 = z σ 94 29) : RWd p τ := by
  unfold RWd iW iN at h ⊢
  rw [e0, e1, e6, k26, k29]
  exact h
section SvJ
variable {ω : q_W} {d p q s V w : Nat} {WI : Nat → Int} {Nt : Nat → q_It} {S : List q_St} {σ τ : q_H} {x1 x2 : Int} {Q : q_R → q_H → Prop}
theorem m_value {K : Int → q_H → Prop} (hd : 1 ≤ d) (hR : RQ s σ) (h31 : z σ 94 31 ≠ 0) (h27 : z σ 94 27 = (V : Int)) (hV : V ≤ 12) (i1 : inR x1) (k1 : 0 ≤ x1 → x1 < (V : Int) → K (z σ 129 x1.toNat) (zs σ 94 0 0)) (k0 : ¬ (0 ≤ x1 ∧ x1 < (V : Int)) → K 0 (zs σ 94 0 2)) : J ω m_M_value d 0 0 0 0 0 [(0, .ref 94), (1, .int (zI x1))] [] σ (q_ki K) := by
  obtain ⟨d, rfl⟩ : ∃ k, d = k + 1 := ⟨d - 1, by omega⟩
  obtain ⟨⟨hs, r0, r1, r2, r3, r4, r5⟩, hE⟩ := id hR
  refine b_M_value_0 hs r0 r1 r2 r3 r4 r5 hE ⟨fun _ => m_isVar hR i1 h27 (fun c1 c2 => ?_) (fun c => ?_), fun c => absurd c h31⟩
  · exact b_M_value_18 hs r0 r1 r2 r3 r4 r5 hE ⟨⟨by decide, by decide⟩, fun _ => ⟨⟨c1, by omega⟩, ⟨_, z_R _ _ _, rfl, k1 c1 c2⟩⟩, fun c => absurd c (by decide)⟩
  · exact b_M_value_18 hs r0 r1 r2 r3 r4 r5 hE ⟨⟨by decide, by decide⟩, fun q => absurd rfl q, fun _ => m_no hE (b_M_value_26 hs r0 r1 r2 r3 r4 r5 (zs_E hE) ⟨0, ⟨by decide, by decide⟩, rfl, k0 c⟩)⟩
theorem m_set {K : q_H → Prop} (hd : 1 ≤ d) (hR : RQ s σ) (h31 : z σ 94 31 ≠ 0) (h26 : z σ 94 26 ≤ 12) (i1 : inR x1) (i2 : inR x2) (k1 : 0 ≤ x1 → x1 < z σ 94 26 → K (zs (zs σ 94 0 0) 126 x1.toNat (zAnd x2 (zShl 1 (z σ 106 x1.toNat) - 1)))) (k0 : ¬ (0 ≤ x1 ∧ x1 < z σ 94 26) → K (zs σ 94 0 2)) : J ω m_M_set d 0 0 0 0 0 [(0, .ref 94), (1, .int (zI x1)), (2, .int (zI x2))] [] σ (q_kv K) := by
  obtain ⟨d, rfl⟩ : ∃ k, d = k + 1 := ⟨d - 1, by omega⟩
  obtain ⟨⟨hs, r0, r1, r2, r3, r4, r5⟩, hE⟩ := id hR
  have no : ¬ (0 ≤ x1 ∧ x1 < z σ 94 26) → J ω m_M_set (d + 1) 0 0 0 0 19 [(0, .ref 94)] [] σ (q_kv K) := fun c => b_M_set_19 hs r0 r1 r2 r3 r4 r5 hE ⟨fun q => absurd q h31, fun _ => ⟨rfl, k0 c⟩⟩
  exact b_M_set_0 hs r0 r1 r2 r3 r4 r5 hE ⟨fun q => absurd q h31, fun _ => ⟨i1, fun c => no (by omega), fun c0 => ⟨fun c1 => ⟨⟨c0, by omega⟩, i2, rfl, k1 c0 c1⟩, fun c => no (by omega)⟩⟩⟩
theorem m_take {K : q_H → Prop} (hd : 2 ≤ d) (hp : p = 16 ∨ p = 29) (hR : RQ s σ) (h31 : z σ 94 31 ≠ 0) (hw : RWd p σ) (h62 : z σ 94 62 < 4096) (k1 : ∀ t : Nat, z σ 94 62 = (t : Int) → ∀ τ, fr [94, 126] σ τ → z τ 94 0 = 0 → (∀ k, k ≠ 0 → z τ 94 k = z σ 94 k) → (∀ i, i < iN p σ → z τ 126 i = ((spr (iW p σ) (iN p σ) t i : Nat) : Int)) → (∀ i, iN p σ ≤ i → z τ 126 i = z σ 126 i) → K τ) (k0 : z σ 94 62 < 0 → K (zs σ 94 0 2)) : J ω m_M_take d 0 0 0 0 0 [(0, .ref 94)] [] σ (q_kv K) := by
  obtain ⟨d, rfl⟩ : ∃ k, d = k + 1 := ⟨d - 1, by omega⟩
  obtain ⟨⟨hs, r0, r1, r2, r3, r4, r5⟩, hE⟩ := id hR
  refine b_M_take_0 hs r0 r1 r2 r3 r4 r5 hE ⟨fun q => absurd q h31, fun _ => ⟨fun c => ?_, fun c => b_M_take_14 hs r0 r1 r2 r3 r4 r5 hE ⟨fun q => absurd q h31, fun _ => ⟨rfl, k0 c⟩⟩⟩⟩
  obtain ⟨t, ht⟩ : ∃ t : Nat, z σ 94 62 = (t : Int) := ⟨(z σ 94 62).toNat, by omega⟩
  rw [ht]
  have F : fr [94] σ (zs σ 94 0 0) := fr_s fr_refl (by simp)
  have e0 : z (zs σ 94 0 0) p = z σ p := z_oF (by omega)
  have e1 : z (zs σ 94 0 0) (p + 1) = z σ (p + 1) := z_oF (by omega)
  have hw2 : RWd p (zs σ 94 0 0) := RWd_z hw e0 e1 (z_oF (by decide)) (z_k (by decide)) (z_k (by decide))
  refine k_spread (p := p) (by omega) (RQ_f hR F) (Or.inr (Or.inl rfl)) hw2 (by omega) (fun τ f s1 s2 => ?_)
  rw [iW_z e1, iN_z e0] at s1
  rw [iN_z e0] at s2
  obtain ⟨⟨-, q0, q1, q2, q3, q4, q5⟩, Eτ⟩ := RQ_f (RQ_f hR F) f
  refine b_M_take_48 hs q0 q1 q2 q3 q4 q5 Eτ ⟨rfl, k1 t ht τ (fr_trans (fr_mono F (by simp)) (fr_mono f (by simp))) ?_ (fun k hk => ?_) s1 (fun i hi => ?_)⟩
  · rw [fr_zF f (by decide)]; exact z_s ⟨by decide, by decide⟩
  · rw [fr_zF f (by decide)]; exact z_k hk
  · rw [s2 i hi]; exact z_o (by decide)
theorem m_witness {K : Int → q_H → Prop} (hd : 2 ≤ d) (hp : p = 16 ∨ p = 29) (hR : RQ s σ) (h31 : z σ 94 31 ≠ 0) (hw : RWd p σ) (h62 : z σ 94 62 < 4096) (i1 : inR x1) (k1 : ∀ t : Nat, z σ 94 62 = (t : Int) → 0 ≤ x1 → x1 < z σ 94 26 → ∀ τ, fr [94, 127] σ τ → z τ 94 0 = 0 → (∀ k, k ≠ 0 → z τ 94 k = z σ 94 k) → K ((spr (iW p σ) (iN p σ) t x1.toNat : Nat) : Int) τ) (k0 : ¬ (0 ≤ z σ 94 62 ∧ 0 ≤ x1 ∧ x1 < z σ 94 26) → K 0 (zs σ 94 0 2)) : J ω m_M_witness d 0 0 0 0 0 [(0, .ref 94), (1, .int (zI x1))] [] σ (q_ki K) := by
  obtain ⟨d, rfl⟩ : ∃ k, d = k + 1 := ⟨d - 1, by omega⟩
  obtain ⟨⟨hs, r0, r1, r2, r3, r4, r5⟩, hE⟩ := id hR
  have no : ¬ (0 ≤ z σ 94 62 ∧ 0 ≤ x1 ∧ x1 < z σ 94 26) → J ω m_M_no d 0 0 0 0 0 [(0, .ref 94), (1, .int (zI 2))] [] σ (q_ki (fun v τ => J ω m_M_witness (d + 1) 0 0 0 0 37 [] [.int (zI v)] τ (q_ki K))) := fun c => m_no hE (b_M_witness_37 hs r0 r1 r2 r3 r4 r5 (zs_E hE) ⟨0, ⟨by decide, by decide⟩, rfl, k0 c⟩)
  refine b_M_witness_0 hs r0 r1 r2 r3 r4 r5 hE ⟨fun _ => ⟨fun c => no (by omega), fun c => ⟨i1, fun c1 => no (by omega), fun c1 => ⟨fun c2 => ?_, fun c2 => no (by omega)⟩⟩⟩, fun q => absurd q h31⟩
  obtain ⟨t, ht⟩ : ∃ t : Nat, z σ 94 62 = (t : Int) := ⟨(z σ 94 62).toNat, by omega⟩
  rw [ht]
  have F : fr [94] σ (zs σ 94 0 0) := fr_s fr_refl (by simp)
  have e0 : z (zs σ 94 0 0) p = z σ p := z_oF (by omega)
  have e1 : z (zs σ 94 0 0) (p + 1) = z σ (p + 1) := z_oF (by omega)
  have hw2 : RWd p (zs σ 94 0 0) := RWd_z hw e0 e1 (z_oF (by decide)) (z_k (by decide)) (z_k (by decide))
  have w1 := hw.1
  have w2 := hw.2.1
  refine k_spread (p := p) (by omega) (RQ_f hR F) (Or.inr (Or.inr rfl)) hw2 (by omega) (fun τ f s1 s2 => ?_)
  rw [iW_z e1, iN_z e0] at s1
  obtain ⟨⟨-, q0, q1, q2, q3, q4, q5⟩, Eτ⟩ := RQ_f (RQ_f hR F) f
  refine b_M_witness_55 hs q0 q1 q2 q3 q4 q5 Eτ ⟨⟨c1, by omega⟩, ?_⟩
  have e := s1 x1.toNat (by omega)
  rw [e]
  refine ⟨_, by rw [← e]; exact z_R _ _ _, rfl, k1 t ht c1 c2 τ (fr_trans (fr_mono F (by simp)) (fr_mono f (by simp))) ?_ (fun k hk => ?_)⟩
  · rw [fr_zF f (by decide)]; exact z_s ⟨by decide, by decide⟩
  · rw [fr_zF f (by decide)]; exact z_k hk
theorem nw_v {f : Nat → Int} {g : Nat → Nat} {v : Nat} (h : nw f = g) (h0 : 0 ≤ f v) (hv : v < 12) : f v = ((g v : Nat) : Int) := by
  have a := congrFun h v
  unfold nw at a
  rw [if_pos hv] at a
  omega
theorem mm_run {K : Int → q_H → Prop} (hd : 861 ≤ d) (hp : p = 16 ∨ p = 29) (h : RPg p s V WI Nt S w σ) (h31 : z σ 94 31 ≠ 0) (h27 : z σ 94 27 = (V : Int)) (h126 : n16 (z σ 126)) (hI : ∀ i : Nat, (i : Int) < z σ p 0 → z σ 126 i < 2 ^ (z σ (p + 1) i).toNat) (kk : ∀ (r : q_Sp) (τ : q_H), r = runF S (z σ (p + 3)) (nw (z σ 126)) → fr [94, 125, 128, 129, 130] σ τ → (∀ k, k ∉ [0, 61, 63] → z τ 94 k = z σ 94 k) → z τ 94 0 = 0 → n16 (z τ 125) → z τ 94 63 = (if r.1 = 1 then r.2.1 else -1) → (∀ v, v < V → z τ 129 v = ((r.2.2 v : Nat) : Int)) → K r.1 τ) : J ω m_M_run d 0 0 0 0 0 [(0, .ref 94)] [] σ (q_ki K) := by
  obtain ⟨d, rfl⟩ : ∃ k, d = k + 1 := ⟨d - 1, by omega⟩
  obtain ⟨⟨hs, r0, r1, r2, r3, r4, r5⟩, hE⟩ := id h.1
  have v12 := h.2.2.2.2.2.2.2.2.2.1
  have n12 : iN p σ ≤ 12 := h.2.2.2.2.2.2.2.2.1.2.1
  generalize hr : runF S (z σ (p + 3)) (nw (z σ 126)) = r at kk
  have two : ∀ (ρ2 : q_H), fr [94, 125, 128, 129, 130] σ ρ2 → (∀ k, k ≠ 0 → k ≠ 61 → z ρ2 94 k = z σ 94 k) → z ρ2 94 0 = 0 → n16 (z ρ2 125) → z ρ2 94 61 = r.2.1 → (∀ v, v < 12 → z ρ2 128 v = ((r.2.2 v : Nat) : Int)) → (0 ≤ r.1 ∧ r.1 ≤ 2) → ∀ (m n : Nat) (ρ : q_H), V ≤ n + m → n ≤ V → fr [129] ρ2 ρ → (∀ v, v < n → z ρ 129 v = ((r.2.2 v : Nat) : Int)) → J ω m_M_run (d + 1) 0 0 0 0 51 [(0, .ref 94), (1, .int (zI r.1)), (2, .int (zI (n : Int)))] [] ρ (q_ki K) := fun ρ2 g gk g0 gn g61 g128 gr => by
    intro m
    have out : ∀ (n : Nat) (ρ : q_H), V ≤ n → fr [129] ρ2 ρ → (∀ v, v < n → z ρ 129 v = ((r.2.2 v : Nat) : Int)) → ∀ e : Int, inR e → e = (if r.1 = 1 then r.2.1 else -1) → q_ki K (.inl (some (.int (zI r.1)))) (zs ρ 94 63 e) := fun n ρ c f a e ie he => by
      have e94 : z ρ 94 = z ρ2 94 := fr_zF f (by decide)
      refine ⟨r.1, ⟨by omega, by omega⟩, rfl, kk r _ rfl (fr_s (fr_trans g (fr_mono f (by simp))) (by simp)) (fun k hk => ?_) ?_ ?_ ?_ (fun v hv => ?_)⟩
      · simp only [List.mem_cons, List.not_mem_nil, or_false, not_or] at hk
        rw [z_k hk.2.2, e94]; exact gk k hk.1 hk.2.1
      · rw [z_k (by decide), e94]; exact g0
      · rw [z_oF (by decide), fr_zF f (by decide)]; exact gn
      · rw [z_s ie]; exact he
      · rw [z_o (by decide)]; exact a v (by omega)
    have e27 : ∀ ρ, fr [129] ρ2 ρ → z ρ 94 27 = (V : Int) := fun ρ f => by
      rw [fr_zF f (by decide), gk 27 (by decide) (by decide)]; exact h27
    have e61 : ∀ ρ, fr [129] ρ2 ρ → z ρ 94 61 = r.2.1 := fun ρ f => by
      rw [fr_zF f (by decide)]; exact g61
    have i61 : inR r.2.1 := by rw [← g61]; exact z_R _ _ _
    induction m with
    | zero =>
      intro n ρ a1 a2 f a
      obtain ⟨⟨-, q0, q1, q2, q3, q4, q5⟩, Eτ⟩ := RQ_f (RQ_f h.1 g) f
      refine b_M_run_51 hs q0 q1 q2 q3 q4 q5 Eτ ?_
      rw [e27 ρ f, e61 ρ f]
      exact ⟨⟨by omega, by omega⟩, fun _ => ⟨⟨by omega, by omega⟩, fun c => out n ρ (by omega) f a (-1) ⟨by decide, by decide⟩ (by rw [if_neg c]), fun c => out n ρ (by omega) f a _ i61 (by rw [if_pos c])⟩, fun c => absurd c (by omega)⟩
    | succ m ih =>
      intro n ρ a1 a2 f a
      obtain ⟨⟨-, q0, q1, q2, q3, q4, q5⟩, Eτ⟩ := RQ_f (RQ_f h.1 g) f
      refine b_M_run_51 hs q0 q1 q2 q3 q4 q5 Eτ ?_
      rw [e27 ρ f, e61 ρ f, Int.toNat_natCast, show (n : Int) + 1 = ((n + 1 : Nat) : Int) by omega]
      refine ⟨⟨by omega, by omega⟩, fun _ => ⟨⟨by omega, by omega⟩, fun c => out n ρ (by omega) f a (-1) ⟨by decide, by decide⟩ (by rw [if_neg c]), fun c => out n ρ (by omega) f a _ i61 (by rw [if_pos c])⟩, fun c => ⟨⟨by omega, by omega⟩, ih (n + 1) _ (by omega) (by omega) (fr_s f (by simp)) (fun v hv => ?_)⟩⟩
      rw [z_up (z_R _ _ _)]
      by_cases q : v = n
      · rw [q, up_s, fr_zF f (by decide)]; exact g128 n (by omega)
      · rw [up_n q]; exact a v (by omega)
  have l : ∀ (m n : Nat) (ρ : q_H), 16 ≤ n + m → n ≤ 16 → fr [94, 125] σ ρ → (∀ k, k ≠ 0 → z ρ 94 k = z σ 94 k) → z ρ 94 0 = 0 → (∀ i, i < n → z ρ 125 i = z σ 126 i) → J ω m_M_run (d + 1) 0 0 0 0 20 [(0, .ref 94), (1, .int (zI (n : Int)))] [] ρ (q_ki K) := by
    intro m
    have out : ∀ (n : Nat) (ρ : q_H), 16 ≤ n → fr [94, 125] σ ρ → (∀ k, k ≠ 0 → z ρ 94 k = z σ 94 k) → z ρ 94 0 = 0 → (∀ i, i < n → z ρ 125 i = z σ 126 i) → J ω m_M_runWhole d 0 0 0 0 0 [(0, .ref 94)] [] ρ (q_ki (fun v τ => J ω m_M_run (d + 1) 0 0 0 0 48 [(0, .ref 94)] [.int (zI v)] τ (q_ki K))) := fun n ρ c f fk f0 a => by
      have n16ρ : n16 (z ρ 125) := fun i hi => by rw [a i (by omega)]; exact h126 i hi
      have hρ : RPg p s V WI Nt S w ρ := RPg_fr hp h (fr_mono f (by simp)) (fun k hk => fk k (by rintro rfl; simp at hk)) n16ρ
      have e0 : z ρ p = z σ p := fr_zF f (by simp; omega)
      have e1 : z ρ (p + 1) = z σ (p + 1) := fr_zF f (by simp; omega)
      have e3 : z ρ (p + 3) = z σ (p + 3) := fr_zF f (by simp; omega)
      have en : nw (z ρ 125) = nw (z σ 126) := funext fun i => by
        unfold nw
        by_cases q : i < 12
        · rw [if_pos q, if_pos q, a i (by omega)]
        · rw [if_neg q, if_neg q]
      refine k_run2 (by omega) hρ (fun i hi => ?_) (fun ρ2 hw hu hv => ?_)
      · rw [e0] at hi
        have : i < 12 := by unfold iN at n12; omega
        rw [a i (by omega), e1]; exact hI i hi
      · rw [e3, en, hr] at hw hu hv ⊢
        obtain ⟨f2, k2, z61, p128⟩ := hw
        have g : fr [94, 125, 128, 129, 130] σ ρ2 := fr_trans (fr_mono f (by simp)) (fr_mono f2 (by simp))
        obtain ⟨⟨-, q0, q1, q2, q3, q4, q5⟩, Eτ⟩ := RQ_f h.1 g
        refine b_M_run_48 hs q0 q1 q2 q3 q4 q5 Eτ ?_
        exact two ρ2 g (fun k c0 c1 => by rw [k2 k c1]; exact fk k c0) (by rw [k2 0 (by decide)]; exact f0) (by rw [fr_zF f2 (by decide)]; exact n16ρ) z61 (fun v hv => nw_v hu (p128 v (by omega)) hv) hv V 0 ρ2 (by omega) (by omega) fr_refl (fun v hv => absurd hv (by omega))
    induction m with
    | zero =>
      intro n ρ a1 a2 f fk f0 a
      obtain ⟨⟨-, q0, q1, q2, q3, q4, q5⟩, Eτ⟩ := RQ_f h.1 f
      exact b_M_run_20 hs q0 q1 q2 q3 q4 q5 Eτ ⟨⟨by omega, by omega⟩, fun _ => out n ρ (by omega) f fk f0 a, fun c => absurd c (by omega)⟩
    | succ m ih =>
      intro n ρ a1 a2 f fk f0 a
      obtain ⟨⟨-, q0, q1, q2, q3, q4, q5⟩, Eτ⟩ := RQ_f h.1 f
      refine b_M_run_20 hs q0 q1 q2 q3 q4 q5 Eτ ⟨⟨by omega, by omega⟩, fun _ => out n ρ (by omega) f fk f0 a, fun c => ⟨⟨by omega, by omega⟩, ?_⟩⟩
      rw [Int.toNat_natCast, show (n : Int) + 1 = ((n + 1 : Nat) : Int) by omega]
      refine ih (n + 1) _ (by omega) (by omega) (fr_s f (by simp)) (fun k hk => by rw [z_o (by decide)]; exact fk k hk) (by rw [z_o (by decide)]; exact f0) (fun i hi => ?_)
      rw [z_up (z_R _ _ _)]
      by_cases q : i = n
      · rw [q, up_s, fr_zF f (by decide)]
      · rw [up_n q]; exact a i (by omega)
  refine b_M_run_0 hs r0 r1 r2 r3 r4 r5 hE ⟨fun _ => ?_, fun c => absurd c h31⟩
  exact l 16 0 _ (by decide) (by decide) (fr_s fr_refl (by simp)) (fun k hk => z_k hk) (z_s ⟨by decide, by decide⟩) (fun i hi => absurd hi (by omega))
/-! the class -/
theorem h_value (hd : 6 ≤ d) (hp : p = 16 ∨ p = 29) (hq : q = 16 ∨ q = 29) (r12 : q_r σ 1 2 = p) (r13 : q_r σ 1 3 = q) (hE : q_E σ) (h14 : z σ 1 4 = 1) (h4 : z σ p 4 = (V : Int)) (hV : V ≤ 12) (hn : q_n σ < 900000) (r1 : inR x1) (kx : ¬ (0 ≤ x1 ∧ x1 < (V : Int)) → Q (.inr (q_n σ + 1)) (q_add σ (5, 3))) (kk : 0 ≤ x1 → x1 < (V : Int) → Q (.inl (some (.int (zI (z σ 44 x1.toNat))))) σ) : J ω m_H_value (d + 1) 1 6 0 0 0 [(0, .ref 1), (1, .int (zI x1))] [] σ Q := by
  refine b_H_value_0 (mc := 0) (ms := 0) hp r12 hq r13 hE (np_ok hE (by omega) (Or.inl ⟨rfl, ?_⟩))
  by_cases c1 : 0 ≤ x1 ∧ x1 < (V : Int)
  · exact b_H_value_4 (mc := 0) (ms := 0) hp r12 hq r13 hE (nv_ok hp r12 hE r1 c1.1 (by omega) (Or.inl ⟨rfl, b_H_value_9 (mc := 0) (ms := 0) hp r12 hq r13 hE ⟨⟨c1.1, by omega⟩, kk c1.1 c1.2⟩⟩))
  · exact t_H_value_4 hd hp r12 hq r13 hE r1 hn (by rw [h4]; exact c1) (kx c1)
theorem h_set (hd : 6 ≤ d) (hp : p = 16 ∨ p = 29) (hq : q = 16 ∨ q = 29) (r12 : q_r σ 1 2 = p) (r13 : q_r σ 1 3 = q) (hE : q_E σ) (h14 : z σ 1 4 = 1) (h0 : z σ p 0 ≤ 12) (hn : q_n σ < 900000) (r1 : inR x1) (kx : ¬ (0 ≤ x1 ∧ x1 < z σ p 0) → Q (.inr (q_n σ + 1)) (q_add σ (5, 3))) (kk : 0 ≤ x1 → x1 < z σ p 0 → Q (.inl none) (zs σ 42 x1.toNat (zAnd x2 (zShl 1 (z σ (p + 1) x1.toNat) - 1)))) : J ω m_H_set (d + 1) 1 6 0 0 0 [(0, .ref 1), (1, .int (zI x1)), (2, .int (zI x2))] [] σ Q :=
  b_H_set_0 (mc := 0) (ms := 0) hp r12 hq r13 hE (np_ok hE (by omega) (Or.inl ⟨rfl, b_H_set_4 (mc := 0) (ms := 0) hp r12 hq r13 hE ⟨r1, fun c => ⟨hn, by omega, kx (by omega)⟩, fun c0 => ⟨fun c1 => ⟨⟨c0, by omega⟩, kk c0 c1⟩, fun c => ⟨hn, by omega, kx (by omega)⟩⟩⟩⟩))
theorem h_take (hd : 6 ≤ d) (hp : p = 16 ∨ p = 29) (hq : q = 16 ∨ q = 29) (r12 : q_r σ 1 2 = p) (r13 : q_r σ 1 3 = q) (hE : q_E σ) (h14 : z σ 1 4 = 1) (h0 : 0 ≤ z σ p 0 ∧ z σ p 0 ≤ 12) (hn : q_n σ < 900000) (kx : z σ 47 5 = 0 → Q (.inr (q_n σ + 1)) (q_add σ (5, 3))) (kk : z σ 47 5 ≠ 0 → Q (.inl none) (zcp σ 91 0 42 0 (z σ p 0).toNat)) : J ω m_H_take (d + 1) 1 6 0 0 0 [(0, .ref 1)] [] σ Q :=
  b_H_take_0 (mc := 0) (ms := 0) hp r12 hq r13 hE (np_ok hE (by omega) (Or.inl ⟨rfl, b_H_take_4 (mc := 0) (ms := 0) hp r12 hq r13 hE ⟨fun c => ⟨⟨by decide, by decide, by omega, by omega, by omega⟩, kk c⟩, fun c => ⟨hn, by omega, kx c⟩⟩⟩))
theorem h_witness (hd : 6 ≤ d) (hp : p = 16 ∨ p = 29) (hq : q = 16 ∨ q = 29) (r12 : q_r σ 1 2 = p) (r13 : q_r σ 1 3 = q) (hE : q_E σ) (h14 : z σ 1 4 = 1) (h0 : z σ p 0 ≤ 12) (hn : q_n σ < 900000) (r1 : inR x1) (kx : ¬ (z σ 47 5 ≠ 0 ∧ 0 ≤ x1 ∧ x1 < z σ p 0) → Q (.inr (q_n σ + 1)) (q_add σ (5, 3))) (kk : z σ 47 5 ≠ 0 → 0 ≤ x1 → x1 < z σ p 0 → Q (.inl (some (.int (zI (z σ 91 x1.toNat))))) σ) : J ω m_H_witness (d + 1) 1 6 0 0 0 [(0, .ref 1), (1, .int (zI x1))] [] σ Q :=
  b_H_witness_0 (mc := 0) (ms := 0) hp r12 hq r13 hE (np_ok hE (by omega) (Or.inl ⟨rfl, b_H_witness_4 (mc := 0) (ms := 0) hp r12 hq r13 hE ⟨fun c => ⟨hn, by omega, kx (by omega)⟩, fun c5 => ⟨r1, fun c => ⟨hn, by omega, kx (by omega)⟩, fun c0 => ⟨fun c1 => ⟨⟨c0, by omega⟩, kk c5 c0 c1⟩, fun c => ⟨hn, by omega, kx (by omega)⟩⟩⟩⟩⟩))
theorem h_run (hd : 6 ≤ d) (hp : p = 16 ∨ p = 29) (hq : q = 16 ∨ q = 29) (r12 : q_r σ 1 2 = p) (r13 : q_r σ 1 3 = q) (hE : q_E σ) (h14 : z σ 1 4 = 1) (hS : PS2 p WI V S σ) (hb : b256 (z σ 42)) (hIo : uO WI (nw (z σ 42))) (hrun : mIt S (z σ (p + 3)) (nw (z σ 42)) 999999 (0, fun _ => 0, z σ 45) = .inr (runF S (z σ (p + 3)) (nw (z σ 42)))) (kk : ∀ (r : q_Sp) (τ : q_H), r = runF S (z σ (p + 3)) (nw (z σ 42)) → frE [43, 44, 45, 46] (fun o k => o = 43 ∧ (k = 5 ∨ k = 6)) σ τ → q_E τ → z τ 43 1 = r.2.1 → nw (z τ 44) = r.2.2 → b256 (z τ 44) → Q (.inl (some (.int (zI r.1)))) τ) : J ω m_H_run (d + 1) 1 6 0 0 0 [(0, .ref 1)] [] σ Q := by
  refine b_H_run_0 (mc := 0) (ms := 0) hp r12 hq r13 hE (np_ok hE (by omega) (Or.inl ⟨rfl, b_H_run_4 (mc := 0) (ms := 0) hp r12 hq r13 hE ?_⟩))
  generalize hr : runF S (z σ (p + 3)) (nw (z σ 42)) = r at kk hrun
  refine c_execute (m := 43) (w := 42) (v := r.1) (f := r.2.1) (U' := r.2.2) (by omega) (Or.inl rfl) hp (Or.inl rfl) hE hS hb hIo (by decide) hrun (fun μ hM v0 v1 v2 => ?_)
  obtain ⟨m1, m2, m3, mf, m5, m6⟩ := hM
  have G : frE [43, 44, 45, 46] (fun o k => o = 43 ∧ (k = 5 ∨ k = 6)) σ μ := by
    refine ⟨mf.1, mf.2.1, fun o k q => ?_, fun o ho => ?_⟩
    · rw [mf.2.2.1]
      by_cases c1 : o = 43
      · rw [zr_k (fun e => q ⟨c1, Or.inr e⟩), zr_k (fun e => q ⟨c1, Or.inl e⟩)]
      · rw [zr_o c1, zr_o c1]
    · exact mf.2.2.2 o (fun c => ho (by simp at c ⊢; omega))
  refine b_H_run_19 (mc := 0) (ms := 0) hp (by rw [frE_r G (by simp)]; exact r12) hq (by rw [frE_r G (by simp)]; exact r13) m1 ?_
  rw [v0]
  exact kk r μ rfl G m1 v1 v2 m5
end SvJ
