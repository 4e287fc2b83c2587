/-! THE ENCODER, safety: perform, encode -/
section EpP
variable {ω : q_W} {d p fm s : Nat} {R : Prop} {σ σ0 : q_H}
theorem NX_set {k m : Nat} (hp : p = 16 ∨ p = 29) (h : NX p fm R σ0 σ s) (hR : R) (hm : m ≤ 8) : NX p fm R σ0 (zcp σ 58 0 62 k m) s := by
  obtain ⟨⟨hE, r1⟩, gp, hc, a1, a2, a3, a4, a5, a6, a7, a8, f⟩ := h
  have e : ∀ a, a ≠ 62 → z (zcp σ 58 0 62 k m) a = z σ a := fun a ha => funext fun j => z_cp_o ha
  refine ⟨⟨zcp_E hE, r1⟩, GP_cong gp (fun o _ _ => e o (by omega)), ⟨?_, ?_⟩, ?_, ?_, ?_, ?_, ?_, ?_, ?_, ?_, fr_c f (by unfold SEn; simp)⟩
  · rw [e 50 (by decide)]; exact hc.1
  · rw [e 51 (by decide), e 52 (by decide), e 53 (by decide), e 54 (by decide), e 55 (by decide), e 56 (by decide), e 57 (by decide)]; exact hc.2
  · intro j hj
    rw [e 61 (by decide)]
    refine ⟨(a1 j hj).1, ?_⟩
    by_cases c : k ≤ j ∧ j < k + m
    · rw [z_cp_in c]; exact a8 hR _ (by omega)
    · rw [z_cp_out c]; exact (a1 j hj).2
  · rw [e 63 (by decide)]; exact a2
  · rw [e 48 (by decide)]; exact a3
  · rw [e 48 (by decide)]; exact a4
  · rw [e 64 (by decide)]; exact a5
  · rw [e 65 (by decide), e 66 (by decide), e 67 (by decide)]; exact a6
  · rw [e 48 (by decide)]; exact a7
  · rw [e 58 (by decide)]; exact a8
theorem dp_s {A : Nat → Int} {x : Int} (h : 0 ≤ x) : dp A (x + 1).toNat = dp A x.toNat + dl (A x.toNat) := by
  rw [show (x + 1).toNat = x.toNat + 1 by omega]; rfl
theorem n_perform {K : Int → q_H → Prop} {x1 : Int} (hd : 5 ≤ d) (hp : p = 16 ∨ p = 29) (h : NX p fm R σ0 σ s) (h1 : 0 ≤ x1 ∧ x1 < z σ p 11) (hdp : (fm : Int) = dp (z σ (p + 5)) x1.toNat) (hR : z σ (p + 5) x1.toNat = 1 ∨ z σ (p + 5) x1.toNat = 2 ∨ z σ (p + 5) x1.toNat = 3 ∨ z σ (p + 5) x1.toNat = 4 ∨ z σ (p + 5) x1.toNat = 8 → R)
    (kk : ∀ v τ s' fm', 0 ≤ v ∧ v ≤ z σ p 11 → ((fm' : Nat) : Int) = dp (z σ (p + 5)) v.toNat → (z σ (p + 5) x1.toNat = 7 → v = x1 + 1) → NX p fm' R σ0 τ s' → K v τ) : J ω m_En_perform d 0 0 0 0 0 [(0, .ref 48), (1, .int (zI x1)), (2, .int (zI (z σ (p + 6) x1.toNat)))] [] σ (q_ki K) := by
  obtain ⟨d, rfl⟩ : ∃ k, d = k + 1 := ⟨d - 1, by omega⟩
  obtain ⟨n0, n1, n2⟩ := h.2.1.2.2.2.1
  obtain ⟨s1, s2, s3, s4, s5, s6, s7, s8, s9, s10, s11⟩ := n2 x1.toNat (by omega)
  have wd := h.2.1.2.2.2.2.2.2.2
  have r1 := h.1.2
  have hE := h.1.1
  have ret : ∀ (v : Int) τ t fm', 0 ≤ v ∧ v ≤ z σ p 11 → ((fm' : Nat) : Int) = dp (z σ (p + 5)) v.toNat → (z σ (p + 5) x1.toNat = 7 → v = x1 + 1) → NX p fm' R σ0 τ t → q_ki K (.inl (some (.int (zI v)))) τ := fun v τ t fm' hv hf h7 ht => ⟨v, ⟨by omega, by omega⟩, rfl, kk v τ t fm' hv hf h7 ht⟩
  have nxt : dl (z σ (p + 5) x1.toNat) = 0 → ∀ τ t, NX p fm R σ0 τ t → q_ki K (.inl (some (.int (zI (x1 + 1))))) τ := fun hz τ t ht => ret (x1 + 1) τ t fm ⟨by omega, by omega⟩ (by rw [dp_s h1.1, hz]; omega) (fun _ => rfl) ht
  refine b_En_perform_0 hp r1 hE ⟨⟨by omega, by omega⟩, fun c => ?_, fun c => ?_, fun c => ?_, fun c => ?_, fun c => ?_, fun c => ?_, fun c => ?_, fun c => ?_, fun c => ?_⟩
  · have h3 := s3 c
    have w := wd (z σ (p + 6) x1.toNat).toNat (by omega)
    exact ⟨h3, ⟨by omega, by omega, w.1, by omega, by omega⟩, nxt (by rw [c]; rfl) _ s (NX_set hp h (hR (by omega)) (by omega))⟩
  · exact n_truth (by omega) hp h (hR (by omega)) (fun v τ t ht hs hv _ => b_En_perform_97 hp ht.1.2 ht.1.1 (n_claim (by omega) hp ht (s4 c) hv (fun τ2 t2 ht2 => b_En_perform_100 hp ht2.1.2 ht2.1.1 (nxt (by rw [c]; rfl) τ2 t2 ht2))))
  · refine n_truth (by omega) hp h (hR (by omega)) (fun v τ t ht hs hv e48 => b_En_perform_123 hp ht.1.2 ht.1.1 ?_)
    exact n_and (by omega) hp ht (lit_m h.2.2.2.2.2.1 hs) hv (fun v2 τ2 t2 ht2 hs2 hv2 _ => b_En_perform_126 hp ht2.1.2 ht2.1.1 (nxt (by rw [c]; rfl) _ t2 (NX_w hp ht2 (Or.inl rfl) (fun _ => by decide) (fun _ => hv2) (fun _ c => absurd c (by decide)))))
  · refine n_truth (by omega) hp h (hR (by omega)) (fun v τ t ht hs hv _ => b_En_perform_141 hp ht.1.2 ht.1.1 (n_fork (by omega) hp ht (by omega) hv (fun τ2 t2 ht2 => b_En_perform_144 hp ht2.1.2 ht2.1.1 (ret (x1 + 1) τ2 t2 (fm + 1) ⟨by omega, by omega⟩ ?_ (fun _ => rfl) ht2))))
    rw [dp_s h1.1, c]; show ((fm + 1 : Nat) : Int) = _ + 1; omega
  · have := s9 (by omega)
    exact n_swap hp h (by omega) (fun τ ht => b_En_perform_151 hp ht.1.2 ht.1.1 (nxt (by rw [c]; rfl) τ s ht))
  · have := s9 (by omega)
    obtain ⟨f2, rfl⟩ : ∃ k, fm = k + 1 := ⟨fm - 1, by omega⟩
    refine n_join (by omega) hp h (fun τ t ht => b_En_perform_158 hp ht.1.2 ht.1.1 (ret (x1 + 1) τ t f2 ⟨by omega, by omega⟩ ?_ (fun _ => rfl) ht))
    rw [dp_s h1.1, c]; show (f2 : Int) = _ + -1; omega
  · exact ⟨fun _ => ⟨s5 c, nxt (by rw [c]; rfl) _ s (NX_w hp h (Or.inr (by decide)) (fun c => absurd c (by omega)) (fun c => absurd c (by omega)) (fun c => absurd c (by omega)))⟩, fun _ => ⟨z_R _ _ _, s5 c, nxt (by rw [c]; rfl) _ s (NX_w hp h (Or.inr (by decide)) (fun c => absurd c (by omega)) (fun c => absurd c (by omega)) (fun c => absurd c (by omega)))⟩⟩
  · refine n_truth (by omega) hp h (hR (by omega)) (fun v τ t ht hs hv _ => b_En_perform_208 hp ht.1.2 ht.1.1 (n_turn (by omega) hp ht (by omega) ⟨h1.1, by omega⟩ (s6 c) hv (fun τ2 t2 ht2 => b_En_perform_211 hp ht2.1.2 ht2.1.1 (ret (x1 + 1) τ2 t2 (fm + 1) ⟨by omega, by omega⟩ ?_ (fun _ => rfl) ht2)) (fun τ2 t2 ht2 => b_En_perform_211 hp ht2.1.2 ht2.1.1 ?_)))
    · rw [dp_s h1.1, c]; show ((fm + 1 : Nat) : Int) = _ + 1; omega
    · have e9 : z τ (p + 9) = z σ (p + 9) := by rw [fr_zF ht.2.2.2.2.2.2.2.2.2.2.2 (by unfold SEn; simp; omega), fr_zF h.2.2.2.2.2.2.2.2.2.2.2 (by unfold SEn; simp; omega)]
      rw [e9]
      refine ret _ τ2 t2 fm (s7 (by omega)) ?_ (fun c7 => absurd c7 (by omega)) ht2
      rcases s11 c with e | e
      · rw [e]; exact hdp
      · exact absurd e id
  · have c9 : z σ (p + 5) x1.toNat = 9 := by omega
    have := s9 (by omega)
    obtain ⟨f2, rfl⟩ : ∃ k, fm = k + 1 := ⟨fm - 1, by omega⟩
    refine n_join (by omega) hp h (fun τ t ht => b_En_perform_216 hp ht.1.2 ht.1.1 ?_)
    have e9 : z τ (p + 9) = z σ (p + 9) := by rw [fr_zF ht.2.2.2.2.2.2.2.2.2.2.2 (by unfold SEn; simp; omega), fr_zF h.2.2.2.2.2.2.2.2.2.2.2 (by unfold SEn; simp; omega)]
    rw [e9]
    refine ⟨⟨by omega, by omega⟩, ret _ τ t f2 (s7 (by omega)) ?_ (fun c7 => absurd c7 (by omega)) ht⟩
    have := s10 c9
    omega
/-- what encoding leaves: the words of the PROGRAM, and its size -/
def ND (p : Nat) (σ : q_H) (s : Nat) : Prop :=
  CI s σ ∧ (∀ j, j < 96 → lit s (z σ 61 j) ∧ lit s (z σ 62 j)) ∧ (∀ j, j < 512 → lit s (z σ 63 j)) ∧ lit s (z σ 48 4) ∧ lit s (z σ 48 6)
theorem n_rest {K : q_H → Prop} (hd : 3 ≤ d) (hp : p = 16 ∨ p = 29) (kk : ∀ τ s', q_E τ → fr SEn σ0 τ → q_r τ 48 1 = p → ND p τ s' → z τ 48 7 = (s' : Int) → K τ) : ∀ (k i : Nat) (σ : q_H) (s : Nat), 512 ≤ i + k → i ≤ 512 → NX p fm R σ0 σ s → lit s (z σ 48 6) → J ω m_En_encode (d + 1) 0 0 0 0 121 [(0, .ref 48), (3, .int (zI (i : Int)))] [] σ (q_kv K) := by
  intro k
  have out : ∀ σ s, NX p fm R σ0 σ s → lit s (z σ 48 6) → q_kv K (.inl none) (zs σ 48 7 (z σ 50 7)) := by
    intro σ s h h6
    obtain ⟨⟨hE, r1⟩, gp, hc, a1, a2, a3, a4, a5, a6, a7, a8, f⟩ := id h
    have hs := hc.2.1
    have u : ∀ a, a ≠ 48 → z (zs σ 48 7 (z σ 50 7)) a = z σ a := fun a h => z_oF h
    refine ⟨rfl, kk _ s (zs_E hE) (fr_s f (by unfold SEn; simp)) r1 ⟨⟨?_, ?_⟩, ?_, ?_, ?_, ?_⟩ ?_⟩
    · rw [u 50 (by decide)]; exact hc.1
    · rw [u 51 (by decide), u 52 (by decide), u 53 (by decide), u 54 (by decide), u 55 (by decide), u 56 (by decide), u 57 (by decide)]; exact hc.2
    · rw [u 61 (by decide), u 62 (by decide)]; exact a1
    · rw [u 63 (by decide)]; exact a2
    · rw [z_k (by decide)]; exact a3
    · rw [z_k (by decide)]; exact h6
    · rw [z_s (z_R _ _ _)]; exact hc.1
  induction k with
  | zero =>
    intro i σ s hi h512 h h6
    have a5 := h.2.1.2.2.2.2.1
    exact b_En_encode_121 hp h.1.2 h.1.1 ⟨⟨by omega, by omega⟩, fun _ => out σ s h h6, fun c => absurd c (by omega)⟩
  | succ k ih =>
    intro i σ s hi h512 h h6
    have a5 := h.2.1.2.2.2.2.1
    refine b_En_encode_121 hp h.1.2 h.1.1 ⟨⟨by omega, by omega⟩, fun _ => out σ s h h6, fun c => ⟨⟨by omega, by omega⟩, n_or (by omega) hp h h6 (h.2.2.2.2.1 _ (by omega)) (fun v τ t ht hs hv _ => b_En_encode_153 hp ht.1.2 ht.1.1 (ih (i + 1) _ t (by omega) (by omega) (NX_w hp ht (Or.inl rfl) (fun _ => by decide) (fun c => absurd c (by decide)) (fun _ c => absurd c (by decide))) ?_))⟩⟩
    rw [z_s (lit_R (NX_s ht).2 hv)]; exact hv
theorem n_steps {K : q_H → Prop} (hd : 6 ≤ d) (hp : p = 16 ∨ p = 29) (kk : ∀ τ s', q_E τ → fr SEn σ0 τ → q_r τ 48 1 = p → ND p τ s' → z τ 48 7 = (s' : Int) → K τ) : ∀ (k i : Nat) (x2 : Int) (σ : q_H) (s fm : Nat) (R : Prop), 1000000 ≤ i + k → i ≤ 1000000 → NX p fm R σ0 σ s → 0 ≤ x2 → x2 ≤ z σ p 11 → (fm : Int) = dp (z σ (p + 5)) x2.toNat → (R ∨ x2 = 0 ∨ (x2 = 1 ∧ z σ (p + 5) 0 = 7)) → J ω m_En_encode (d + 1) 0 0 0 0 54 [(0, .ref 48), (2, .int (zI x2)), (3, .int (zI (i : Int)))] [] σ (q_kv K) := by
  intro k
  have out : ∀ σ s fm (R : Prop), NX p fm R σ0 σ s → J ω m_En_encode (d + 1) 0 0 0 0 121 [(0, .ref 48), (3, .int (zI 0))] [] (zs σ 48 6 1) (q_kv K) := by
    intro σ s fm R h
    refine n_rest (by omega) hp kk 512 0 _ s (by decide) (by decide) (NX_w hp h (Or.inl rfl) (fun _ => by decide) (fun c => absurd c (by decide)) (fun _ c => absurd c (by decide))) ?_
    rw [z_s ⟨by decide, by decide⟩]
    exact ⟨by decide, by have := (NX_s h).1; omega⟩
  induction k with
  | zero =>
    intro i x2 σ s fm R hi h1 h h0 hN hdp hR
    exact b_En_encode_54 hp h.1.2 h.1.1 ⟨⟨by omega, by omega⟩, fun _ => out σ s fm R h, fun c => absurd c (by omega)⟩
  | succ k ih =>
    intro i x2 σ s fm R hi h1 h h0 hN hdp hR
    obtain ⟨n0, n1, n2⟩ := h.2.1.2.2.2.1
    refine b_En_encode_54 hp h.1.2 h.1.1 ⟨⟨by omega, by omega⟩, fun _ => out σ s fm R h, fun ci => ⟨⟨by omega, by omega⟩, fun _ => out σ s fm R h, fun c => ⟨⟨h0, by omega⟩, ?_⟩⟩⟩
    have sv := n2 x2.toNat (by omega)
    have F := h.2.1.2.2.2.2.2.1
    have eo := h.2.1.2.2.2.2.2.2.1
    refine n_evaluate (by omega) hp h ⟨sv.2.1.1, sv.2.1.2.1, sv.2.1.2.2⟩ (fun τ t R' ht hRR hfirst => b_En_encode_93 hp ht.1.2 ht.1.1 ?_)
    have fσ := h.2.2.2.2.2.2.2.2.2.2.2
    have fτ := ht.2.2.2.2.2.2.2.2.2.2.2
    have ep : ∀ a, p ≤ a → a ≤ p + 12 → z τ a = z σ a := fun a h1 h2 => by rw [fr_zF fτ (by unfold SEn; simp; omega), fr_zF fσ (by unfold SEn; simp; omega)]
    have e5 := ep (p + 5) (by omega) (by omega)
    have e11 : z τ p 11 = z σ p 11 := by rw [ep p (by omega) (by omega)]
    have hR2 : z σ (p + 5) x2.toNat = 1 ∨ z σ (p + 5) x2.toNat = 2 ∨ z σ (p + 5) x2.toNat = 3 ∨ z σ (p + 5) x2.toNat = 4 ∨ z σ (p + 5) x2.toNat = 8 → R' := by
      intro ha
      rcases hR with r | r | ⟨r, r7⟩
      · exact hRR r
      · rcases F with F | F | F
        · omega
        · rw [r] at hfirst sv
          have := sv.2.1.2.2
          exact hfirst (by rw [show (0 : Int).toNat = 0 from rfl]; omega) (by rw [show (0 : Int).toNat = 0 from rfl, F.2.1]; exact eo (by rw [show (0 : Int).toNat = 0 from rfl] at this; omega))
        · rw [r] at ha
          have := F.1
          rw [show (0 : Int).toNat = 0 from rfl] at ha
          omega
      · rcases F with F | F | F
        · omega
        · omega
        · rcases F.2.2.2 with F4 | F4
          · omega
          · rw [r] at hfirst sv
            have := sv.2.1.2.2
            rw [show (1 : Int).toNat = 1 from rfl] at hfirst this
            exact hfirst (by omega) (by rw [F4.2.1]; exact eo (by omega))
    refine ⟨⟨h0, by omega⟩, n_perform (fm := fm) (by omega) hp ht ⟨h0, by omega⟩ (by rw [e5]; exact hdp) (by rw [e5]; exact hR2) (fun v ρ t2 fm' hv hf h7 hr => ?_)⟩
    have fρ := hr.2.2.2.2.2.2.2.2.2.2.2
    have ep2 : ∀ a, p ≤ a → a ≤ p + 12 → z ρ a = z τ a := fun a h1 h2 => by rw [fr_zF fρ (by unfold SEn; simp; omega), fr_zF fτ (by unfold SEn; simp; omega)]
    refine b_En_encode_107 hp hr.1.2 hr.1.1 (ih (i + 1) v ρ t2 fm' R' (by omega) (by omega) hr hv.1 ?_ ?_ ?_)
    · rw [ep2 p (by omega) (by omega)]; exact hv.2
    · rw [ep2 (p + 5) (by omega) (by omega)]; exact hf
    · rw [ep2 (p + 5) (by omega) (by omega), e5]
      rw [e5] at h7
      by_cases ca : z σ (p + 5) x2.toNat = 1 ∨ z σ (p + 5) x2.toNat = 2 ∨ z σ (p + 5) x2.toNat = 3 ∨ z σ (p + 5) x2.toNat = 4 ∨ z σ (p + 5) x2.toNat = 8
      · exact Or.inl (hR2 ca)
      · rcases hR with r | r | ⟨r, r7⟩
        · exact Or.inl (hRR r)
        · rw [r, show (0 : Int).toNat = 0 from rfl] at ca h7
          rcases F with F | F | F
          · omega
          · omega
          · exact Or.inr (Or.inr ⟨by have := h7 F.1; omega, F.1⟩)
        · rw [r, show (1 : Int).toNat = 1 from rfl] at ca
          rcases F with F | F | F
          · omega
          · omega
          · rcases F.2.2.2 with F4 | F4
            · omega
            · omega
end EpP
