/-! THE ENCODER, safety: ways that part and meet, and all of it -/
section EoP
variable {ω : q_W} {d p fm s : Nat} {R : Prop} {σ σ0 : q_H}
theorem n_swap {K : q_H → Prop} (hp : p = 16 ∨ p = 29) (h : NX p fm R σ0 σ s) (hf : 1 ≤ fm) (kk : ∀ τ, NX p fm R σ0 τ s → K τ) : J ω m_En_swap d 0 0 0 0 0 [(0, .ref 48)] [] σ (q_kv K) := by
  have l : ∀ (k i : Nat) (ρ : q_H), 96 ≤ i + k → i ≤ 96 → NX p fm R σ0 ρ s → J ω m_En_swap d 0 0 0 0 9 [(0, .ref 48), (1, .int (zI ((fm : Int) - 1))), (2, .int (zI (i : Int)))] [] ρ (q_kv K) := by
    intro k
    have out : ∀ ρ, NX p fm R σ0 ρ s → (0 ≤ (fm : Int) - 1 ∧ (fm : Int) - 1 < 32) ∧ q_kv K (.inl none) (zs (zs (zs (zs ρ 65 ((fm : Int) - 1).toNat (z ρ 48 4)) 48 4 (z ρ 65 ((fm : Int) - 1).toNat)) 67 ((fm : Int) - 1).toNat (zXor (z ρ 67 ((fm : Int) - 1).toNat) 1)) 48 15 0) := by
      intro ρ hw
      have a4 := hw.2.2.2.2.2.2.1.2
      have a6 := hw.2.2.2.2.2.2.2.2.1 ((fm : Int) - 1).toNat (by omega)
      have w1 := NX_w (o := 65) (k := ((fm : Int) - 1).toNat) (e := z ρ 48 4) hp hw (Or.inr (by decide)) (fun c => absurd c (by decide)) (fun _ => hw.2.2.2.2.2.1) (fun c => absurd c (by decide))
      have w2 := NX_w (o := 48) (k := 4) (e := z ρ 65 ((fm : Int) - 1).toNat) hp w1 (Or.inl rfl) (fun _ => by decide) (fun _ => a6.1) (fun _ c => absurd c (by decide))
      have w3 := NX_w (o := 67) (k := ((fm : Int) - 1).toNat) (e := zXor (z ρ 67 ((fm : Int) - 1).toNat) 1) hp w2 (Or.inr (by decide)) (fun c => absurd c (by decide)) (fun _ => (lit_x (NX_s hw).2 a6.2.2).1) (fun c => absurd c (by decide))
      exact ⟨⟨by omega, by omega⟩, rfl, kk _ (NX_w hp w3 (Or.inl rfl) (fun _ => by decide) (fun c => absurd c (by decide)) (fun _ _ => by decide))⟩
    induction k with
    | zero =>
      intro i ρ hi h96 hw
      exact b_En_swap_9 hp hw.1.2 hw.1.1 ⟨⟨by omega, by omega⟩, fun _ => out ρ hw, fun c => absurd c (by omega)⟩
    | succ k ih =>
      intro i ρ hi h96 hw
      have a4 := hw.2.2.2.2.2.2.1.2
      refine b_En_swap_9 hp hw.1.2 hw.1.1 ⟨⟨by omega, by omega⟩, fun _ => out ρ hw, fun c => ?_⟩
      have l1 := hw.2.2.2.2.2.2.2.1 (((fm : Int) - 1) * 96 + (i : Int)).toNat (by omega)
      have l2 := (hw.2.2.2.1 (i : Int).toNat (by omega)).2
      have w1 := NX_w (o := 64) (k := (((fm : Int) - 1) * 96 + (i : Int)).toNat) (e := z ρ 62 (i : Int).toNat) hp hw (Or.inr (by decide)) (fun c => absurd c (by decide)) (fun _ => l2) (fun c => absurd c (by decide))
      have w2 := NX_w (o := 62) (k := (i : Int).toNat) (e := z ρ 64 (((fm : Int) - 1) * 96 + (i : Int)).toNat) hp w1 (Or.inr (by decide)) (fun c => absurd c (by decide)) (fun _ => l1) (fun c => absurd c (by decide))
      exact ⟨⟨by omega, by omega⟩, ⟨by omega, by omega⟩, ih (i + 1) _ (by omega) (by omega) w2⟩
  refine b_En_swap_0 hp h.1.2 h.1.1 ?_
  rw [h.2.2.2.2.2.2.1.1]
  exact l 96 0 σ (by decide) (by decide) h
theorem n_joined {K : Int → q_H → Prop} {x1 x2 : Int} {f2 : Nat} (hd : 3 ≤ d) (hp : p = 16 ∨ p = 29) (h : NX p fm R σ0 σ s) (hf2 : z σ 48 12 = (f2 : Int)) (hff : f2 < 32) (l65 : lit s (z σ 65 f2)) (h1 : lit s x1) (h2 : lit s x2) (kk : ∀ v τ s', NX p fm R σ0 τ s' → s ≤ s' → lit s' v → K v τ) : J ω m_En_joined d 0 0 0 0 0 [(0, .ref 48), (1, .int (zI x1)), (2, .int (zI x2))] [] σ (q_ki K) := by
  obtain ⟨d, rfl⟩ : ∃ k, d = k + 1 := ⟨d - 1, by omega⟩
  have hs2 := (NX_s h).2
  have g71 : ∀ τ t, NX p fm R σ0 τ t → s ≤ t → z τ 48 = z σ 48 → z τ 65 = z σ 65 → J ω m_En_joined (d + 1) 0 0 0 0 71 [(0, .ref 48)] [] τ (q_ki K) := by
    intro τ t ht hst e48 e65
    refine b_En_joined_71 hp ht.1.2 ht.1.1 ?_
    have q : z τ 48 12 = (f2 : Int) := by rw [e48]; exact hf2
    rw [q, Int.toNat_natCast]
    exact ⟨⟨by omega, by omega⟩, n_or (by omega) hp ht ht.2.2.2.2.2.1 (by rw [e65]; exact lit_m l65 hst) (fun v τ2 t2 ht2 hs hv _ => b_En_joined_94 hp ht2.1.2 ht2.1.1 ⟨v, lit_R (NX_s ht2).2 hv, rfl, kk v τ2 t2 ht2 (by omega) hv⟩)⟩
  have g56 : ∀ (x3 y0 : Int) τ t, (x3 = 0 ∨ x3 = 1) → (y0 = 0 ∨ y0 = 1) → NX p fm R σ0 τ t → s ≤ t → z τ 48 = z σ 48 → z τ 65 = z σ 65 → J ω m_En_joined (d + 1) 0 0 0 0 56 [(0, .ref 48), (1, .int (zI x1)), (3, .int (zI x3))] [.int (zI y0)] τ (q_ki K) := by
    intro x3 y0 τ t h3 h0 ht hst e48 e65
    exact b_En_joined_56 hp ht.1.2 ht.1.1 ⟨⟨by omega, by omega⟩, fun _ => g71 τ t ht hst e48 e65, fun _ => ⟨⟨by omega, by omega⟩, fun _ => g71 τ t ht hst e48 e65, fun _ => ⟨x1, lit_R hs2 h1, rfl, kk x1 τ t ht hst (lit_m h1 hst)⟩⟩⟩
  have g24 : ∀ (y0 : Int) τ t, (y0 = 0 ∨ y0 = 1) → NX p fm R σ0 τ t → s ≤ t → z τ 48 = z σ 48 → z τ 65 = z σ 65 → J ω m_En_joined (d + 1) 0 0 0 0 24 [(0, .ref 48), (1, .int (zI x1)), (2, .int (zI x2))] [.int (zI y0)] τ (q_ki K) := by
    intro y0 τ t h0 ht hst e48 e65
    refine b_En_joined_24 hp ht.1.2 ht.1.1 ?_
    have q : z τ 48 12 = (f2 : Int) := by rw [e48]; exact hf2
    rw [q, Int.toNat_natCast]
    refine ⟨⟨by omega, by omega⟩, n_and (by omega) hp ht (lit_m h1 hst) (lit_m (lit_x hs2 h2).1 hst) (fun v τ2 t2 ht2 hs hv o2 => b_En_joined_48 hp ht2.1.2 ht2.1.1 ⟨z_R _ _ _, lit_R (NX_s ht2).2 hv, fun _ => ?_, fun _ => ?_⟩)⟩
    · exact g56 y0 0 τ2 t2 h0 (Or.inl rfl) ht2 (by omega) ((o2 48 (by decide)).trans e48) ((o2 65 (by decide)).trans e65)
    · exact g56 y0 1 τ2 t2 h0 (Or.inr rfl) ht2 (by omega) ((o2 48 (by decide)).trans e48) ((o2 65 (by decide)).trans e65)
  exact b_En_joined_0 hp h.1.2 h.1.1 (n_and (by omega) hp h h1 h2 (fun v τ t ht hs hv o2 => b_En_joined_16 hp ht.1.2 ht.1.1 ⟨z_R _ _ _, lit_R (NX_s ht).2 hv, fun _ => g24 0 τ t (Or.inl rfl) ht hs (o2 48 (by decide)) (o2 65 (by decide)), fun _ => g24 1 τ t (Or.inr rfl) ht hs (o2 48 (by decide)) (o2 65 (by decide))⟩))
/-- one frame less -/
theorem NX_fm (hp : p = 16 ∨ p = 29) (h : NX p (fm + 1) R σ0 σ s) : NX p fm R σ0 (zs σ 48 12 (fm : Int)) s := by
  obtain ⟨⟨bE, br⟩, bgp, bc, b1, b2, b3, b4, b5, b6, b7, b8, bf⟩ := h
  have u : ∀ a, a ≠ 48 → z (zs σ 48 12 (fm : Int)) a = z σ a := fun a h => z_oF h
  refine ⟨⟨zs_E bE, br⟩, GP_cong bgp (fun o _ _ => u o (by omega)), ⟨?_, ?_⟩, ?_, ?_, ?_, ⟨?_, by omega⟩, ?_, ?_, ?_, ?_, fr_s bf (by unfold SEn; simp)⟩
  · rw [u 50 (by decide)]; exact bc.1
  · rw [u 51 (by decide), u 52 (by decide), u 53 (by decide), u 54 (by decide), u 55 (by decide), u 56 (by decide), u 57 (by decide)]; exact bc.2
  · rw [u 61 (by decide), u 62 (by decide)]; exact b1
  · rw [u 63 (by decide)]; exact b2
  · rw [z_k (by decide)]; exact b3
  · exact z_s ⟨by omega, by omega⟩
  · intro j hj; rw [u 64 (by decide)]; exact b5 j (by omega)
  · intro j hj; rw [u 65 (by decide), u 66 (by decide), u 67 (by decide)]; exact b6 j (by omega)
  · rw [z_k (by decide)]; exact b7
  · rw [u 58 (by decide)]; exact b8
theorem n_join {K : q_H → Prop} (hd : 4 ≤ d) (hp : p = 16 ∨ p = 29) (h : NX p (fm + 1) R σ0 σ s) (kk : ∀ τ s', NX p fm R σ0 τ s' → K τ) : J ω m_En_join d 0 0 0 0 0 [(0, .ref 48)] [] σ (q_kv K) := by
  obtain ⟨d, rfl⟩ : ∃ k, d = k + 1 := ⟨d - 1, by omega⟩
  have h32 := h.2.2.2.2.2.2.1.2
  have top : ∀ ρ t, (∀ j, j < 96 * (fm + 1) → lit t (z ρ 64 j)) ∧ lit t (z ρ 65 fm) ∧ lit t (z ρ 66 fm) ∧ lit t (z ρ 67 fm) → True := fun _ _ _ => trivial
  have l : ∀ (k i : Nat) (ρ : q_H) (t : Nat), 96 ≤ i + k → i ≤ 96 → NX p fm R σ0 ρ t → ((∀ j, j < 96 * (fm + 1) → lit t (z ρ 64 j)) ∧ lit t (z ρ 65 fm) ∧ lit t (z ρ 66 fm) ∧ lit t (z ρ 67 fm)) → J ω m_En_join (d + 1) 0 0 0 0 12 [(0, .ref 48), (1, .int (zI (i : Int)))] [] ρ (q_kv K) := by
    intro k
    have out : ∀ ρ t, NX p fm R σ0 ρ t → ((∀ j, j < 96 * (fm + 1) → lit t (z ρ 64 j)) ∧ lit t (z ρ 65 fm) ∧ lit t (z ρ 66 fm) ∧ lit t (z ρ 67 fm)) → (0 ≤ (fm : Int) ∧ (fm : Int) < 32) ∧ J ω m_En_joined d 0 0 0 0 0 [(0, .ref 48), (1, .int (zI (z ρ 66 fm))), (2, .int (zI (z ρ 67 fm)))] [] ρ (q_ki (fun v τ => J ω m_En_join (d + 1) 0 0 0 0 92 [(0, .ref 48)] [.int (zI v), .ref 48] τ (q_kv K))) := by
      intro ρ t hw hl
      exact ⟨⟨by omega, by omega⟩, n_joined (by omega) hp hw hw.2.2.2.2.2.2.1.1 (by omega) hl.2.1 hl.2.2.1 hl.2.2.2 (fun v τ t2 ht hs hv => b_En_join_92 hp ht.1.2 ht.1.1 ⟨rfl, kk _ t2 (NX_w hp (NX_w hp ht (Or.inl rfl) (fun _ => by decide) (fun _ => hv) (fun _ c => absurd c (by decide))) (Or.inl rfl) (fun _ => by decide) (fun c => absurd c (by decide)) (fun _ _ => by decide))⟩)⟩
    induction k with
    | zero =>
      intro i ρ t hi h96 hw hl
      refine b_En_join_12 hp hw.1.2 hw.1.1 ?_
      rw [hw.2.2.2.2.2.2.1.1, Int.toNat_natCast]
      exact ⟨⟨by omega, by omega⟩, fun _ => out ρ t hw hl, fun c => absurd c (by omega)⟩
    | succ k ih =>
      intro i ρ t hi h96 hw hl
      refine b_En_join_12 hp hw.1.2 hw.1.1 ?_
      rw [hw.2.2.2.2.2.2.1.1, Int.toNat_natCast]
      refine ⟨⟨by omega, by omega⟩, fun _ => out ρ t hw hl, fun c => ⟨⟨by omega, by omega⟩, ⟨by omega, by omega⟩, ⟨by omega, by omega⟩, n_pick (by omega) hp hw hl.2.2.2 (hw.2.2.2.1 _ (by omega)).2 (hl.1 _ (by omega)) (fun v τ t2 ht hs hv o2 => b_En_join_62 hp ht.1.2 ht.1.1 ⟨⟨by omega, by omega⟩, ?_⟩)⟩⟩
      refine ih (i + 1) _ t2 (by omega) (by omega) (NX_w hp ht (Or.inr (by decide)) (fun c => absurd c (by decide)) (fun _ => hv) (fun c => absurd c (by decide))) ⟨fun j hj => ?_, ?_, ?_, ?_⟩
      · rw [z_o (by decide), o2 64 (by decide)]; exact lit_m (hl.1 j hj) hs
      · rw [z_o (by decide), o2 65 (by decide)]; exact lit_m hl.2.1 hs
      · rw [z_o (by decide), o2 66 (by decide)]; exact lit_m hl.2.2.1 hs
      · rw [z_o (by decide), o2 67 (by decide)]; exact lit_m hl.2.2.2 hs
  refine b_En_join_0 hp h.1.2 h.1.1 ?_
  rw [h.2.2.2.2.2.2.1.1, show ((fm + 1 : Nat) : Int) - 1 = (fm : Int) by omega]
  refine l 96 0 _ s (by decide) (by decide) (NX_fm hp h) ⟨fun j hj => ?_, ?_, ?_, ?_⟩
  · rw [z_o (by decide)]; exact h.2.2.2.2.2.2.2.1 j hj
  · rw [z_o (by decide)]; exact (h.2.2.2.2.2.2.2.2.1 fm (by omega)).1
  · rw [z_o (by decide)]; exact (h.2.2.2.2.2.2.2.2.1 fm (by omega)).2.1
  · rw [z_o (by decide)]; exact (h.2.2.2.2.2.2.2.2.1 fm (by omega)).2.2
theorem n_turn {K : Int → q_H → Prop} {x1 x2 x3 : Int} (hd : 3 ≤ d) (hp : p = 16 ∨ p = 29) (h : NX p fm R σ0 σ s) (hf : fm ≤ 31) (h1 : 0 ≤ x1 ∧ x1 < 2048) (h2 : 0 ≤ x2 ∧ x2 < 32) (h3 : lit s x3) (k1 : ∀ τ s', NX p (fm + 1) R σ0 τ s' → K (x1 + 1) τ) (k2 : ∀ τ s', NX p fm R σ0 τ s' → K (z σ (p + 9) x1.toNat) τ) : J ω m_En_turn d 0 0 0 0 0 [(0, .ref 48), (1, .int (zI x1)), (2, .int (zI x2)), (3, .int (zI x3))] [] σ (q_ki K) := by
  obtain ⟨d, rfl⟩ : ∃ k, d = k + 1 := ⟨d - 1, by omega⟩
  refine b_En_turn_0 hp h.1.2 h.1.1 ⟨h2, fun _ => n_fork (by omega) hp (NX_w hp h (Or.inr (by decide)) (fun c => absurd c (by omega)) (fun c => absurd c (by omega)) (fun c => absurd c (by omega))) hf h3 (fun τ t ht => b_En_turn_39 hp ht.1.2 ht.1.1 ⟨_, ⟨by omega, by omega⟩, rfl, k1 τ t ht⟩), fun _ => n_deny (by omega) hp h h3 (fun τ t ht => b_En_turn_14 hp ht.1.2 ht.1.1 ⟨h1, _, z_R _ _ _, rfl, ?_⟩)⟩
  have e : z τ (p + 9) = z σ (p + 9) := by rw [fr_zF ht.2.2.2.2.2.2.2.2.2.2.2 (by unfold SEn; simp; omega), fr_zF h.2.2.2.2.2.2.2.2.2.2.2 (by unfold SEn; simp; omega)]
  rw [e]
  exact k2 τ t ht
/-- rows of words while an EXPR is worked out -/
theorem n_fetch {K : q_H → Prop} {x1 x2 : Int} {top n : Nat} {τ : q_H} {t : Nat} (hd : 2 ≤ d) (hp : p = 16 ∨ p = 29) (h : NX p fm R σ0 σ s) (hw : WS n σ s τ t) (hn : 8 * top ≤ n) (ht4 : top < 400) (h1 : 23 ≤ x1 ∧ x1 ≤ 25) (h2 : 24 ≤ x1 → 0 ≤ x2 ∧ x2 < 12) (kk : ∀ ρ, WS (max n (8 * (top + 1))) σ s ρ t → K ρ) : J ω m_En_fetch d 0 0 0 0 0 [(0, .ref 48), (1, .int (zI x1)), (2, .int (zI x2)), (3, .int (zI ((top : Int) * 8)))] [] τ (q_kv K) := by
  obtain ⟨d, rfl⟩ : ∃ k, d = k + 1 := ⟨d - 1, by omega⟩
  have r1 : q_r τ 48 1 = p := by rw [fr_r hw.2.2.2.1]; exact h.1.2
  have e61 : z τ 61 = z σ 61 := fr_zF hw.2.2.2.1 (by decide)
  have e62 : z τ 62 = z σ 62 := fr_zF hw.2.2.2.1 (by decide)
  have up8 : ∀ ρ, WS n σ s ρ t → (∀ i, 8 * top ≤ i → i < 8 * top + 8 → lit t (z ρ 58 i)) → WS (max n (8 * (top + 1))) σ s ρ t := by
    intro ρ hr hl
    refine ⟨hr.1, hr.2.1, fun i hi => ?_, hr.2.2.2⟩
    by_cases c : i < n
    · exact hr.2.2.1 i c
    · exact hl i (by omega) (by omega)
  have e8 : ((top : Int) * 8) = ((8 * top : Nat) : Int) := by omega
  rw [e8]
  refine b_En_fetch_0 hp r1 hw.1 ⟨⟨by omega, by omega⟩, fun c => ⟨fun c2 => ?_, fun c2 => ?_⟩, fun c => ?_⟩
  · have h2 := h2 (by omega)
    rw [show x2 * 8 = ((8 * x2.toNat : Nat) : Int) by omega]
    exact w_load (by omega) (Or.inr rfl) (by omega) (by omega) hw (fun j hj => by rw [e62]; exact lit_m (h.2.2.2.1 j hj).2 hw.2.2.2.2) (fun ρ hr hl => b_En_fetch_59 hp (by rw [fr_r hr.2.2.2.1]; exact h.1.2) hr.1 ⟨rfl, kk ρ (up8 ρ hr hl)⟩)
  · have h2 := h2 (by omega)
    rw [show x2 * 8 = ((8 * x2.toNat : Nat) : Int) by omega]
    exact w_load (by omega) (Or.inl rfl) (by omega) (by omega) hw (fun j hj => by rw [e61]; exact lit_m (h.2.2.2.1 j hj).1 hw.2.2.2.2) (fun ρ hr hl => b_En_fetch_40 hp (by rw [fr_r hr.2.2.2.1]; exact h.1.2) hr.1 ⟨rfl, kk ρ (up8 ρ hr hl)⟩)
  · exact w_loadNumber (by omega) hw (fun ρ hl hr => b_En_fetch_15 hp (by rw [fr_r hr.2.2.2.1]; exact h.1.2) hr.1 ⟨rfl, kk ρ (up8 ρ hr (fun i a b => hl i (Or.inr ⟨a, b⟩)))⟩)
theorem n_evaluate {K : q_H → Prop} {x1 x2 : Int} (hd : 6 ≤ d) (hp : p = 16 ∨ p = 29) (h : NX p fm R σ0 σ s) (h1 : 0 ≤ x1 ∧ x1 ≤ x2 ∧ x2 ≤ z σ p 17) (kk : ∀ τ s' (R' : Prop), NX p fm R' σ0 τ s' → (R → R') → (x1 < x2 → 23 ≤ z σ (p + 10) x1.toNat → R') → K τ) : J ω m_En_evaluate d 0 0 0 0 0 [(0, .ref 48), (1, .int (zI x1)), (2, .int (zI x2))] [] σ (q_kv K) := by
  obtain ⟨d, rfl⟩ : ∃ k, d = k + 1 := ⟨d - 1, by omega⟩
  have g17 := h.2.1.2.2.1.2.1
  have l : ∀ (k : Nat) (x4 : Int) (top n : Nat) (ρ : q_H) (t : Nat), x2 ≤ x4 + k → x1 ≤ x4 → x4 ≤ x2 → WS n σ s ρ t → 8 * top ≤ n → n ≤ 3200 → top ≤ 400 → (R → 8 ≤ n) → (x1 < x4 → 23 ≤ z σ (p + 10) x1.toNat → 1 ≤ top) → J ω m_En_evaluate (d + 1) 0 0 0 0 5 [(0, .ref 48), (2, .int (zI x2)), (3, .int (zI (top : Int))), (4, .int (zI x4))] [] ρ (q_kv K) := by
    intro k
    have fin : ∀ (x4 : Int) (top n : Nat) (ρ : q_H) (t : Nat), x2 ≤ x4 → WS n σ s ρ t → 8 * top ≤ n → (R → 8 ≤ n) → (x1 < x4 → 23 ≤ z σ (p + 10) x1.toNat → 1 ≤ top) → q_kv K (.inl none) ρ := by
      intro x4 top n ρ t hx hw hn hR ht
      exact ⟨rfl, kk ρ t (8 ≤ n) (NX_WS hp h hw id) hR (fun a b => by have := ht (by omega) b; omega)⟩
    induction k with
    | zero =>
      intro x4 top n ρ t hk h14 h42 hw hn hn2 ht4 hR ht
      have r1 : q_r ρ 48 1 = p := by rw [fr_r hw.2.2.2.1]; exact h.1.2
      exact b_En_evaluate_5 hp r1 hw.1 ⟨⟨by omega, by omega⟩, ⟨by omega, by omega⟩, fun c => fin x4 top n ρ t c hw hn hR ht, fun c => absurd c (by omega)⟩
    | succ k ih =>
      intro x4 top n ρ t hk h14 h42 hw hn hn2 ht4 hR ht
      have r1 : ∀ τ t, WS n σ s τ t → q_r τ 48 1 = p := fun τ t hw => by rw [fr_r hw.2.2.2.1]; exact h.1.2
      have r1' : ∀ m τ t, WS m σ s τ t → q_r τ 48 1 = p := fun m τ t hw => by rw [fr_r hw.2.2.2.1]; exact h.1.2
      have ep : ∀ a, p ≤ a → a ≤ p + 12 → z ρ a = z σ a := fun a h1 h2 => fr_zF hw.2.2.2.1 (by unfold SWo; simp; omega)
      refine b_En_evaluate_5 hp (r1 ρ t hw) hw.1 ⟨⟨by omega, by omega⟩, ⟨by omega, by omega⟩, fun c => fin x4 top n ρ t c hw hn hR ht, fun c => ?_⟩
      have it := h.2.1.2.2.1.2.2 x4.toNat (by omega)
      rw [ep (p + 10) (by omega) (by omega), ep (p + 11) (by omega) (by omega)]
      -- the next item, with one of these tops
      have nx : ∀ (top' n' : Nat) τ t', WS n' σ s τ t' → 8 * top' ≤ n' → n ≤ n' → n' ≤ 3200 → top' ≤ 400 → (1 ≤ top → 1 ≤ top') → (23 ≤ z σ (p + 10) x4.toNat → 1 ≤ top') → J ω m_En_evaluate (d + 1) 0 0 0 0 5 [(0, .ref 48), (2, .int (zI x2)), (3, .int (zI (top' : Int))), (4, .int (zI (x4 + 1)))] [] τ (q_kv K) := by
        intro top' n' τ t' hw' a1 a2 a3 a4 a5 a6
        refine ih (x4 + 1) top' n' τ t' (by omega) (by omega) (by omega) hw' a1 a3 a4 (fun r => by have := hR r; omega) (fun _ b => ?_)
        by_cases e : x4 = x1
        · exact a6 (by rw [e]; exact b)
        · exact a5 (ht (by omega) b)
      have stay : z σ (p + 10) x4.toNat < 23 ∨ 400 ≤ top → ∀ τ t', WS n σ s τ t' → J ω m_En_evaluate (d + 1) 0 0 0 0 5 [(0, .ref 48), (2, .int (zI x2)), (3, .int (zI (top : Int))), (4, .int (zI (x4 + 1)))] [] τ (q_kv K) := fun hc τ t' hw' => nx top n τ t' hw' hn (Nat.le_refl _) hn2 ht4 id (fun c => by omega)
      have g193 : ∀ (x5 x6 : Int), inR x5 → x6 = (top : Int) * 8 → (z σ (p + 10) x4.toNat < 23 ∨ 400 ≤ top) → J ω m_En_evaluate (d + 1) 0 0 0 0 193 [(0, .ref 48), (2, .int (zI x2)), (3, .int (zI (top : Int))), (4, .int (zI x4)), (5, .int (zI x5)), (6, .int (zI x6))] [] ρ (q_kv K) := by
        intro x5 x6 i5 e6 hc
        refine b_En_evaluate_193 hp (r1 ρ t hw) hw.1 ⟨⟨by omega, by omega⟩, fun _ => stay hc ρ t hw, fun c2 => ?_⟩
        rw [show x6 - 16 = ((8 * (top - 2) : Nat) : Int) by omega, show x6 - 8 = ((8 * (top - 1) : Nat) : Int) by omega]
        refine w_logic (by omega) hn2 (by omega) (by omega) i5 hw (fun τ t' ht' => b_En_evaluate_217 hp (r1 τ t' ht') ht'.1 ?_)
        rw [show (top : Int) - 1 = ((top - 1 : Nat) : Int) by omega]
        exact nx (top - 1) n τ t' ht' (by omega) (Nat.le_refl _) hn2 (by omega) (fun _ => by omega) (fun _ => by omega)
      have g146 : ∀ (x5 x6 : Int), inR x5 → x6 = (top : Int) * 8 → (z σ (p + 10) x4.toNat < 23 ∨ 400 ≤ top) → J ω m_En_evaluate (d + 1) 0 0 0 0 146 [(0, .ref 48), (2, .int (zI x2)), (3, .int (zI (top : Int))), (4, .int (zI x4)), (5, .int (zI x5)), (6, .int (zI x6))] [] ρ (q_kv K) := by
        intro x5 x6 i5 e6 hc
        refine b_En_evaluate_146 hp (r1 ρ t hw) hw.1 ⟨i5, fun _ => g193 x5 x6 i5 e6 hc, fun _ => ⟨⟨by omega, by omega⟩, fun _ => g193 x5 x6 i5 e6 hc, fun c2 => ⟨⟨by omega, by omega⟩, ?_⟩⟩⟩
        rw [show x6 - 16 = ((8 * (top - 2) : Nat) : Int) by omega, show x6 - 8 = ((8 * (top - 1) : Nat) : Int) by omega, ep (p + 12) (by omega) (by omega)]
        refine w_arithmetic (by omega) hn2 (by omega) (by omega) i5 ⟨by have := it.2.2.2.1; omega, it.2.2.2.2⟩ hw (fun τ t' ht' => b_En_evaluate_187 hp (r1 τ t' ht') ht'.1 ?_)
        rw [show (top : Int) - 1 = ((top - 1 : Nat) : Int) by omega]
        exact nx (top - 1) n τ t' ht' (by omega) (Nat.le_refl _) hn2 (by omega) (fun _ => by omega) (fun _ => by omega)
      have g107 : ∀ (x5 x6 : Int), inR x5 → x6 = (top : Int) * 8 → (z σ (p + 10) x4.toNat < 23 ∨ 400 ≤ top) → J ω m_En_evaluate (d + 1) 0 0 0 0 107 [(0, .ref 48), (2, .int (zI x2)), (3, .int (zI (top : Int))), (4, .int (zI x4)), (5, .int (zI x5)), (6, .int (zI x6))] [] ρ (q_kv K) := by
        intro x5 x6 i5 e6 hc
        refine b_En_evaluate_107 hp (r1 ρ t hw) hw.1 ⟨i5, fun _ => g146 x5 x6 i5 e6 hc, fun _ => ⟨⟨by omega, by omega⟩, fun _ => g146 x5 x6 i5 e6 hc, fun c2 => ⟨⟨by omega, by omega⟩, ?_⟩⟩⟩
        rw [show x6 - 8 = ((8 * (top - 1) : Nat) : Int) by omega, ep (p + 12) (by omega) (by omega)]
        refine w_single (by omega) hn2 (by omega) i5 ⟨by have := it.2.2.2.1; omega, it.2.2.2.2⟩ hw (fun τ t' ht' => b_En_evaluate_143 hp (r1 τ t' ht') ht'.1 ?_)
        exact nx top n τ t' ht' hn (Nat.le_refl _) hn2 ht4 id (fun _ => by omega)
      have g67 : ∀ (x5 x6 : Int), inR x5 → x6 = (top : Int) * 8 → (z σ (p + 10) x4.toNat < 23 ∨ 400 ≤ top) → J ω m_En_evaluate (d + 1) 0 0 0 0 67 [(0, .ref 48), (2, .int (zI x2)), (3, .int (zI (top : Int))), (4, .int (zI x4)), (5, .int (zI x5)), (6, .int (zI x6))] [] ρ (q_kv K) := by
        intro x5 x6 i5 e6 hc
        refine b_En_evaluate_67 hp (r1 ρ t hw) hw.1 ⟨i5, fun _ => g107 x5 x6 i5 e6 hc, fun _ => ⟨⟨by omega, by omega⟩, fun _ => g107 x5 x6 i5 e6 hc, fun c2 => ?_⟩⟩
        rw [show x6 - 24 = ((8 * (top - 3) : Nat) : Int) by omega, show x6 - 16 = ((8 * (top - 2) : Nat) : Int) by omega, show x6 - 8 = ((8 * (top - 1) : Nat) : Int) by omega]
        refine w_choose (by omega) hn2 (by omega) (by omega) (by omega) hw (fun τ t' ht' => b_En_evaluate_101 hp (r1 τ t' ht') ht'.1 ?_)
        rw [show (top : Int) - 2 = ((top - 2 : Nat) : Int) by omega]
        exact nx (top - 2) n τ t' ht' (by omega) (Nat.le_refl _) hn2 (by omega) (fun _ => by omega) (fun _ => by omega)
      refine ⟨⟨by omega, by omega⟩, fun c23 => g67 _ _ (z_R _ _ _) rfl (Or.inl c23), fun c23 => ⟨⟨by omega, by omega⟩, fun c4 => g67 _ _ (z_R _ _ _) rfl (Or.inr (by omega)), fun c4 => ?_⟩⟩
      refine n_fetch (by omega) hp h hw hn (by omega) ⟨c23, it.2.1⟩ it.2.2.1 (fun τ hr => b_En_evaluate_61 hp (r1' _ τ t hr) hr.1 ?_)
      exact nx (top + 1) _ τ t hr (by omega) (by omega) (by omega) (by omega) (fun _ => by omega) (fun _ => by omega)
  refine b_En_evaluate_0 hp h.1.2 h.1.1 ?_
  by_cases hR : R
  · exact l 4096 x1 0 8 σ s (by omega) (Int.le_refl _) h1.2.1 ⟨h.1.1, h.2.2.1, h.2.2.2.2.2.2.2.2.2.2.1 hR, fr_refl, Nat.le_refl _⟩ (by decide) (by decide) (by decide) (fun _ => Nat.le_refl _) (fun a => absurd a (by omega))
  · exact l 4096 x1 0 0 σ s (by omega) (Int.le_refl _) h1.2.1 ⟨h.1.1, h.2.2.1, fun i hi => absurd hi (Nat.not_lt_zero _), fr_refl, Nat.le_refl _⟩ (by decide) (by decide) (by decide) (fun r => absurd r hR) (fun a => absurd a (by omega))
end EoP
