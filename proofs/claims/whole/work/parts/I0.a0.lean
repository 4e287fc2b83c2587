/-! THE CHECKER, where it passes -/
/-- a literal that the checker takes as denied -/
def Dn (σ : q_H) (x : Int) : Prop := z σ 76 (ng x).toNat = 1 ∨ z σ 77 (ng x).toNat = z σ 75 2
section ChP
variable {ω : q_W} {d s top : Nat} {cs : List Nat} {Ws : Nat → List Nat} {σ : q_H}
theorem k_remainder2 {K : Int → q_H → Prop} {c : Nat} (y : Int) (hE : q_E σ) (hs : s ≤ 10240) (hc : CX s top cs Ws σ) (hm : c ∈ cs) (hy : ∀ x, inC (z σ 72) c x → x = y ∨ Dn σ x) (kk : ∀ v, (v = -1 ∨ (v = y ∧ lit s y ∧ inC (z σ 72) c y ∧ ¬ Dn σ y)) → K v σ) : J ω m_Ch_remainder d 0 0 0 0 0 [(0, .ref 75), (1, .ref 72), (2, .int (zI (c : Int)))] [] σ (q_ki K) := by
  obtain ⟨ht, ht1, hcl, hwl⟩ := id hc
  obtain ⟨a1, a2, a3, a4, a5, a6⟩ := hcl.1 c hm
  have l : ∀ (m : Nat) (x3 : Int) (i : Nat), z σ 72 c ≤ (i : Int) + m → (i : Int) ≤ z σ 72 c → ((x3 = -1) ∨ (x3 = y ∧ lit s y ∧ (∃ j, j < i ∧ z σ 72 (c + 3 + j) = y) ∧ ¬ Dn σ y)) → J ω m_Ch_remainder d 0 0 0 0 16 [(0, .ref 75), (1, .ref 72), (3, .int (zI x3)), (4, .int (zI ((c : Int) + 3 + z σ 72 c))), (5, .int (zI ((c : Int) + 3 + (i : Int))))] [] σ (q_ki K) := by
    intro m
    have i3 : ∀ (x3 : Int) (i : Nat), ((x3 = -1) ∨ (x3 = y ∧ lit s y ∧ (∃ j, j < i ∧ z σ 72 (c + 3 + j) = y) ∧ ¬ Dn σ y)) → inR x3 := fun x3 i h => by
      rcases h with e | ⟨e, h, -⟩
      · rw [e]; exact ⟨by decide, by decide⟩
      · rw [e]; exact lit_R hs h
    have ret : ∀ (x3 : Int) (i : Nat), (i : Int) ≤ z σ 72 c → ((x3 = -1) ∨ (x3 = y ∧ lit s y ∧ (∃ j, j < i ∧ z σ 72 (c + 3 + j) = y) ∧ ¬ Dn σ y)) → q_ki K (.inl (some (.int (zI x3)))) σ := fun x3 i hi h => by
      refine ⟨x3, i3 x3 i h, rfl, kk x3 ?_⟩
      rcases h with e | ⟨e, h1, ⟨j, j1, j2⟩, h3⟩
      · exact Or.inl e
      · exact Or.inr ⟨e, h1, ⟨j, by omega, j2⟩, h3⟩
    induction m with
    | zero =>
      intro x3 i hm h1 h3
      exact b_Ch_remainder_16 hE ⟨⟨by omega, by omega⟩, ⟨by omega, by omega⟩, fun _ => ret x3 i h1 h3, fun c => absurd c (by omega)⟩
    | succ m ih =>
      intro x3 i hm h1 h3
      refine b_Ch_remainder_16 hE ⟨⟨by omega, by omega⟩, ⟨by omega, by omega⟩, fun _ => ret x3 i h1 h3, fun cl => ?_⟩
      rw [show ((c : Int) + 3 + (i : Int)).toNat = c + 3 + i by omega, show (c : Int) + 3 + (i : Int) + 1 = (c : Int) + 3 + ((i + 1 : Nat) : Int) by omega]
      have lv := a4 i (by omega)
      have lx := lit_x hs lv
      rw [zX_ng hs lv]
      have lg := ng_lit lv
      have wk : ((x3 = -1) ∨ (x3 = y ∧ lit s y ∧ (∃ j, j < i ∧ z σ 72 (c + 3 + j) = y) ∧ ¬ Dn σ y)) → ((x3 = -1) ∨ (x3 = y ∧ lit s y ∧ (∃ j, j < i + 1 ∧ z σ 72 (c + 3 + j) = y) ∧ ¬ Dn σ y)) := fun h => by
        rcases h with e | ⟨e, h1, ⟨j, j1, j2⟩, h3⟩
        · exact Or.inl e
        · exact Or.inr ⟨e, h1, ⟨j, by omega, j2⟩, h3⟩
      refine ⟨⟨by omega, by omega⟩, ⟨lg.1, by have := lg.2; omega⟩, fun _ => ih x3 (i + 1) (by omega) (by omega) (wk h3), fun n1 => ⟨fun _ => ih x3 (i + 1) (by omega) (by omega) (wk h3), fun n2 => ⟨i3 x3 i h3, fun e => ?_, fun e => ?_⟩⟩⟩
      · have nd : ¬ Dn σ (z σ 72 (c + 3 + i)) := fun q => by
          rcases q with q | q
          · exact n1 q
          · exact n2 q
        have ey : z σ 72 (c + 3 + i) = y := by
          rcases hy _ ⟨i, by omega, rfl⟩ with q | q
          · exact q
          · exact absurd q nd
        rw [ey] at nd lv ⊢
        exact ih y (i + 1) (by omega) (by omega) (Or.inr ⟨rfl, lv, ⟨i, by omega, ey⟩, nd⟩)
      · exfalso
        rcases h3 with q | ⟨q, h1', ⟨j, j1, j2⟩, h3'⟩
        · exact e q
        · have nd : ¬ Dn σ (z σ 72 (c + 3 + i)) := fun q => by
            rcases q with q | q
            · exact n1 q
            · exact n2 q
          have ey : z σ 72 (c + 3 + i) = y := by
            rcases hy _ ⟨i, by omega, rfl⟩ with q | q
            · exact q
            · exact absurd q nd
          exact a5 j i j1 (by omega) (by rw [j2, ey])
  refine b_Ch_remainder_0 hE ?_
  rw [Int.toNat_natCast]
  have := l 360000 (-1) 0 (by omega) (by omega) (Or.inl rfl)
  rw [show (c : Int) + 3 + ((0 : Nat) : Int) = (c : Int) + 3 by omega] at this
  exact ⟨⟨by omega, by omega⟩, this⟩
/-- a step that passes; Y k: what hint k tells -/
theorem k_check2 {K : q_H → Prop} {n h : Nat} (Y : Nat → Int) (hd : 3 ≤ d) (hE : q_E σ) (hs : s ≤ 10240) (hc : CX s top cs Ws σ) (hn : n ≤ 10240) (hh : 1 ≤ h ∧ h ≤ 10240) (hl : ∀ i, i < n → lit s (z σ 85 i))
    (hi : ∀ j, j < h → ∃ c ∈ cs, z σ 86 j = ((c : Nat) : Int) ∧ ∀ x, inC (z σ 72) c x → (1 ≤ j ∧ x = Y j) ∨ z σ 76 (ng x).toNat = 1 ∨ (∃ k, k < n ∧ z σ 85 k = x) ∨ ∃ k, j < k ∧ k < h ∧ Y k = ng x)
    (kk : ∀ τ, fr [75, 76, 77] σ τ → z τ 75 3 = z σ 75 3 → (∀ x, z σ 76 x = 1 → z τ 76 x = 1) → (n = 1 → z τ 76 (z σ 85 0).toNat = 1) → K τ) : J ω m_Ch_check d 0 0 0 0 0 [(0, .ref 75), (1, .ref 72), (2, .ref 85), (3, .int (zI (n : Int))), (4, .ref 86), (5, .int (zI (h : Int)))] [] σ (q_kv K) := by
  obtain ⟨d, rfl⟩ : ∃ k, d = k + 1 := ⟨d - 1, by omega⟩
  obtain ⟨d, rfl⟩ : ∃ k, d = k + 1 := ⟨d - 1, by omega⟩
  generalize hσ1 : zs σ 75 2 (z σ 75 2 + 1) = σ1
  have f1 : fr [75, 76, 77] σ σ1 := by rw [← hσ1]; exact fr_s fr_refl (by simp)
  have e753 : z σ1 75 3 = z σ 75 3 := by rw [← hσ1, z_k (by decide)]
  have e76 : z σ1 76 = z σ 76 := by rw [← hσ1, z_oF (by decide)]
  -- what stays: nothing but 77 is written
  have CXf : ∀ {τ : q_H}, fr [75, 76, 77] σ τ → CX s top cs Ws τ := fun {τ} f => by
    unfold CX
    rw [fr_zF f (by decide), fr_zF f (by decide), fr_zF f (by decide)]
    exact hc
  have fin : ∀ (τ : q_H), fr [75, 76, 77] σ τ → z τ 75 3 = z σ 75 3 → z τ 76 = z σ 76 → q_ki (fun v τ => J ω m_Ch_check (d + 1 + 1) 0 0 0 0 11 [(0, .ref 75), (2, .ref 85), (3, .int (zI (n : Int)))] [.int (zI v)] τ (q_kv K)) (.inl (some (.int (zI 1)))) τ := by
    intro τ f g3 g76
    have e85 : z τ 85 = z σ 85 := fr_zF f (by decide)
    refine ⟨1, ⟨by decide, by decide⟩, rfl, b_Ch_check_11 (fr_E f hE) ⟨⟨by decide, by decide⟩, fun _ => ⟨⟨by omega, by omega⟩, fun c1 => ⟨rfl, kk τ f g3 (fun x hx => by rw [g76]; exact hx) (fun q => absurd (by rw [q]; rfl) c1)⟩, fun c1 => ?_⟩, fun c => absurd c (by decide)⟩⟩
    rw [e85]
    have l0 := hl 0 (by omega)
    refine ⟨⟨l0.1, by have := l0.2; omega⟩, rfl, kk _ (fr_s f (by simp)) (by rw [z_o (by decide)]; exact g3) (fun x hx => ?_) (fun _ => z_s ⟨by decide, by decide⟩)⟩
    rw [z_if ⟨by decide, by decide⟩]
    split
    · rfl
    · rw [g76]; exact hx
  have g77 : ∀ (j : Nat) (τ : q_H), j < h → fr [75, 76, 77] σ τ → z τ 75 = z σ1 75 → z τ 76 = z σ 76 → (∀ k, k < n → z τ 77 (ng (z σ 85 k)).toNat = z σ1 75 2) → (∀ k, j < k → k < h → z τ 77 (Y k).toNat = z σ1 75 2) → J ω m_Ch_follows (d + 1) 0 0 0 0 77 [(0, .ref 75), (1, .ref 72), (4, .ref 86), (6, .int (zI (j : Int)))] [] τ (q_ki (fun v τ => J ω m_Ch_check (d + 1 + 1) 0 0 0 0 11 [(0, .ref 75), (2, .ref 85), (3, .int (zI (n : Int)))] [.int (zI v)] τ (q_kv K))) := by
    intro j
    induction j with
    | zero =>
      intro τ hj f t75 t76 tn tY
      obtain ⟨c, hm, he, hx⟩ := hi 0 hj
      have e86 : z τ 86 = z σ 86 := fr_zF f (by decide)
      have c1 := (hc.2.2.1.1 c hm).1
      refine b_Ch_follows_77 (fr_E f hE) ⟨⟨by decide, by decide⟩, fun q => absurd q (by decide), fun _ => ⟨⟨by decide, by decide⟩, ?_⟩⟩
      rw [e86, show ((0 : Nat) : Int).toNat = 0 from rfl, he]
      refine ⟨fun _ => ?_, fun q => absurd q (by omega)⟩
      have dall : ∀ x, inC (z τ 72) c x → Dn τ x := fun x q => by
        rw [fr_zF f (by decide)] at q
        unfold Dn
        rw [t76, t75]
        rcases hx x q with ⟨q1, -⟩ | q1 | ⟨k, k1, k2⟩ | ⟨k, k1, k2, k3⟩
        · omega
        · exact Or.inl q1
        · rw [← k2]; exact Or.inr (tn k k1)
        · rw [← k3]; exact Or.inr (tY k k1 k2)
      refine k_remainder2 0 (fr_E f hE) hs (CXf f) hm (fun x q => Or.inr (dall x q)) (fun v hv => b_Ch_follows_105 (fr_E f hE) ?_)
      rcases hv with e | ⟨e, -, e2, e3⟩
      · rw [e]
        exact ⟨⟨by decide, by decide⟩, fun q => absurd rfl q, fun _ => fin τ f (by rw [t75]; exact e753) t76⟩
      · exact absurd (dall _ e2) e3
    | succ j ih =>
      intro τ hj f t75 t76 tn tY
      obtain ⟨c, hm, he, hx⟩ := hi (j + 1) hj
      have e86 : z τ 86 = z σ 86 := fr_zF f (by decide)
      have c1 := (hc.2.2.1.1 c hm).1
      refine b_Ch_follows_77 (fr_E f hE) ⟨⟨by omega, by omega⟩, fun q => absurd q (by omega), fun _ => ⟨⟨by omega, by omega⟩, ?_⟩⟩
      rw [e86, Int.toNat_natCast, he]
      refine ⟨fun _ => ?_, fun q => absurd q (by omega)⟩
      refine k_remainder2 (Y (j + 1)) (fr_E f hE) hs (CXf f) hm (fun x q => ?_) (fun v hv => b_Ch_follows_105 (fr_E f hE) ?_)
      · rw [fr_zF f (by decide)] at q
        unfold Dn
        rw [t76, t75]
        rcases hx x q with ⟨-, q1⟩ | q1 | ⟨k, k1, k2⟩ | ⟨k, k1, k2, k3⟩
        · exact Or.inl q1
        · exact Or.inr (Or.inl q1)
        · rw [← k2]; exact Or.inr (Or.inr (tn k k1))
        · rw [← k3]; exact Or.inr (Or.inr (tY k k1 k2))
      · rcases hv with e | ⟨e, ly, -, -⟩
        · rw [e]
          exact ⟨⟨by decide, by decide⟩, fun q => absurd rfl q, fun _ => fin τ f (by rw [t75]; exact e753) t76⟩
        · rw [e]
          have l1 := ly.1
          have l2 := ly.2
          refine ⟨lit_R hs ly, fun _ => ⟨fun _ => ⟨⟨l1, by omega⟩, ?_⟩, fun q => absurd q (by omega)⟩, fun q => absurd q (by omega)⟩
          rw [show ((j + 1 : Nat) : Int) - 1 = (j : Int) by omega, t75]
          have w : ∀ x, z (zs τ 77 (Y (j + 1)).toNat (z σ1 75 2)) 77 x = if x = (Y (j + 1)).toNat then z σ1 75 2 else z τ 77 x := fun x => by
            rw [z_if (z_R _ _ _)]; simp
          refine ih _ (by omega) (fr_s f (by simp)) (by rw [z_oF (by decide)]; exact t75) (by rw [z_oF (by decide)]; exact t76) (fun k hk => ?_) (fun k k1 k2 => ?_)
          · rw [w]
            split
            · rfl
            · exact tn k hk
          · rw [w]
            split
            · rfl
            · next ne =>
              by_cases ek : k = j + 1
              · rw [ek] at ne; exact absurd rfl ne
              · exact tY k (by omega) k2
  have g13 : ∀ (m i : Nat) (τ : q_H), n ≤ i + m → i ≤ n → fr [75, 76, 77] σ τ → z τ 75 = z σ1 75 → z τ 76 = z σ 76 → (∀ k, k < i → z τ 77 (ng (z σ 85 k)).toNat = z σ1 75 2) → J ω m_Ch_follows (d + 1) 0 0 0 0 13 [(0, .ref 75), (1, .ref 72), (2, .ref 85), (3, .int (zI (n : Int))), (4, .ref 86), (5, .int (zI (h : Int))), (6, .int (zI (i : Int)))] [] τ (q_ki (fun v τ => J ω m_Ch_check (d + 1 + 1) 0 0 0 0 11 [(0, .ref 75), (2, .ref 85), (3, .int (zI (n : Int)))] [.int (zI v)] τ (q_kv K))) := by
    intro m
    have out : ∀ (τ : q_H), fr [75, 76, 77] σ τ → z τ 75 = z σ1 75 → z τ 76 = z σ 76 → (∀ k, k < n → z τ 77 (ng (z σ 85 k)).toNat = z σ1 75 2) → J ω m_Ch_follows (d + 1) 0 0 0 0 77 [(0, .ref 75), (1, .ref 72), (4, .ref 86), (6, .int (zI ((h : Int) - 1)))] [] τ (q_ki (fun v τ => J ω m_Ch_check (d + 1 + 1) 0 0 0 0 11 [(0, .ref 75), (2, .ref 85), (3, .int (zI (n : Int)))] [.int (zI v)] τ (q_kv K))) := by
      intro τ f t75 t76 tn
      rw [show (h : Int) - 1 = ((h - 1 : Nat) : Int) by omega]
      exact g77 (h - 1) τ (by omega) f t75 t76 tn (fun k k1 k2 => by omega)
    induction m with
    | zero =>
      intro i τ hk hi2 f t75 t76 tn
      have : i = n := by omega
      subst this
      exact b_Ch_follows_13 (fr_E f hE) ⟨⟨by omega, by omega⟩, ⟨by omega, by omega⟩, fun _ => out τ f t75 t76 tn, fun c => absurd c (by omega)⟩
    | succ m ih =>
      intro i τ hk hi2 f t75 t76 tn
      have e85 : z τ 85 = z σ 85 := fr_zF f (by decide)
      refine b_Ch_follows_13 (fr_E f hE) ⟨⟨by omega, by omega⟩, ⟨by omega, by omega⟩, fun c => out τ f t75 t76 (fun k hk2 => tn k (by omega)), fun c => ?_⟩
      rw [e85, Int.toNat_natCast]
      have lv := hl i (by omega)
      rw [zX_ng hs lv]
      have lx := ng_lit lv
      refine ⟨⟨by omega, by omega⟩, ⟨lv.1, by have := lv.2; omega⟩, fun _ => fin τ f (by rw [t75]; exact e753) t76, fun _ => ⟨fun _ => ⟨⟨lx.1, by have := lx.2; omega⟩, ?_⟩, fun _ => fin τ f (by rw [t75]; exact e753) t76⟩⟩
      rw [t75, show (i : Int) + 1 = ((i + 1 : Nat) : Int) by omega]
      have w : ∀ x, z (zs τ 77 (ng (z σ 85 i)).toNat (z σ1 75 2)) 77 x = if x = (ng (z σ 85 i)).toNat then z σ1 75 2 else z τ 77 x := fun x => by
        rw [z_if (z_R _ _ _)]; simp
      refine ih (i + 1) _ (by omega) (by omega) (fr_s f (by simp)) (by rw [z_oF (by decide)]; exact t75) (by rw [z_oF (by decide)]; exact t76) (fun k hk2 => ?_)
      rw [w]
      split
      · rfl
      · next ne =>
        by_cases ek : k = i
        · rw [ek] at ne; exact absurd rfl ne
        · exact tn k (by omega)
  refine b_Ch_check_0 hE (b_Ch_follows_0 hE ?_)
  rw [hσ1]
  exact g13 n 0 _ (by omega) (by omega) f1 rfl e76 (fun k hk => absurd hk (by omega))
end ChP
