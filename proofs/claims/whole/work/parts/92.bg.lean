/-! Solver.begin, wish; search at level 0 -/
section BgJ
variable {ω : q_W} {d s : Nat} {σ : q_H}
theorem TRp_0 {M V L Rs T St : Nat → Int} {cs : List Nat} (hV : ∀ l : Nat, l < 2 * s → V l = 0) : TRp s 0 0 M cs V L Rs T St :=
  ⟨fun i hi => absurd hi (by omega), fun i j _ hj => absurd hj (by omega), fun l hl => Or.inl (hV l hl), fun i hi => absurd hi (by omega), fun k a b => absurd b (by omega), fun k a b => absurd b (by omega), fun i hi => absurd hi (by omega), fun i hi => absurd hi (by omega)⟩
theorem s_begin {K : q_H → Prop} {m : Nat} (hd : 6 ≤ d) (hE : q_E σ) (hci : CI s σ) (hm : m ≤ 16) (hr : ∀ i, i < m → lit s (z σ 92 i)) (h84 : ∀ g, z σ 84 g = 0)
    (kk : ∀ (τ : q_H) (top : Nat) (cs : List Nat) (Ws : Nat → List Nat), fr [70, 71, 72, 73, 74, 76, 78, 79, 80, 81] σ τ → SC s 1 0 0 0 top cs Ws [] τ → K τ) : J ω m_So_begin d 0 0 0 0 0 [(0, .ref 70), (1, .ref 50), (2, .ref 92), (3, .int (zI (m : Int)))] [] σ (q_kv K) := by
  obtain ⟨d, rfl⟩ : ∃ k, d = k + 1 := ⟨d - 1, by omega⟩
  obtain ⟨d, rfl⟩ : ∃ k, d = k + 1 := ⟨d - 1, by omega⟩
  have hs1 := hci.2.1
  refine b_So_begin_0 hE (b_Cl_clear_0 hE ?_)
  rw [hci.1, show 2 * (s : Int) = ((2 * s : Nat) : Int) by omega]
  have F0 : fr [71] σ (zs σ 71 3 1) := fr_s fr_refl (by simp)
  have E0 := fr_E F0 hE
  refine c_wipe (n := 20480) (tg_73 E0) (q_okE E0 (by decide)) (by decide) E0 (by omega) (fun τ1 f1 w1 _ => ?_)
  have E1 := fr_E f1 E0
  have F1 : fr [71, 73] σ τ1 := fr_trans (fr_mono F0 (by simp)) (fr_mono f1 (by simp))
  have CX1 : CX s 1 [] (fun _ => []) τ1 := by
    refine ⟨by rw [fr_zF f1 (by decide), z_s ⟨by decide, by decide⟩]; rfl, ⟨by decide, by decide⟩, ⟨fun c hc => absurd hc (by simp), fun c hc => absurd hc (by simp), List.nodup_nil, Or.inl rfl⟩, fun l hl => ⟨w1 l hl, List.nodup_nil, fun c => by simp⟩⟩
  have CI1 : CI s τ1 := by
    unfold CI
    rw [fr_zF F1 (by decide), fr_zF F1 (by decide), fr_zF F1 (by decide), fr_zF F1 (by decide), fr_zF F1 (by decide), fr_zF F1 (by decide), fr_zF F1 (by decide), fr_zF F1 (by decide)]
    exact hci
  refine b_Cl_clear_15 E1 ⟨rfl, b_So_begin_11 E1 ?_⟩
  refine c_write (by omega) E1 CI1 CX1 hm (fun i hi => by rw [fr_zF F1 (by decide)]; exact hr i hi) (fun τ2 top cs Ws f2 CX2 htop => b_So_begin_21 (fr_E f2 E1) ?_)
  have E2 := fr_E f2 E1
  have F2 : fr [70, 71, 72, 73, 74, 76, 78, 79, 80, 81] σ τ2 := fr_trans (fr_mono F1 (by simp)) (fr_mono f2 (by simp))
  refine b_Ch_clear_0 E2 ?_
  have e50 : z τ2 50 7 = (s : Int) := by rw [fr_zF F2 (by decide)]; exact hci.1
  rw [e50, show 2 * (s : Int) = ((2 * s : Nat) : Int) by omega]
  refine c_wipe (n := 20480) (tg_76 E2) (q_okE E2 (by decide)) (by decide) E2 (by omega) (fun τ3 f3 w3 _ => b_Ch_clear_10 (fr_E f3 E2) ⟨rfl, ?_⟩)
  have E3 := fr_E f3 E2
  have F4 : fr [76] τ2 (zs τ3 76 0 1) := fr_s f3 (by simp)
  have E4 := fr_E F4 E2
  refine b_So_begin_32 E4 ?_
  rw [fr_zF F4 (by decide), e50, show 2 * (s : Int) = ((2 * s : Nat) : Int) by omega]
  refine c_wipe (n := 20480) (tg_78 E4) (q_okE E4 (by decide)) (by decide) E4 (by omega) (fun τ5 f5 w5 _ => b_So_begin_45 (fr_E f5 E4) ?_)
  have E5 := fr_E f5 E4
  have F5 : fr [76, 78] τ2 τ5 := fr_trans (fr_mono F4 (by simp)) (fr_mono f5 (by simp))
  have F6 : fr [70] τ5 (zs (zs (zs (zs (zs (zs τ5 70 6 0) 70 7 0) 70 8 0) 70 10 0) 70 12 0) 70 13 0) := fr_s (fr_s (fr_s (fr_s (fr_s (fr_s fr_refl (by simp)) (by simp)) (by simp)) (by simp)) (by simp)) (by simp)
  have v6 : z (zs (zs (zs (zs (zs (zs τ5 70 6 0) 70 7 0) 70 8 0) 70 10 0) 70 12 0) 70 13 0) 70 6 = 0 := by rw [z_k (by decide), z_k (by decide), z_k (by decide), z_k (by decide), z_k (by decide), z_s ⟨by decide, by decide⟩]
  have v7 : z (zs (zs (zs (zs (zs (zs τ5 70 6 0) 70 7 0) 70 8 0) 70 10 0) 70 12 0) 70 13 0) 70 7 = 0 := by rw [z_k (by decide), z_k (by decide), z_k (by decide), z_k (by decide), z_s ⟨by decide, by decide⟩]
  have v8 : z (zs (zs (zs (zs (zs (zs τ5 70 6 0) 70 7 0) 70 8 0) 70 10 0) 70 12 0) 70 13 0) 70 8 = 0 := by rw [z_k (by decide), z_k (by decide), z_k (by decide), z_s ⟨by decide, by decide⟩]
  have v10 : z (zs (zs (zs (zs (zs (zs τ5 70 6 0) 70 7 0) 70 8 0) 70 10 0) 70 12 0) 70 13 0) 70 10 = 0 := by rw [z_k (by decide), z_k (by decide), z_s ⟨by decide, by decide⟩]
  have v12 : z (zs (zs (zs (zs (zs (zs τ5 70 6 0) 70 7 0) 70 8 0) 70 10 0) 70 12 0) 70 13 0) 70 12 = 0 := by rw [z_k (by decide), z_s ⟨by decide, by decide⟩]
  have v13 : z (zs (zs (zs (zs (zs (zs τ5 70 6 0) 70 7 0) 70 8 0) 70 10 0) 70 12 0) 70 13 0) 70 13 = 0 := z_s ⟨by decide, by decide⟩
  generalize zs (zs (zs (zs (zs (zs τ5 70 6 0) 70 7 0) 70 8 0) 70 10 0) 70 12 0) 70 13 0 = ρ at F6 v6 v7 v8 v10 v12 v13 ⊢
  have Eρ := fr_E F6 E5
  have l0 : lit s 0 := ⟨by decide, by omega⟩
  have e78 : ∀ l : Nat, l < 2 * s → z ρ 78 l = 0 := fun l hl => by rw [fr_zF F6 (by decide)]; exact w5 l hl
  have G : fr [70, 71, 72, 73, 74, 76, 78, 79, 80, 81] σ ρ := fr_trans F2 (fr_trans (fr_mono F5 (by simp)) (fr_mono F6 (by simp)))
  have G2 : fr [70, 76, 78] τ2 ρ := fr_trans (fr_mono F5 (by simp)) (fr_mono F6 (by simp))
  have hT0 : TRp s 0 0 (z ρ 72) cs (z ρ 78) (z ρ 79) (z ρ 80) (z ρ 81) (z ρ 82) := TRp_0 e78
  refine s_assign (ts := 0) Eρ hs1.2 l0 ⟨by decide, by decide⟩ v6 (by decide) (fun μ fa t78 t79 t80 t81 t6 tk => b_So_begin_81 (fr_E fa Eρ) ⟨rfl, ?_⟩)
  have w : ∀ {a}, a ∉ [70, 78, 79, 80, 81] → z μ a = z ρ a := fun q => fr_zF fa q
  have hTn := TR_assign (r := 0) hT0 l0 (e78 0 (by omega)) (fun _ _ _ => Or.inr trivial) (Or.inl rfl) (fun q => absurd q (by omega))
  rw [v10] at t79
  refine kk μ top cs Ws (fr_trans G (fr_mono fa (by simp))) ⟨?_, ⟨by rw [t6]; rfl, by rw [tk 10 (by decide), v10]; rfl, by decide, ?_⟩, by rw [tk 7 (by decide), v7]; rfl, by decide, fun g => by rw [w (by decide), fr_zF G (by decide)]; exact h84 g, ⟨by rw [tk 12 (by decide), v12]; rfl, by decide, fun i hi => absurd hi (by omega), fun i j _ hj => absurd hj (by omega)⟩, ⟨0, by rw [tk 8 (by decide), v8]; rfl, by decide⟩, ⟨List.nodup_nil, fun m hm => absurd hm (by simp)⟩, by simp; omega, by decide, Or.inl ⟨by rw [tk 13 (by decide), v13], fun c _ _ e _ i hi => absurd hi (by omega)⟩⟩
  · unfold CX
    rw [w (by decide), w (by decide), w (by decide), fr_zF G2 (by decide), fr_zF G2 (by decide), fr_zF G2 (by decide)]; exact CX2
  · rw [w (show (72 : Nat) ∉ [70, 78, 79, 80, 81] by decide), w (show (82 : Nat) ∉ [70, 78, 79, 80, 81] by decide), t78, t79, t80, t81]; exact hTn
theorem s_wish {K : q_H → Prop} {ts dn wc rq top : Nat} {cs : List Nat} {Ws : Nat → List Nat} {x : Int} (hE : q_E σ) (hs : s ≤ 10240) (h : SC s ts dn wc rq top cs Ws [] σ) (hwc : wc < 12) (lx : lit s x) (hn : ∀ i, i < wc → gt (z σ 83 i) ≠ gt x)
    (kk : ∀ τ, fr [70, 83] σ τ → SC s ts dn (wc + 1) rq top cs Ws [] τ → z τ 83 = up (z σ 83) wc x → (∀ k, k ≠ 12 → z τ 70 k = z σ 70 k) → K τ) : J ω m_So_wish d 0 0 0 0 0 [(0, .ref 70), (1, .int (zI x))] [] σ (q_kv K) := by
  obtain ⟨hx, hX, h7, hdn, hz, ⟨w1, w2, w3, w4⟩, hnt, hF, ht, ht1, hc⟩ := h
  refine b_So_wish_0 hE ?_
  rw [w1, Int.toNat_natCast]
  refine ⟨fun c => absurd c (by omega), fun _ => ⟨⟨by omega, by omega⟩, rfl, kk _ (fr_s (fr_s fr_refl (by simp)) (by simp)) ?_ ?_ (fun k q => ?_)⟩⟩
  · have u : ∀ a, a ≠ 70 → a ≠ 83 → z (zs (zs σ 83 wc x) 70 12 ((wc : Int) + 1)) a = z σ a := fun a p q => by rw [z_oF p, z_oF q]
    have u70 : ∀ k, k ≠ 12 → z (zs (zs σ 83 wc x) 70 12 ((wc : Int) + 1)) 70 k = z σ 70 k := fun k q => by rw [z_k q, z_o (by decide)]
    have u83 : z (zs (zs σ 83 wc x) 70 12 ((wc : Int) + 1)) 83 = up (z σ 83) wc x := by rw [z_oF (by decide), z_up (lit_R hs lx)]
    refine ⟨?_, ⟨by rw [u70 6 (by decide)]; exact hX.1, by rw [u70 10 (by decide)]; exact hX.2.1, hX.2.2.1, ?_⟩, by rw [u70 7 (by decide)]; exact h7, hdn, fun g => by rw [u 84 (by decide) (by decide)]; exact hz g, ⟨?_, by omega, fun i hi => ?_, fun i j a b => ?_⟩, ?_, ⟨List.nodup_nil, fun m hm => absurd hm (by simp)⟩, ht, ht1, ?_⟩
    · unfold CX; rw [u 71 (by decide) (by decide), u 72 (by decide) (by decide), u 73 (by decide) (by decide)]; exact hx
    · rw [u 72 (by decide) (by decide), u 78 (by decide) (by decide), u 79 (by decide) (by decide), u 80 (by decide) (by decide), u 81 (by decide) (by decide), u 82 (by decide) (by decide)]; exact hX.2.2.2
    · rw [z_s ⟨by omega, by omega⟩]; rfl
    · rw [u83]
      by_cases q : i = wc
      · rw [q, up_s]; exact lx
      · rw [up_n q]; exact w3 i (by omega)
    · rw [u83]
      by_cases q : j = wc
      · rw [q, up_s, up_n (by omega)]; exact hn i (by omega)
      · rw [up_n q, up_n (by omega)]; exact w4 i j a (by omega)
    · rw [u70 8 (by decide)]; exact hnt
    · rw [u70 13 (by decide), u 72 (by decide) (by decide), u 78 (by decide) (by decide), u 79 (by decide) (by decide), u 81 (by decide) (by decide)]; exact hc
  · rw [z_oF (by decide), z_up (lit_R hs lx)]
  · rw [z_k q, z_o (by decide)]
theorem s_searchC {K : Int → q_H → Prop} {ts dn wc rq top : Nat} {cs : List Nat} {Ws : Nat → List Nat} {F : List Nat} (hd : 6 ≤ d) (hE : q_E σ) (hs : s ≤ 10240) (hrq : rq ≤ 28000)
    (k0 : ∀ τ, SF σ τ → (∀ g, z τ 84 g = 0) → K 0 τ) (k1 : ∀ (τ : q_H) (ts lv top : Nat) (cs : List Nat) (Ws : Nat → List Nat) (F : List Nat), SF σ τ → SI s ts lv ts wc rq top cs Ws F τ → (∀ i, i < wc → z τ 78 (z τ 83 i).toNat ≠ 0) → K 1 τ)
    (h : SC s ts dn wc rq top cs Ws F σ) : J ω m_So_search d 0 0 0 0 0 [(0, .ref 70)] [] σ (q_ki K) := by
  by_cases c0 : z σ 70 13 = 0
  · exact s_search hd hE hs hrq k0 k1 (SC_SI h c0)
  · obtain ⟨d, rfl⟩ : ∃ k, d = k + 1 := ⟨d - 1, by omega⟩
    obtain ⟨hx, hX, h7, hdn, hz, hw, ⟨nt, n1, n2⟩, hF, ht, ht1, hc⟩ := h
    obtain ⟨c, m, e1, e2⟩ : ∃ c ∈ cs, z σ 70 13 = ((c : Nat) : Int) ∧ ∀ x, inC (z σ 72) c x → z σ 78 x.toNat = -1 := by
      rcases hc with q | q
      · exact absurd q.1 c0
      · exact q
    refine b_So_search_0 hE (b_So_search_2 hE ⟨⟨by decide, by decide⟩, fun q => absurd q (by decide), fun _ => ⟨fun q => absurd q c0, fun _ => ⟨fun q => absurd hX.2.1 q, fun _ => ?_⟩⟩⟩)
    refine s_noteFacts (by omega) hE hs hx hX n1 n2 (fun π fp pk p8 => ?_)
    have Eπ := fr_E fp hE
    have w : ∀ {a}, a ∉ [70, 75, 76, 77, 85, 86] → z π a = z σ a := fun q => fr_zF fp q
    have cR := (hx.2.2.1.1 c m)
    have c1 := cR.1
    have c2 := cR.2.2.1
    have c3 := cR.2.1
    have c4 := hx.2.1.2
    have hFl := FM_len hw.2.1 hF
    refine b_So_search_38 Eπ ⟨by rw [e1]; exact ⟨by omega, by omega⟩, fun q => absurd q c0, fun _ => ?_⟩
    rw [e1]
    refine s_learn (dn := 0) (top := top) (ts := ts) (lv := 0) (cs := cs) (Ws := Ws) (by omega) Eπ hs ?_ ⟨by rw [pk 6 (by decide)]; exact hX.1, by rw [pk 10 (by decide)]; exact hX.2.1, hX.2.2.1, ?_⟩ m (fun x hx2 => ?_) (fun q => absurd q (by omega)) (fun g => by rw [w (by decide)]; exact hz g) (by omega) (fun q => absurd q (by omega)) (fun q μ fm mz mk => ?_) (fun q => absurd q (by omega))
    · unfold CX; rw [w (by decide), w (by decide), w (by decide)]; exact hx
    · rw [w (by decide), w (by decide), w (by decide), w (by decide), w (by decide), w (by decide)]; exact hX.2.2.2
    · rw [w (by decide)] at hx2; rw [w (by decide)]; exact e2 x hx2
    · have SFμ : SF σ μ := ⟨fr_trans (fr_mono fp (by simp)) (fr_mono fm (by simp)), fun k b1 b2 b3 b4 b5 b6 => by rw [mk k b5 b6, pk k b3]⟩
      exact b_So_search_47 (fr_E SFμ.1 hE) ⟨⟨by decide, by decide⟩, fun q => absurd rfl q, fun _ => ⟨0, ⟨by decide, by decide⟩, rfl, k0 μ SFμ mz⟩⟩
theorem s_searchD {K : Int → q_H → Prop} {ts lv dn wc rq top : Nat} {cs : List Nat} {Ws : Nat → List Nat} {F : List Nat} (hd : 6 ≤ d) (hE : q_E σ) (hs : s ≤ 10240) (hrq : rq ≤ 28000)
    (k0 : ∀ τ, SF σ τ → (∀ g, z τ 84 g = 0) → K 0 τ) (k1 : ∀ (τ : q_H) (ts lv top : Nat) (cs : List Nat) (Ws : Nat → List Nat) (F : List Nat), SF σ τ → SI s ts lv ts wc rq top cs Ws F τ → (∀ i, i < wc → z τ 78 (z τ 83 i).toNat ≠ 0) → K 1 τ)
    (h : SC s ts dn wc rq top cs Ws F σ ∨ SI s ts lv ts wc rq top cs Ws F σ) : J ω m_So_search d 0 0 0 0 0 [(0, .ref 70)] [] σ (q_ki K) := by
  rcases h with h | h
  · exact s_searchC hd hE hs hrq k0 k1 h
  · exact s_search hd hE hs hrq k0 k1 h
end BgJ
