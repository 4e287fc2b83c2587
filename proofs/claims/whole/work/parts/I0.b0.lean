/-! THE SOLVER: a question is put; search, with a clash or without -/
theorem pl3_m {a b c x : Int} (h : x ∈ pl3 a b c) : x = a ∨ x = b ∨ (c ≠ 0 ∧ x = c) := by
  unfold pl3 at h
  rcases List.mem_cons.mp h with q | h
  · exact Or.inl q
  · rcases List.mem_cons.mp h with q | h
    · exact Or.inr (Or.inl q)
    · by_cases c0 : c = 0
      · rw [if_pos c0] at h; exact absurd h (by simp)
      · rw [if_neg c0] at h; exact Or.inr (Or.inr ⟨c0, List.mem_singleton.mp h⟩)
theorem gcl_m {g s : Nat} {k a b c x : Int} {l : List Int} (hs : s ≤ 10240) (ha : lit s a) (hb : lit s b) (hc : k = 3 → lit s c) (hl : l ∈ gcl k (2 * (g : Int)) a b c) (hx : x ∈ l) : gt x = g ∨ gt x = gt a ∨ gt x = gt b ∨ gt x = gt c := by
  have o0 : gt (2 * (g : Int)) = g := by unfold gt; omega
  have o1 : gt (2 * (g : Int) + 1) = g := by unfold gt; omega
  have a1 : gt (zXor a 1) = gt a := by rw [zX_ng hs ha, gt_ng]
  have b1 : gt (zXor b 1) = gt b := by rw [zX_ng hs hb, gt_ng]
  unfold gcl at hl
  by_cases q : k = 1
  · rw [if_pos q] at hl
    simp only [List.mem_cons, List.mem_nil_iff, or_false] at hl
    rcases hl with e | e | e <;> rw [e] at hx <;> rcases pl3_m hx with r | r | ⟨r0, r⟩ <;> first | exact absurd rfl r0 | (rw [r]; simp [o0, o1, a1, b1])
  · rw [if_neg q] at hl
    by_cases q : k = 2
    · rw [if_pos q] at hl
      simp only [List.mem_cons, List.mem_nil_iff, or_false] at hl
      rcases hl with e | e | e | e <;> rw [e] at hx <;> rcases pl3_m hx with r | r | ⟨r0, r⟩ <;> rw [r] <;> simp [o0, o1, a1, b1]
    · rw [if_neg q] at hl
      by_cases q : k = 3
      · have c1 : gt (zXor c 1) = gt c := by rw [zX_ng hs (hc q), gt_ng]
        rw [if_pos q] at hl
        simp only [List.mem_cons, List.mem_nil_iff, or_false] at hl
        rcases hl with e | e | e | e <;> rw [e] at hx <;> rcases pl3_m hx with r | r | ⟨r0, r⟩ <;> rw [r] <;> simp [o0, o1, a1, b1, c1]
      · rw [if_neg q] at hl
        exact absurd hl (by simp)
section B0J
variable {ω : q_W} {d s : Nat} {σ : q_H}
theorem s_begin2 {K : q_H → Prop} {m : Nat} (hd : 6 ≤ d) (hE : q_E σ) (hci : CI s σ) (hm : m ≤ 16) (hr : ∀ i, i < m → lit s (z σ 92 i)) (h84 : ∀ g, z σ 84 g = 0)
    (kk : ∀ (τ : q_H) (top : Nat) (cs : List Nat) (Ws : Nat → List Nat), fr [70, 71, 72, 73, 74, 76, 78, 79, 80, 81] σ τ → SC s 1 0 0 0 top cs Ws [] τ → MKr m σ τ → MKc 0 s σ τ → WC (z τ 72) cs (gls (z σ 51) (z σ 52) (z σ 53) (z σ 54) (z τ 74) s) → z τ 71 4 = z σ 71 4 → z τ 70 13 = 0 → (∀ wc w, SXn (Gm0 s (z σ 51) (z σ 52) (z σ 53) (z σ 54) (z τ 74)) (RLv (z τ 74) wc w) (z τ 72) cs 1 cs τ) → K τ) : J ω m_So_begin d 0 0 0 0 0 [(0, .ref 70), (1, .ref 50), (2, .ref 92), (3, .int (zI (m : Int)))] [] σ (q_kv K) := by
  obtain ⟨d, rfl⟩ : ∃ k, d = k + 1 := ⟨d - 1, by omega⟩
  obtain ⟨d, rfl⟩ : ∃ k, d = k + 1 := ⟨d - 1, by omega⟩
  have hs1 := hci.2.1
  refine b_So_begin_0 hE (b_Cl_clear_0 hE ?_)
  rw [hci.1, show 2 * (s : Int) = ((2 * s : Nat) : Int) by omega]
  have F0 : fr [71] σ (zs σ 71 3 1) := fr_s fr_refl (by simp)
  have E0 := fr_E F0 hE
  refine c_wipe (n := 20480) (tg_73 E0) (q_okE E0 (by decide)) (by decide) E0 (by omega) (fun τ1 f1 w1 _ => ?_)
  have E1 := fr_E f1 E0
  have F1 : fr [71, 73] σ τ1 := fr_trans (fr_mono F0 (by simp)) (fr_mono f1 (by simp))
  have CX1 : CX s 1 [] (fun _ => []) τ1 := by
    refine ⟨by rw [fr_zF f1 (by decide), z_s ⟨by decide, by decide⟩]; rfl, ⟨by decide, by decide⟩, ⟨fun c hc => absurd hc (by simp), fun c hc => absurd hc (by simp), List.nodup_nil, Or.inl rfl⟩, fun l hl => ⟨w1 l hl, List.nodup_nil, fun c => by simp⟩⟩
  have CI1 : CI s τ1 := by
    unfold CI
    rw [fr_zF F1 (by decide), fr_zF F1 (by decide), fr_zF F1 (by decide), fr_zF F1 (by decide), fr_zF F1 (by decide), fr_zF F1 (by decide), fr_zF F1 (by decide), fr_zF F1 (by decide)]
    exact hci
  refine b_Cl_clear_15 E1 ⟨rfl, b_So_begin_11 E1 ?_⟩
  refine c_write2 (by omega) E1 CI1 CX1 ⟨fun l hl => absurd hl (by simp), fun c hc => absurd hc (by simp)⟩ hm (fun i hi => by rw [fr_zF F1 (by decide)]; exact hr i hi) (fun τ2 top cs Ws f2 CX2 htop mk1 mk2 hWC h714 => b_So_begin_21 (fr_E f2 E1) ?_)
  have E2 := fr_E f2 E1
  have F2 : fr [70, 71, 72, 73, 74, 76, 78, 79, 80, 81] σ τ2 := fr_trans (fr_mono F1 (by simp)) (fr_mono f2 (by simp))
  refine b_Ch_clear_0 E2 ?_
  have e50 : z τ2 50 7 = (s : Int) := by rw [fr_zF F2 (by decide)]; exact hci.1
  rw [e50, show 2 * (s : Int) = ((2 * s : Nat) : Int) by omega]
  refine c_wipe (n := 20480) (tg_76 E2) (q_okE E2 (by decide)) (by decide) E2 (by omega) (fun τ3 f3 w3 _ => b_Ch_clear_10 (fr_E f3 E2) ⟨rfl, ?_⟩)
  have E3 := fr_E f3 E2
  have F4 : fr [76] τ2 (zs τ3 76 0 1) := fr_s f3 (by simp)
  have E4 := fr_E F4 E2
  refine b_So_begin_32 E4 ?_
  rw [fr_zF F4 (by decide), e50, show 2 * (s : Int) = ((2 * s : Nat) : Int) by omega]
  refine c_wipe (n := 20480) (tg_78 E4) (q_okE E4 (by decide)) (by decide) E4 (by omega) (fun τ5 f5 w5 _ => b_So_begin_45 (fr_E f5 E4) ?_)
  have E5 := fr_E f5 E4
  have F5 : fr [76, 78] τ2 τ5 := fr_trans (fr_mono F4 (by simp)) (fr_mono f5 (by simp))
  have F6 : fr [70] τ5 (zs (zs (zs (zs (zs (zs τ5 70 6 0) 70 7 0) 70 8 0) 70 10 0) 70 12 0) 70 13 0) := fr_s (fr_s (fr_s (fr_s (fr_s (fr_s fr_refl (by simp)) (by simp)) (by simp)) (by simp)) (by simp)) (by simp)
  have v6 : z (zs (zs (zs (zs (zs (zs τ5 70 6 0) 70 7 0) 70 8 0) 70 10 0) 70 12 0) 70 13 0) 70 6 = 0 := by rw [z_k (by decide), z_k (by decide), z_k (by decide), z_k (by decide), z_k (by decide), z_s ⟨by decide, by decide⟩]
  have v7 : z (zs (zs (zs (zs (zs (zs τ5 70 6 0) 70 7 0) 70 8 0) 70 10 0) 70 12 0) 70 13 0) 70 7 = 0 := by rw [z_k (by decide), z_k (by decide), z_k (by decide), z_k (by decide), z_s ⟨by decide, by decide⟩]
  have v8 : z (zs (zs (zs (zs (zs (zs τ5 70 6 0) 70 7 0) 70 8 0) 70 10 0) 70 12 0) 70 13 0) 70 8 = 0 := by rw [z_k (by decide), z_k (by decide), z_k (by decide), z_s ⟨by decide, by decide⟩]
  have v10 : z (zs (zs (zs (zs (zs (zs τ5 70 6 0) 70 7 0) 70 8 0) 70 10 0) 70 12 0) 70 13 0) 70 10 = 0 := by rw [z_k (by decide), z_k (by decide), z_s ⟨by decide, by decide⟩]
  have v12 : z (zs (zs (zs (zs (zs (zs τ5 70 6 0) 70 7 0) 70 8 0) 70 10 0) 70 12 0) 70 13 0) 70 12 = 0 := by rw [z_k (by decide), z_s ⟨by decide, by decide⟩]
  have v13 : z (zs (zs (zs (zs (zs (zs τ5 70 6 0) 70 7 0) 70 8 0) 70 10 0) 70 12 0) 70 13 0) 70 13 = 0 := z_s ⟨by decide, by decide⟩
  generalize zs (zs (zs (zs (zs (zs τ5 70 6 0) 70 7 0) 70 8 0) 70 10 0) 70 12 0) 70 13 0 = ρ at F6 v6 v7 v8 v10 v12 v13 ⊢
  have Eρ := fr_E F6 E5
  have l0 : lit s 0 := ⟨by decide, by omega⟩
  have e78 : ∀ l : Nat, l < 2 * s → z ρ 78 l = 0 := fun l hl => by rw [fr_zF F6 (by decide)]; exact w5 l hl
  have G : fr [70, 71, 72, 73, 74, 76, 78, 79, 80, 81] σ ρ := fr_trans F2 (fr_trans (fr_mono F5 (by simp)) (fr_mono F6 (by simp)))
  have G2 : fr [70, 76, 78] τ2 ρ := fr_trans (fr_mono F5 (by simp)) (fr_mono F6 (by simp))
  have hT0 : TRp s 0 0 (z ρ 72) cs (z ρ 78) (z ρ 79) (z ρ 80) (z ρ 81) (z ρ 82) := TRp_0 e78
  refine s_assign (ts := 0) Eρ hs1.2 l0 ⟨by decide, by decide⟩ v6 (by decide) (fun μ fa t78 t79 t80 t81 t6 tk => b_So_begin_81 (fr_E fa Eρ) ⟨rfl, ?_⟩)
  have w : ∀ {a}, a ∉ [70, 78, 79, 80, 81] → z μ a = z ρ a := fun q => fr_zF fa q
  have hTn := TR_assign (r := 0) hT0 l0 (e78 0 (by omega)) (fun _ _ _ => Or.inr trivial) (Or.inl rfl) (fun q => absurd q (by omega))
  rw [v10] at t79
  have y : ∀ {a}, a ∉ [70, 76, 78, 79, 80, 81] → z μ a = z τ2 a := fun q => by
    rw [fr_zF fa (fun c => q (by simp at c ⊢; omega)), fr_zF G2 (fun c => q (by simp at c ⊢; omega))]
  have y1 : ∀ {a}, a ∉ [71, 73] → z τ1 a = z σ a := fun q => fr_zF F1 q
  have y72 : z μ 72 = z τ2 72 := y (by decide)
  have y74 : z μ 74 = z τ2 74 := y (by decide)
  have y76 : z μ 76 0 = 1 := by rw [w (by decide), fr_zF F6 (by decide), fr_zF f5 (by decide), z_s ⟨by decide, by decide⟩]
  have u714 : z μ 71 4 = z σ 71 4 := by rw [y (by decide), h714, fr_zF f1 (by decide), z_k (by decide)]
  unfold MKr at mk1
  unfold MKc at mk2
  rw [y1 (show (92 : Nat) ∉ [71, 73] by decide)] at mk1
  rw [y1 (show (51 : Nat) ∉ [71, 73] by decide), y1 (show (52 : Nat) ∉ [71, 73] by decide), y1 (show (53 : Nat) ∉ [71, 73] by decide), y1 (show (54 : Nat) ∉ [71, 73] by decide)] at mk2 hWC
  have T0 : z μ 81 0 = 0 := by rw [t81, up_s]
  have T8 : z μ 70 8 = 0 := by rw [tk 8 (by decide), v8]
  refine kk μ top cs Ws (fr_trans G (fr_mono fa (by simp))) ⟨?_, ⟨by rw [t6]; rfl, by rw [tk 10 (by decide), v10]; rfl, by decide, ?_⟩, by rw [tk 7 (by decide), v7]; rfl, by decide, fun g => by rw [w (by decide), fr_zF G (by decide)]; exact h84 g, ⟨by rw [tk 12 (by decide), v12]; rfl, by decide, fun i hi => absurd hi (by omega), fun i j _ hj => absurd hj (by omega)⟩, ⟨0, by rw [tk 8 (by decide), v8]; rfl, by decide⟩, ⟨List.nodup_nil, fun m hm => absurd hm (by simp)⟩, by simp; omega, by decide, Or.inl ⟨by rw [tk 13 (by decide), v13], fun c _ _ e _ i hi => absurd hi (by omega)⟩⟩ (by unfold MKr; rw [y74]; exact mk1) (by unfold MKc; rw [y74]; exact mk2) (by rw [y72, y74]; exact hWC) u714 (by rw [tk 13 (by decide), v13]) (fun wc w => ⟨fun v hv c hc => ?_, fun v hv i hi _ _ => ?_, fun i hi _ _ => ?_, fun i h1 _ => absurd h1 (by rw [T8]; omega), fun c hc x xi => ?_, fun i hi => ?_, fun _ c hc => ?_, fun c hc => ⟨hc, rfl, fun _ => Iff.rfl⟩, by decide, T0⟩)
  · unfold CX
    rw [w (by decide), w (by decide), w (by decide), fr_zF G2 (by decide), fr_zF G2 (by decide), fr_zF G2 (by decide)]; exact CX2
  · rw [w (show (72 : Nat) ∉ [70, 78, 79, 80, 81] by decide), w (show (82 : Nat) ∉ [70, 78, 79, 80, 81] by decide), t78, t79, t80, t81]; exact hTn
  · rw [y72] at *
    obtain ⟨-, l, hl, e⟩ := hWC.2 c hc
    rw [y74] at hv
    obtain ⟨x, hx, xv⟩ := hv.2 l hl
    exact ⟨x, (e x).mpr hx, xv⟩
  · rw [show i = 0 by omega, T0]; exact lvb_0 hv.1
  · rw [show i = 0 by omega, T0]; exact y76
  · rw [y72] at xi
    obtain ⟨-, l, hl, e⟩ := hWC.2 c hc
    obtain ⟨g, h1, h2, hm, hg⟩ := (mem_gls s).mp hl
    rw [y74]
    by_cases hk : z σ 51 g = 0
    · rw [hk] at hg
      unfold gcl at hg
      rw [if_neg (by decide), if_neg (by decide), if_neg (by decide)] at hg
      exact absurd hg (by simp)
    · obtain ⟨-, a, b, c', -⟩ := CI_ch hci h1 h2 hk
      obtain ⟨m1, m2, m3⟩ := mk2 g (by omega) h2 hm hk
      rcases gcl_m hs1.2 a.2.1 b.2.1 (fun q => (c' q).2) hg ((e x).mp xi) with q | q | q | q
      · rw [q]; exact Or.inr (Or.inl hm)
      · rw [q]; exact Or.inr (Or.inl m1)
      · rw [q]; exact Or.inr (Or.inl m2)
      · rw [q]; exact Or.inr (Or.inl m3)
  · rw [show i = 0 by omega, T0]; exact Or.inl rfl
  · rw [y72]
    have := (hWC.2 c hc).1
    exact ⟨by omega, fun q => by omega⟩
theorem s_searchC2 {K : Int → q_H → Prop} {Gm : (Nat → Bool) → Prop} {Rel : Nat → Prop} {M0 : Nat → Int} {cs0 : List Nat} {ts dn wc rq top : Nat} {cs : List Nat} {Ws : Nat → List Nat} {F : List Nat} (hd : 6 ≤ d) (hE : q_E σ) (hs : s ≤ 10240) (hrq : rq ≤ 28000)
    (hWr : ∀ i, i < wc → Rel (gt (z σ 83 i))) (hTot : TTo s wc M0 cs0 Rel (z σ 83)) (k0 : ∀ τ, SF σ τ → (∀ g, z τ 84 g = 0) → MSs σ τ → (∀ v, ¬ Gm v) → K 0 τ) (k1 : ∀ (τ : q_H) (ts lv top : Nat) (cs : List Nat) (Ws : Nat → List Nat) (F : List Nat), SF σ τ → SI s ts lv ts wc rq top cs Ws F τ → MSs σ τ → SXm Gm Rel M0 cs0 ts lv cs τ → (∀ i, i < wc → z τ 78 (z τ 83 i).toNat ≠ 0) → (∀ g, g < s → Rel g → z τ 78 (2 * g) ≠ 0) → (∀ c ∈ cs, ∃ x, inC (z τ 72) c x ∧ z τ 78 x.toNat = 1) → LSm wc (z τ 83) (z τ 78) Gm → K 1 τ)
    (h : SC s ts dn wc rq top cs Ws F σ) (hS : SXn Gm Rel M0 cs0 ts cs σ) : J ω m_So_search d 0 0 0 0 0 [(0, .ref 70)] [] σ (q_ki K) := by
  by_cases c0 : z σ 70 13 = 0
  · exact s_search2 hd hE hs hrq hWr hTot k0 k1 (SC_SI h c0) (SXn_m hS c0)
  · obtain ⟨d, rfl⟩ : ∃ k, d = k + 1 := ⟨d - 1, by omega⟩
    obtain ⟨hx, hX, h7, hdn, hz, hw, ⟨nt, n1, n2⟩, hF, ht, ht1, hc⟩ := h
    obtain ⟨c, m, e1, e2⟩ : ∃ c ∈ cs, z σ 70 13 = ((c : Nat) : Int) ∧ ∀ x, inC (z σ 72) c x → z σ 78 x.toNat = -1 := by
      rcases hc with q | q
      · exact absurd q.1 c0
      · exact q
    refine b_So_search_0 hE (b_So_search_2 hE ⟨⟨by decide, by decide⟩, fun q => absurd q (by decide), fun _ => ⟨fun q => absurd q c0, fun _ => ⟨fun q => absurd hX.2.1 q, fun _ => ?_⟩⟩⟩)
    have lz : ∀ i, i < ts → z σ 79 (gt (z σ 81 i)) = 0 := fun i hi => by have := hX.2.2.2.2.2.2.1 i hi; omega
    refine s_noteFacts2 (by omega) hE hs hx hX n1 n2 (fun i hi => hS.2.2.2.1 i (by rw [n1]; omega) (by omega)) (fun i hi r0 => hS.2.2.1 i hi (lz i hi) r0) (fun π fp pk p8 p75 p76 pall => ?_)
    have Eπ := fr_E fp hE
    have w : ∀ {a}, a ∉ [70, 75, 76, 77, 85, 86] → z π a = z σ a := fun q => fr_zF fp q
    have cR := (hx.2.2.1.1 c m)
    have c1 := cR.1
    have c2 := cR.2.2.1
    have c3 := cR.2.1
    have c4 := hx.2.1.2
    have hFl := FM_len hw.2.1 hF
    refine b_So_search_38 Eπ ⟨by rw [e1]; exact ⟨by omega, by omega⟩, fun q => absurd q c0, fun _ => ?_⟩
    rw [e1]
    refine s_learn2 (Gm := Gm) (dn := 0) (top := top) (ts := ts) (lv := 0) (cs := cs) (Ws := Ws) (by omega) Eπ hs ?_ ⟨by rw [pk 6 (by decide)]; exact hX.1, by rw [pk 10 (by decide)]; exact hX.2.1, hX.2.2.1, ?_⟩ m (fun x hx2 => ?_) (fun q => absurd q (by omega)) (fun g => by rw [w (by decide)]; exact hz g) (fun i hi _ => by rw [w (show (81 : Nat) ∉ [70, 75, 76, 77, 85, 86] by decide)]; exact pall i hi) (by rw [w (by decide)]; exact hS.1) (by rw [w (by decide), w (by decide), w (by decide)]; exact hS.2.1) (by omega) (fun q => absurd q (by omega)) (fun q μ fm m75 mz mk => ?_) (fun q => absurd q (by omega))
    · unfold CX; rw [w (by decide), w (by decide), w (by decide)]; exact hx
    · rw [w (by decide), w (by decide), w (by decide), w (by decide), w (by decide), w (by decide)]; exact hX.2.2.2
    · rw [w (by decide)] at hx2; rw [w (by decide)]; exact e2 x hx2
    · have SFμ : SF σ μ := ⟨fr_trans (fr_mono fp (by simp)) (fr_mono fm (by simp)), fun k b1 b2 b3 b4 b5 b6 => by rw [mk k b5 b6, pk k b3]⟩
      exact b_So_search_47 (fr_E SFμ.1 hE) ⟨⟨by decide, by decide⟩, fun q => absurd rfl q, fun _ => ⟨0, ⟨by decide, by decide⟩, rfl, k0 μ SFμ mz ⟨by rw [m75]; exact p75, by rw [fr_zF fm (by decide), w (by decide)]⟩ (no_model hX.2.2.2 (fun c hm x ⟨i, hi, ei⟩ => by rw [← ei]; exact (hx.2.2.1.1 c hm).2.2.2.1 i hi) hS.1 hS.2.1 m e2)⟩⟩
end B0J
/-! a question that stands: D is what it asks -/
def QPb (s wc : Nat) (D Gm : (Nat → Bool) → Prop) (M0 : Nat → Int) (cs0 : List Nat) (σ : q_H) : Prop :=
  CMP Gm M0 cs0 ∧ TTo s wc M0 cs0 (RLv (z σ 74) wc (z σ 83)) (z σ 83) ∧ (∀ v, CSv s σ v → D v → Gm v) ∧ ∀ v, Gm v → ∃ u, CSv s σ u ∧ D u ∧ ∀ g, g < s → RLv (z σ 74) wc (z σ 83) g → u g = v g
def QP (s wc rq : Nat) (D : (Nat → Bool) → Prop) (σ : q_H) : Prop :=
  ∃ (Gm : (Nat → Bool) → Prop) (M0 : Nat → Int) (cs0 : List Nat), QPb s wc D Gm M0 cs0 σ ∧ ((∃ (ts dn top : Nat) (cs : List Nat) (Ws : Nat → List Nat) (F : List Nat), SC s ts dn wc rq top cs Ws F σ ∧ SXn Gm (RLv (z σ 74) wc (z σ 83)) M0 cs0 ts cs σ) ∨ ∃ (ts lv top : Nat) (cs : List Nat) (Ws : Nat → List Nat) (F : List Nat), SI s ts lv ts wc rq top cs Ws F σ ∧ SXm Gm (RLv (z σ 74) wc (z σ 83)) M0 cs0 ts lv cs σ)
/-- u is the least model, and what the values say -/
def FND (s wc : Nat) (D : (Nat → Bool) → Prop) (σ : q_H) (u : Nat → Bool) : Prop :=
  CSv s σ u ∧ D u ∧ (∀ x, lit s x → RLv (z σ 74) wc (z σ 83) (gt x) → (z σ 78 x.toNat = 1 ↔ lvb u x = true)) ∧ ∀ v, CSv s σ v → D v → ∀ i, i < wc → lvb u (z σ 83 i) = false → (∀ j, j < i → lvb u (z σ 83 j) = true → lvb v (z σ 83 j) = true) → lvb v (z σ 83 i) = false
theorem QPb_cg {s wc : Nat} {D Gm : (Nat → Bool) → Prop} {M0 : Nat → Int} {cs0 : List Nat} {σ τ : q_H} (h : QPb s wc D Gm M0 cs0 σ) (e74 : z τ 74 = z σ 74) (e83 : z τ 83 = z σ 83) (e51 : z τ 51 = z σ 51) (e52 : z τ 52 = z σ 52) (e53 : z τ 53 = z σ 53) (e54 : z τ 54 = z σ 54) : QPb s wc D Gm M0 cs0 τ := by
  obtain ⟨h1, h2, h3, h4⟩ := h
  unfold QPb
  rw [e74, e83]
  refine ⟨h1, h2, fun v cv => h3 v (CSv_z e51 e52 e53 e54 cv), fun v gv => ?_⟩
  obtain ⟨u, u1, u2⟩ := h4 v gv
  exact ⟨u, CSv_z e51.symm e52.symm e53.symm e54.symm u1, u2⟩
section QpJ
variable {ω : q_W} {d s wc rq : Nat} {σ : q_H} {D : (Nat → Bool) → Prop}
theorem q_require {K : q_H → Prop} {sz : Nat} (hd : 4 ≤ d) (hE : q_E σ) (hs : s ≤ 10240) (h : QP s wc rq D σ) (hrq : rq ≤ 28000) (hsz : sz ≤ 12) (hl : ∀ i, i < sz → lit s (z σ 93 i)) (hrl : ∀ i, i < sz → RLv (z σ 74) wc (z σ 83) (gt (z σ 93 i)))
    (kk : ∀ τ, QP s wc (rq + 3 + sz) (fun v => D v ∧ ∃ i, i < sz ∧ lvb v (z σ 93 i) = true) τ → fr [70, 71, 72, 73, 78, 79, 80, 81, 93] σ τ → MSs σ τ → (∀ g, z τ 84 g = 0) → K τ) : J ω m_So_require d 0 0 0 0 0 [(0, .ref 70), (1, .ref 93), (2, .int (zI (sz : Int)))] [] σ (q_kv K) := by
  obtain ⟨Gm, M0, cs0, ⟨b1, b2, b3, b4⟩, hS⟩ := h
  have go : ∀ (ts lv dn top : Nat) (cs : List Nat) (Ws : Nat → List Nat) (F : List Nat), ((SC s ts dn wc rq top cs Ws F σ ∧ SXn Gm (RLv (z σ 74) wc (z σ 83)) M0 cs0 ts cs σ) ∨ (SI s ts lv ts wc rq top cs Ws F σ ∧ SXm Gm (RLv (z σ 74) wc (z σ 83)) M0 cs0 ts lv cs σ)) → J ω m_So_require d 0 0 0 0 0 [(0, .ref 70), (1, .ref 93), (2, .int (zI (sz : Int)))] [] σ (q_kv K) := fun ts lv dn top cs Ws F hS => by
    have hroom : top + 3 + sz ≤ 360000 := by
      rcases hS with ⟨q, -⟩ | ⟨q, -⟩
      · have := FM_len q.2.2.2.2.2.1.2.1 q.2.2.2.2.2.2.2.1
        have := q.2.2.2.2.2.2.2.2.1
        omega
      · have := FM_len q.2.2.2.2.2.2.2.1.2.1 q.2.2.2.2.2.2.2.2.2.2.1
        have := q.2.2.2.2.2.2.2.2.2.2.2.1
        omega
    refine s_require2 hd hE hs hS b1 hrl hsz hl hroom (fun τ ts' dn' top' cs' Ws' g1 g2 _ _ _ g4 ⟨M1, cs1, q1, q2, q3⟩ => ?_)
    have e : ∀ {a}, a ∉ [70, 71, 72, 73, 78, 79, 80, 81, 93] → z τ a = z σ a := fun q => fr_zF g1 q
    refine kk τ ⟨GmR Gm (z σ 93) sz, M1, cs1, QPb_cg (σ := σ) ⟨q3, TTo_q b2 q2, fun v cv dv => ⟨b3 v cv dv.1, dv.2⟩, fun v gv => ?_⟩ (e (by decide)) (e (by decide)) (e (by decide)) (e (by decide)) (e (by decide)) (e (by decide)), Or.inl ⟨ts', dn', top', cs', Ws', F, g2, by rw [e (by decide), e (by decide)]; exact q1⟩⟩ g1 ⟨by rw [e (by decide)], g4⟩ g2.2.2.2.2.1
    obtain ⟨u, u1, u2, u3⟩ := b4 v gv.1
    refine ⟨u, u1, ⟨u2, ?_⟩, u3⟩
    obtain ⟨i, hi, ei⟩ := gv.2
    exact ⟨i, hi, by rw [lvb_cg (u3 _ (gt_lt (hl i hi)) (hrl i hi))]; exact ei⟩
  rcases hS with ⟨ts, dn, top, cs, Ws, F, h1, h2⟩ | ⟨ts, lv, top, cs, Ws, F, h1, h2⟩
  · exact go ts 0 dn top cs Ws F (Or.inl ⟨h1, h2⟩)
  · exact go ts lv 0 top cs Ws F (Or.inr ⟨h1, h2⟩)
theorem q_search {K : Int → q_H → Prop} (hd : 6 ≤ d) (hE : q_E σ) (hs : s ≤ 10240) (h : QP s wc rq D σ) (hrq : rq ≤ 28000)
    (k0 : ∀ τ, SF σ τ → (∀ g, z τ 84 g = 0) → MSs σ τ → (∀ v, CSv s σ v → ¬ D v) → K 0 τ) (k1 : ∀ τ u, SF σ τ → (∀ g, z τ 84 g = 0) → MSs σ τ → QP s wc rq D τ → FND s wc D τ u → K 1 τ) : J ω m_So_search d 0 0 0 0 0 [(0, .ref 70)] [] σ (q_ki K) := by
  obtain ⟨Gm, M0, cs0, hb, hS⟩ := h
  obtain ⟨b1, b2, b3, b4⟩ := id hb
  have hWr : ∀ i, i < wc → RLv (z σ 74) wc (z σ 83) (gt (z σ 83 i)) := fun i hi => Or.inr (Or.inr ⟨i, hi, rfl⟩)
  have k0' : ∀ τ, SF σ τ → (∀ g, z τ 84 g = 0) → MSs σ τ → (∀ v, ¬ Gm v) → K 0 τ := fun τ a b c e => k0 τ a b c (fun v cv dv => e v (b3 v cv dv))
  have k1' : ∀ (τ : q_H) (ts lv top : Nat) (cs : List Nat) (Ws : Nat → List Nat) (F : List Nat), SF σ τ → SI s ts lv ts wc rq top cs Ws F τ → MSs σ τ → SXm Gm (RLv (z σ 74) wc (z σ 83)) M0 cs0 ts lv cs τ → (∀ i, i < wc → z τ 78 (z τ 83 i).toNat ≠ 0) → (∀ g, g < s → RLv (z σ 74) wc (z σ 83) g → z τ 78 (2 * g) ≠ 0) → (∀ c ∈ cs, ∃ x, inC (z τ 72) c x ∧ z τ 78 x.toNat = 1) → LSm wc (z τ 83) (z τ 78) Gm → K 1 τ := by
    intro τ ts lv top cs Ws F hf hI hM hX hw hg hc hL
    have e : ∀ {a}, a ∉ [70, 71, 72, 73, 75, 76, 77, 78, 79, 80, 81, 82, 84, 85, 86] → z τ a = z σ a := fun q => fr_zF hf.1 q
    have e74 : z τ 74 = z σ 74 := e (by decide)
    have e83 : z τ 83 = z σ 83 := e (by decide)
    have e51 : z τ 51 = z σ 51 := e (by decide)
    have e52 : z τ 52 = z σ 52 := e (by decide)
    have e53 : z τ 53 = z σ 53 := e (by decide)
    have e54 : z τ 54 = z σ 54 := e (by decide)
    have hT := hI.2.1.2.2.2
    have ht := TR_tri hT
    have val : ∀ x, lit s x → RLv (z σ 74) wc (z σ 83) (gt x) → (z τ 78 x.toNat = 1 ↔ lvb (fun g => decide (z τ 78 (2 * g) = 1)) x = true) := fun x lx rx => by
      have nz := hg _ (gt_lt lx) rx
      have l0 := lx.1
      have le : x = ((2 * gt x : Nat) : Int) ∨ x = ng ((2 * gt x : Nat) : Int) := by unfold gt ng; omega
      have lg : lit s ((2 * gt x : Nat) : Int) := ⟨by omega, by have := gt_lt lx; omega⟩
      have l3 := V_3 ht lg (by rw [Int.toNat_natCast]; exact nz)
      rw [Int.toNat_natCast] at l3
      have lv1 : lvb (fun g => decide (z τ 78 (2 * g) = 1)) ((2 * gt x : Nat) : Int) = decide (z τ 78 (2 * gt x) = 1) := by
        have := lvb_g (v := fun g => decide (z τ 78 (2 * g) = 1)) (gt x)
        rw [show ((2 * gt x : Nat) : Int) = 2 * ((gt x : Nat) : Int) by omega]
        exact this
      rcases le with q | q
      · rw [q, lv1, Int.toNat_natCast]; simp
      · rw [q, lvb_ng (by omega), lv1]
        rcases l3 with ⟨q1, q2⟩ | ⟨q1, q2⟩
        · rw [q1, q2]; simp
        · rw [q1, q2]; simp
    have hv0 : Gm (fun g => decide (z τ 78 (2 * g) = 1)) := by
      obtain ⟨x1, x2, x3, x4, x5, x6, x7, x8, x9, xa, xb⟩ := hX
      refine b1 _ ?_ (fun c hc0 => ?_)
      · have := (hT.1 0 xa).2.1
        rw [xb] at this
        show decide (z τ 78 (2 * 0) = 1) = true
        rw [show 2 * 0 = (0 : Int).toNat by decide, this]; rfl
      · obtain ⟨m1, -, m3⟩ := x9 c hc0
        obtain ⟨x, xi, xv⟩ := hc c m1
        have lx : lit s x := by
          obtain ⟨i, hi, ei⟩ := xi
          rw [← ei]; exact (hI.1.2.2.1.1 c m1).2.2.2.1 i hi
        exact ⟨x, (m3 x).mp xi, (val x lx (x6 c m1 x xi)).mp xv⟩
    obtain ⟨u, u1, u2, u3⟩ := b4 _ hv0
    have valu : ∀ x, lit s x → RLv (z σ 74) wc (z σ 83) (gt x) → (z τ 78 x.toNat = 1 ↔ lvb u x = true) := fun x lx rx => by
      rw [lvb_cg (v := fun g => decide (z τ 78 (2 * g) = 1)) (u3 _ (gt_lt lx) rx)]; exact val x lx rx
    have hwl := hI.2.2.2.2.2.2.2.1.2.2.1
    refine k1 τ u hf hI.2.2.2.2.2.2.1 hM ⟨Gm, M0, cs0, QPb_cg hb e74 e83 e51 e52 e53 e54, Or.inr ⟨ts, lv, top, cs, Ws, F, hI, by rw [e74, e83]; exact hX⟩⟩ ⟨CSv_z e51.symm e52.symm e53.symm e54.symm u1, u2, by rw [e74, e83]; exact valu, fun v cv dv i hi hu ho => ?_⟩
    refine hL v (b3 v (CSv_z e51 e52 e53 e54 cv) dv) i hi ?_ (fun j hj q => ho j hj ((valu _ (hwl j (by omega)) (by rw [e83]; exact hWr j (by omega))).mp q))
    have li := hwl i hi
    rcases V_3 ht li (hw i hi) with ⟨q1, -⟩ | ⟨q1, -⟩
    · have := (valu _ li (by rw [e83]; exact hWr i hi)).mp q1
      rw [hu] at this; cases this
    · exact q1
  rcases hS with ⟨ts, dn, top, cs, Ws, F, h1, h2⟩ | ⟨ts, lv, top, cs, Ws, F, h1, h2⟩
  · exact s_searchC2 hd hE hs hrq hWr b2 k0' k1' h1 h2
  · exact s_search2 hd hE hs hrq hWr b2 k0' k1' h1 h2
end QpJ
