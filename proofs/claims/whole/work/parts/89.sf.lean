/-! Solver.search: its loop -/
section SfJ
variable {ω : q_W} {d s wc rq : Nat} {σ : q_H}
theorem SI_learn {ts lv top k0 ts' top' : Nat} {cs cs' F : List Nat} {Ws Ws' : Nat → List Nat} {π μ : q_H} (hx : CX s top cs Ws π) (hX : TX s ts lv cs π) (hw : WI s wc π) (hD : DW wc lv (z π 83) (z π 78) (z π 79) (z π 81) (z π 82)) (hFM : FM wc (z π 83) (z π 72) cs F) (htop : top ≤ 270000 + 15 * F.length + rq) (hn : ∃ nt : Nat, z π 70 8 = (nt : Int) ∧ (nt : Int) ≤ z π 82 1) (h13 : z π 70 13 = 0) (l1 : 1 ≤ lv) (h : LR s ts lv top cs π μ k0 ts' top' cs' Ws') :
    (∃ F', SI s (ts' + 1) k0 ts' wc rq top' cs' Ws' F' μ) ∧ ((k0 = 0 ∧ top' = top) ∨ top + 5 ≤ top') := by
  obtain ⟨f, CX', TX', hk, hlt, ht', h7, fk, hQ, hL, -, hz, hp, hM, alt⟩ := h
  have e83 : z μ 83 = z π 83 := fr_zF f (by decide)
  have e82 : z μ 82 = z π 82 := fr_zF f (by decide)
  have hT := hX.2.2.2
  have hT' := TX'.2.2.2
  obtain ⟨w1, w2, w3, w4⟩ := hw
  obtain ⟨nt, n1, n2⟩ := hn
  obtain ⟨f1, f2, f3⟩ := hT.2.2.2.2.1 (k0 + 1) (by omega) (by omega)
  have k8 : z μ 70 8 = (nt : Int) := by rw [fk 8 (by decide) (by decide) (by decide) (by decide) (by decide)]; exact n1
  have sub : ∀ c ∈ cs, c ∈ cs' ∧ z μ 72 c = z π 72 c ∧ ∀ x, inC (z μ 72) c x ↔ inC (z π 72) c x := fun c hc => by
    obtain ⟨a1, a2, a3, -⟩ := hx.2.2.1.1 c hc
    refine ⟨?_, hM c (by omega), fun x => ?_⟩
    · rcases alt with ⟨-, -, q⟩ | ⟨ls, -, -, q, -⟩
      · rw [q]; exact hc
      · rw [q]; exact List.mem_cons_of_mem _ hc
    · unfold inC
      rw [hM c (by omega)]
      constructor
      · rintro ⟨i, hi, ei⟩; exact ⟨i, hi, by rw [← hM _ (by omega)]; exact ei⟩
      · rintro ⟨i, hi, ei⟩; exact ⟨i, hi, by rw [hM _ (by omega)]; exact ei⟩
  have D' : DW wc k0 (z μ 83) (z μ 78) (z μ 79) (z μ 81) (z μ 82) := by
    rw [e82] at hT'
    rw [e83, e82]
    refine DW_mono (t0 := ts') hT hT' w3 hD (by omega) (by omega) (fun i hi => ⟨(hp i hi).1, (hp i hi).2.1⟩) (fun i hi hl => ?_) (fun k h1 h2 => ?_)
    · have := f3 i hi
      by_cases q : i < ts'
      · exact q
      · have := this.mpr (by omega); omega
    · have := St_lt hT h1 (k0 + 1) (by omega) (by omega)
      have := (hT.2.2.2.2.1 k h1 (by omega)).1
      omega
  have mk : ∀ F', FM wc (z μ 83) (z μ 72) cs' F' → top' ≤ 270000 + 15 * F'.length + rq → SI s (ts' + 1) k0 ts' wc rq top' cs' Ws' F' μ := fun F' g1 g2 => by
    refine ⟨CX', TX', h7, by omega, fun i h1 h2 => by rw [show i = ts' by omega]; exact hL, hQ, hz, ⟨by rw [fk 12 (by decide) (by decide) (by decide) (by decide) (by decide)]; exact w1, w2, by rw [e83]; exact ⟨w3, w4⟩⟩, ⟨nt, k8, fun q => ?_, fun _ => by rw [e82]; exact n2⟩, D', g1, g2, by omega, by rw [fk 13 (by decide) (by decide) (by decide) (by decide) (by decide)]; exact h13⟩
    subst q
    rw [Nat.zero_add] at ht'
    omega
  rcases alt with ⟨q1, q2, q3⟩ | ⟨ls, q1, q2, q3, q4, q5⟩
  · exact ⟨⟨F, mk F (by rw [e83]; exact FM_keep hFM sub) (by omega)⟩, Or.inl ⟨q1, q2⟩⟩
  · refine ⟨?_, Or.inr (by omega)⟩
    rcases q5 with q5 | ⟨r1, r2, r3⟩
    · exact ⟨F, mk F (by rw [e83]; exact FM_keep hFM sub) (by omega)⟩
    · have inn : ∀ x, inC (z μ 72) top x ↔ ∃ j, j < ls ∧ z μ 72 (top + 3 + j) = x := fun x => by
        unfold inC
        rw [q4]
        constructor
        · rintro ⟨i, hi, ei⟩; exact ⟨i, by omega, ei⟩
        · rintro ⟨i, hi, ei⟩; exact ⟨i, by omega, ei⟩
      obtain ⟨m, hm⟩ := FM_new (c' := top) hFM sub (by rw [q3]; exact List.mem_cons_self ..) (by omega) (fun x hx2 => by
        obtain ⟨j, hj, ej⟩ := (inn x).mp hx2
        obtain ⟨p, p1, p2, p3, p4⟩ := r2 j hj
        have ed := TR_dec hT p1 p4 p3
        have el := (hT.2.2.2.1 p p1).2
        obtain ⟨i, a, b, -⟩ := hD (z π 79 (gt (z π 81 p))).toNat (by omega) (by omega)
        refine ⟨i, a, ?_⟩
        rw [← ej, p2, ← b, ← ed, Int.toNat_natCast]) (fun a ha h2 hall => r3 a ha h2 (fun x hx2 => (inn x).mp (hall x hx2)))
      exact ⟨m :: F, mk _ (by rw [e83]; exact hm) (by rw [List.length_cons]; omega)⟩
theorem s_search {K : Int → q_H → Prop} (hd : 6 ≤ d) (hE : q_E σ) (hs : s ≤ 10240) (hrq : rq ≤ 28000)
    (k0 : ∀ τ, SF σ τ → (∀ g, z τ 84 g = 0) → K 0 τ) (k1 : ∀ (τ : q_H) (ts lv top : Nat) (cs : List Nat) (Ws : Nat → List Nat) (F : List Nat), SF σ τ → SI s ts lv ts wc rq top cs Ws F τ → (∀ i, i < wc → z τ 78 (z τ 83 i).toNat ≠ 0) → K 1 τ)
    {ts lv dn top : Nat} {cs : List Nat} {Ws : Nat → List Nat} {F : List Nat} (h : SI s ts lv dn wc rq top cs Ws F σ) : J ω m_So_search d 0 0 0 0 0 [(0, .ref 70)] [] σ (q_ki K) := by
  obtain ⟨d, rfl⟩ : ∃ k, d = k + 1 := ⟨d - 1, by omega⟩
  have l : ∀ (m n ts lv dn top zz : Nat) (cs : List Nat) (Ws : Nat → List Nat) (F : List Nat) (ρ : q_H), n + m ≤ 3999999 → 13 * ((360000 - top) / 5 + (s - zz)) + 13 ≤ m + lv → (lv = 0 → zz = ts) → (1 ≤ lv → (zz : Int) = z ρ 82 1) → SF σ ρ → SI s ts lv dn wc rq top cs Ws F ρ → J ω m_So_search (d + 1) 0 0 0 0 2 [(0, .ref 70), (1, .int (zI (n : Int)))] [] ρ (q_ki K) := by
    intro m
    induction m with
    | zero =>
      intro n ts lv dn top zz cs Ws F ρ h1 h2 h3 h4 hf hI
      have := hI.2.1.2.2.1
      omega
    | succ m ih =>
      intro n ts lv dn top zz cs Ws F ρ h1 h2 h3 h4 hf hI
      obtain ⟨hx, hX, h7, hdn, hlv, hq, hz, hw, ⟨nt, n1, n2, n3⟩, hD, hFM, htop, hts, h13⟩ := id hI
      obtain ⟨f, fk⟩ := id hf
      have Eρ := fr_E f hE
      have h12 := hX.2.2.1
      have hT := hX.2.2.2
      have hFl := FM_len hw.2.1 hFM
      refine b_So_search_2 Eρ ?_
      rw [h13]
      refine ⟨⟨by omega, by omega⟩, fun c => absurd c (by omega), fun _ => ⟨fun _ => ?_, fun c => absurd rfl c⟩⟩
      refine s_propagate (by omega) Eρ hs hx hX h7 hdn hlv hq (fun v τ ts' dn' Ws' CX' TX' VP' t7 hdn' alt => ?_)
      obtain ⟨vf, vk, vts, vT, vL, vN, vC⟩ := id VP'
      have hT' := TX'.2.2.2
      have hlen' := TR_len hT'
      have e83 : z τ 83 = z ρ 83 := fr_zF vf (by decide)
      have e82 : z τ 82 = z ρ 82 := fr_zF vf (by decide)
      have e84 : z τ 84 = z ρ 84 := fr_zF vf (by decide)
      have W' : WI s wc τ := by
        obtain ⟨a, b, c⟩ := hw
        exact ⟨by rw [vk 12 (by decide) (by decide)]; exact a, b, by rw [e83]; exact c⟩
      have D' : DW wc lv (z τ 83) (z τ 78) (z τ 79) (z τ 81) (z τ 82) := by
        rw [e82] at hT'
        rw [e83, e82]
        exact DW_mono hT hT' hw.2.2.1 hD (Nat.le_refl _) vts (fun i hi => ⟨vT i hi, (vL i hi).1⟩) (fun i hi _ => hi) (fun k a b => by have := hT.2.2.2.2.1 k a b; omega)
      have FM' : FM wc (z τ 83) (z τ 72) cs F := by rw [e83]; exact FM_keep hFM (fun c hc => ⟨hc, vC c hc⟩)
      have SFτ : SF σ τ := ⟨fr_trans f (fr_mono vf (by simp)), fun k a1 a2 a3 a4 a5 a6 => by rw [vk k a1 a2]; exact fk k a1 a2 a3 a4 a5 a6⟩
      have c13 : z τ 70 13 = 0 := by rw [vk 13 (by decide) (by decide)]; exact h13
      have c10 : z τ 70 10 = (lv : Int) := TX'.2.1
      obtain ⟨z2, hz2, hz3, hz4⟩ : ∃ z2 : Nat, zz ≤ z2 ∧ (lv = 0 → z2 = ts') ∧ (1 ≤ lv → z2 = zz) := by
        by_cases q : lv = 0
        · exact ⟨ts', by have := h3 q; omega, fun _ => rfl, fun _ => absurd q (by omega)⟩
        · exact ⟨zz, Nat.le_refl _, fun q2 => absurd q2 q, fun _ => rfl⟩
      -- behind the facts
      have cont : ∀ (π : q_H) (nt' : Nat), fr [70, 75, 76, 77, 85, 86] τ π → (∀ k, k ≠ 8 → z π 70 k = z τ 70 k) → z π 70 8 = (nt' : Int) → (lv = 0 → nt' ≤ ts') → (1 ≤ lv → (nt' : Int) ≤ z τ 82 1) → J ω m_So_search (d + 1) 0 0 0 0 38 [(0, .ref 70), (1, .int (zI (n : Int))), (2, .int (zI v))] [] π (q_ki K) := by
        intro π nt' g gk g8 g0 g1
        have SFπ : SF σ π := ⟨fr_trans SFτ.1 (fr_mono g (by simp)), fun k a1 a2 a3 a4 a5 a6 => by rw [gk k a3]; exact SFτ.2 k a1 a2 a3 a4 a5 a6⟩
        have Eπ := fr_E SFπ.1 hE
        have w : ∀ {a}, a ∉ [70, 75, 76, 77, 85, 86] → z π a = z τ a := fun h => fr_zF g h
        have zπ : ∀ q, z π 84 q = 0 := fun q => by rw [w (by decide), e84]; exact hz q
        rcases alt with ⟨v0, d0, q0⟩ | ⟨q0, d0, c, hc, vc, o1, o2⟩
        · subst v0
          have SIτ : SI s ts' lv ts' wc rq top cs Ws' F τ := ⟨CX', TX', by rw [t7, d0], Nat.le_refl _, fun i a b => absurd b (by omega), q0, fun q => by rw [e84]; exact hz q, W', ⟨nt, by rw [vk 8 (by decide) (by decide)]; exact n1, fun q => by have := n2 q; omega, fun q => by rw [e82]; exact n3 q⟩, D', FM', htop, by omega, c13⟩
          have SIπ : SI s ts' lv ts' wc rq top cs Ws' F π := SI_fr SIτ (fr_mono g (by simp)) (fun k a _ _ => gk k a) zπ ⟨nt', g8, g0, g1⟩
          refine b_So_search_38 Eπ ⟨⟨by decide, by decide⟩, fun _ => ?_, fun q => absurd rfl q⟩
          have p10 : z π 70 10 = (lv : Int) := SIπ.2.1.2.1
          have p6 : z π 70 6 = (ts' : Int) := SIπ.2.1.1
          refine s_nextWish Eπ hs SIπ.2.2.2.2.2.2.2.1 (fun hall => ?_) (fun i hi hv hlt => ?_)
          · refine b_So_search_56 Eπ ⟨⟨by decide, by decide⟩, fun q => absurd rfl q, fun _ => ?_⟩
            refine s_checkModel (by omega) Eπ hs SIπ.1 SIπ.2.1 SIπ.2.2.2.2.2.2.2.1 zπ (fun μ fm mk2 mz => ?_)
            have SFμ : SF σ μ := ⟨fr_trans SFπ.1 (fr_mono fm (by simp)), fun k a1 a2 a3 a4 a5 a6 => by rw [mk2 k a5 a6]; exact SFπ.2 k a1 a2 a3 a4 a5 a6⟩
            refine b_So_search_66 (fr_E SFμ.1 hE) ⟨1, ⟨by decide, by decide⟩, rfl, k1 μ ts' lv top cs Ws' F SFμ (SI_fr SIπ fm (fun k _ a b => mk2 k a b) mz ⟨nt', by rw [mk2 8 (by decide) (by decide)]; exact g8, g0, fun q => by rw [w (by decide)]; exact g1 q⟩) (fun i hi => ?_)⟩
            rw [fr_zF fm (show (78 : Nat) ∉ [70, 75, 76, 77, 84, 85, 86] by decide), fr_zF fm (show (83 : Nat) ∉ [70, 75, 76, 77, 84, 85, 86] by decide)]
            exact hall i hi
          · have lx := SIπ.2.2.2.2.2.2.2.1.2.2.1 i hi
            have lx0 := lx.1
            refine b_So_search_56 Eπ ⟨lit_R hs lx, fun _ => ?_, fun q => absurd q (by omega)⟩
            rw [p10, p6, show ((lv : Int) + 1).toNat = lv + 1 by omega]
            refine s_decide Eπ hs SIπ hi hv hlt (fun μ fm mk2 SIμ u1 u2 => ?_)
            have SFμ : SF σ μ := ⟨fr_trans SFπ.1 (fr_mono fm (by simp)), fun k a1 a2 a3 a4 a5 a6 => by rw [mk2 k a1 a4]; exact SFπ.2 k a1 a2 a3 a4 a5 a6⟩
            refine b_So_search_97 (fr_E SFμ.1 hE) ?_
            rw [show (n : Int) + 1 = ((n + 1 : Nat) : Int) by omega]
            refine ih (n + 1) (ts' + 1) (lv + 1) ts' top z2 cs Ws' F μ (by omega) (by omega) (fun q => absurd q (by omega)) (fun _ => ?_) SFμ SIμ
            by_cases q : lv = 0
            · rw [u1 q, hz3 q]
            · rw [u2 (by omega), w (by decide), e82, hz4 (by omega)]; exact h4 (by omega)
        · have a1 := (hx.2.2.1.1 c hc).1
          have a2 := (hx.2.2.1.1 c hc).2.1
          have a3 := (hx.2.2.1.1 c hc).2.2.1
          have a4 := hx.2.1.2
          have p13 : z π 70 13 = 0 := by rw [gk 13 (by decide)]; exact c13
          have CXπ : CX s top cs Ws' π := by unfold CX; rw [w (by decide), w (by decide), w (by decide)]; exact CX'
          have TXπ : TX s ts' lv cs π := ⟨by rw [gk 6 (by decide)]; exact TX'.1, by rw [gk 10 (by decide)]; exact c10, h12, by rw [w (by decide), w (by decide), w (by decide), w (by decide), w (by decide), w (by decide)]; exact TX'.2.2.2⟩
          have WIπ : WI s wc π := by
            obtain ⟨a, b, c⟩ := W'
            exact ⟨by rw [gk 12 (by decide)]; exact a, b, by rw [w (by decide)]; exact c⟩
          refine b_So_search_38 Eπ ⟨by rw [vc]; exact ⟨by omega, by omega⟩, fun q => absurd q (by omega), fun _ => ?_⟩
          rw [vc]
          refine s_learn (dn := dn) (by omega) Eπ hs CXπ TXπ hc (by rw [w (show (72 : Nat) ∉ [70, 75, 76, 77, 85, 86] by decide), w (show (78 : Nat) ∉ [70, 75, 76, 77, 85, 86] by decide)]; exact o1) (fun _ => by rw [w (show (72 : Nat) ∉ [70, 75, 76, 77, 85, 86] by decide), w (show (79 : Nat) ∉ [70, 75, 76, 77, 85, 86] by decide)]; exact o2) zπ (by omega) (fun q => ⟨?_, ?_⟩) (fun q μ fm mz mk2 => ?_) (fun q μ kb tb topb csb Wsb hLR => ?_)
          · rw [w (show (72 : Nat) ∉ [70, 75, 76, 77, 85, 86] by decide), w (show (78 : Nat) ∉ [70, 75, 76, 77, 85, 86] by decide), w (show (79 : Nat) ∉ [70, 75, 76, 77, 85, 86] by decide), w (show (81 : Nat) ∉ [70, 75, 76, 77, 85, 86] by decide)]; exact q0
          · rw [w (by decide), e82]
            exact ((hT.2.2.2.2.1 lv q (Nat.le_refl _)).2.2 dn d0).mp (by rw [hlv dn (Nat.le_refl _) d0]; exact Int.le_refl _)
          · have SFμ : SF σ μ := ⟨fr_trans SFπ.1 (fr_mono fm (by simp)), fun k b1 b2 b3 b4 b5 b6 => by rw [mk2 k b5 b6]; exact SFπ.2 k b1 b2 b3 b4 b5 b6⟩
            exact b_So_search_47 (fr_E SFμ.1 hE) ⟨⟨by decide, by decide⟩, fun q => absurd rfl q, fun _ => ⟨0, ⟨by decide, by decide⟩, rfl, k0 μ SFμ mz⟩⟩
          · have SFμ : SF σ μ := ⟨fr_trans SFπ.1 (fr_mono hLR.1 (by simp)), fun k b1 b2 b3 b4 b5 b6 => by rw [hLR.2.2.2.2.2.2.2.1 k b1 b2 b4 b5 b6]; exact SFπ.2 k b1 b2 b3 b4 b5 b6⟩
            obtain ⟨⟨F', hSI⟩, hdec⟩ := SI_learn (rq := rq) (F := F) CXπ TXπ WIπ (by rw [w (show (83 : Nat) ∉ [70, 75, 76, 77, 85, 86] by decide), w (show (78 : Nat) ∉ [70, 75, 76, 77, 85, 86] by decide), w (show (79 : Nat) ∉ [70, 75, 76, 77, 85, 86] by decide), w (show (81 : Nat) ∉ [70, 75, 76, 77, 85, 86] by decide), w (show (82 : Nat) ∉ [70, 75, 76, 77, 85, 86] by decide)]; exact D') (by rw [w (show (83 : Nat) ∉ [70, 75, 76, 77, 85, 86] by decide), w (show (72 : Nat) ∉ [70, 75, 76, 77, 85, 86] by decide)]; exact FM') htop ⟨nt', g8, by rw [w (by decide)]; exact g1 q⟩ p13 q hLR
            have hk := hLR.2.2.2.1
            have ht' := hLR.2.2.2.2.2.1
            have m82 : z μ 82 = z ρ 82 := ((fr_zF hLR.1 (by decide)).trans (w (by decide))).trans e82
            have p82 : z π 82 = z ρ 82 := (w (by decide)).trans e82
            rw [p82] at ht'
            have hzz := h4 q
            have htb : hSI.2.1.1 = hSI.2.1.1 := rfl
            have tlen := TR_len hSI.2.1.2.2.2
            have htop2 := hSI.1.2.1.2
            refine b_So_search_47 (fr_E SFμ.1 hE) ⟨⟨by decide, by decide⟩, fun _ => ?_, fun q => absurd q (by decide)⟩
            rw [show (n : Int) + 1 = ((n + 1 : Nat) : Int) by omega]
            by_cases qk : kb = 0
            · subst qk
              rw [Nat.zero_add] at ht'
              refine ih (n + 1) (tb + 1) 0 tb topb (tb + 1) csb Wsb F' μ (by omega) (by omega) (fun _ => rfl) (fun q => absurd q (by omega)) SFμ hSI
            · refine ih (n + 1) (tb + 1) kb tb topb zz csb Wsb F' μ (by omega) (by omega) (fun q => absurd q qk) (fun _ => by rw [m82]; exact hzz) SFμ hSI
      refine b_So_search_26 (fr_E SFτ.1 hE) ?_
      rw [c10]
      refine ⟨fun c => cont τ nt fr_refl (fun _ _ => rfl) (by rw [vk 8 (by decide) (by decide)]; exact n1) (fun q => absurd q (by omega)) (fun q => by rw [e82]; exact n3 q), fun c => ?_⟩
      refine s_noteFacts (by omega) (fr_E SFτ.1 hE) hs CX' TX' (nt := nt) (by rw [vk 8 (by decide) (by decide)]; exact n1) (by have := n2 (by omega); omega) (fun π fp pk p8 => cont π ts' fp pk p8 (fun _ => Nat.le_refl _) (fun q => absurd q (by omega)))
  refine b_So_search_0 hE ?_
  have hT := h.2.1.2.2.2
  have hlen := TR_len hT
  have h12 := h.2.1.2.2.1
  obtain ⟨zz, z1, z2⟩ : ∃ zz : Nat, (lv = 0 → zz = ts) ∧ (1 ≤ lv → (zz : Int) = z σ 82 1) := by
    by_cases q : lv = 0
    · exact ⟨ts, fun _ => rfl, fun q2 => absurd q (by omega)⟩
    · refine ⟨(z σ 82 1).toNat, fun q2 => absurd q2 q, fun _ => ?_⟩
      have := (hT.2.2.2.2.1 1 (by omega) (by omega)).1
      omega
  exact l 2000000 0 ts lv dn top zz cs Ws F σ (by omega) (by omega) z1 z2 ⟨fr_refl, fun _ _ _ _ _ _ _ => rfl⟩ h
end SfJ
