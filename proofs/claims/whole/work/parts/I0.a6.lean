/-! THE SOLVER: search finds the least model, or there is none -/
def MSs (σ τ : q_H) : Prop := z τ 75 3 = z σ 75 3 ∧ z τ 71 4 = z σ 71 4
def tri (s : Nat) (V : Nat → Int) : Prop := (∀ l : Nat, l < 2 * s → V l = 0 ∨ V l = 1 ∨ V l = -1) ∧ ∀ x, lit s x → (V x.toNat = 1 → V (ng x).toNat = -1) ∧ (V x.toNat = -1 → V (ng x).toNat = 1)
/-- of a clause whose others are denied, the last one holds -/
def UCl (M0 : Nat → Int) (cs0 : List Nat) (V : Nat → Int) : Prop := ∀ c ∈ cs0, ∀ y, inC M0 c y → (∀ x, inC M0 c x → x ≠ y → V x.toNat = -1) → V y.toNat = 1
/-- once all wishes have values, all gates have -/
def TTo (s wc : Nat) (M0 : Nat → Int) (cs0 : List Nat) (Rel : Nat → Prop) (w : Nat → Int) : Prop := ∀ V : Nat → Int, tri s V → UCl M0 cs0 V → V 0 = 1 → (∀ i, i < wc → V (w i).toNat ≠ 0) → ∀ g, g < s → Rel g → V (2 * g) ≠ 0
/-- a wish that is denied must be, where those before it are as here -/
def LSm (wc : Nat) (w V : Nat → Int) (Gm : (Nat → Bool) → Prop) : Prop := ∀ v, Gm v → ∀ i, i < wc → V (w i).toNat = -1 → (∀ j, j < i → V (w j).toNat = 1 → lvb v (w j) = true) → lvb v (w i) = false
section SgJ
variable {ω : q_W} {d s wc rq : Nat} {σ : q_H}
theorem TR_tri {ts lv : Nat} {M V L Rs T St : Nat → Int} {cs : List Nat} (hT : TRp s ts lv M cs V L Rs T St) : tri s V := by
  refine ⟨fun l hl => ?_, fun x lx => ⟨fun h => ?_, fun h => ?_⟩⟩
  · rcases hT.2.2.1 l hl with q | ⟨q | q, -⟩
    · exact Or.inl q
    · exact Or.inr (Or.inl q)
    · exact Or.inr (Or.inr q)
  · obtain ⟨i, hi, ei⟩ := TR_pos hT lx h
    rw [← ei]; exact (hT.1 i hi).2.2
  · obtain ⟨i, hi, ei⟩ := TR_neg hT lx h
    rw [← ei]; exact (hT.1 i hi).2.1
theorem WQ_unit {ts lv top : Nat} {M V L Rs T St : Nat → Int} {cs : List Nat} {c : Nat} {y : Int} (hT : TRp s ts lv M cs V L Rs T St) (hcl : CLp M top s cs) (hq : WQ M V L T cs ts) (hc : c ∈ cs) (h2 : 2 ≤ M c) (ho : ∀ x, inC M c x → x ≠ y → V x.toNat = -1) : V y.toNat = 1 := by
  obtain ⟨-, -, -, a4, a5, -⟩ := hcl.1 c hc
  have i0 : inC M c (M (c + 3 + 0)) := ⟨0, by omega, rfl⟩
  have i1 : inC M c (M (c + 3 + 1)) := ⟨1, by omega, rfl⟩
  have ne := a5 0 1 (by omega) (by omega)
  by_cases e0 : M (c + 3 + 0) = y
  · have d1 := ho _ i1 (fun q => ne (by rw [e0, q]))
    obtain ⟨i, hi, ei⟩ := TR_neg hT (a4 1 (by omega)) d1
    have := (hq c hc h2 1 (Nat.le_refl _) i hi ei).1
    rw [← e0]; exact this
  · have d0 := ho _ i0 e0
    obtain ⟨i, hi, ei⟩ := TR_neg hT (a4 0 (by omega)) d0
    have q1 := (hq c hc h2 0 (by omega) i hi ei).1
    by_cases e1 : M (c + 3 + 1) = y
    · rw [← e1]; exact q1
    · have := ho _ i1 e1
      have q2 : V (M (c + 3 + 1)).toNat = 1 := q1
      rw [this] at q2
      exact absurd q2 (by decide)
theorem V_gt {V : Nat → Int} {x : Int} (ht : tri s V) (lx : lit s x) (h : V (2 * gt x) ≠ 0) : V x.toNat ≠ 0 := by
  have l0 := lx.1
  have e : x = 2 * (gt x : Int) ∨ x = ng (2 * (gt x : Int)) := by unfold gt ng; omega
  rcases e with e | e
  · have : x.toNat = 2 * gt x := by omega
    rw [this]; exact h
  · have lg : lit s (2 * (gt x : Int)) := by
      unfold gt
      have := lx.2
      exact ⟨by omega, by omega⟩
    have hb := lg.2
    rcases ht.1 (2 * gt x) (by omega) with q | q | q
    · exact absurd q h
    · have := (ht.2 _ lg).1 (by rw [show ((2 * (gt x : Int)).toNat) = 2 * gt x by omega]; exact q)
      rw [← e] at this
      rw [this]; decide
    · have := (ht.2 _ lg).2 (by rw [show ((2 * (gt x : Int)).toNat) = 2 * gt x by omega]; exact q)
      rw [← e] at this
      rw [this]; decide
theorem model_all {Gm : (Nat → Bool) → Prop} {Rel : Nat → Prop} {M0 : Nat → Int} {cs0 cs : List Nat} {ts lv top : Nat} {Ws : Nat → List Nat} {π : q_H} (hx : CX s top cs Ws π) (hX : TX s ts lv cs π) (hq : WQ (z π 72) (z π 78) (z π 79) (z π 81) cs ts) (hS : SXm Gm Rel M0 cs0 ts lv cs π) (hTo : TTo s wc M0 cs0 Rel (z π 83)) (hall : ∀ i, i < wc → z π 78 (z π 83 i).toNat ≠ 0) : (∀ g, g < s → Rel g → z π 78 (2 * g) ≠ 0) ∧ ∀ c ∈ cs, ∃ x, inC (z π 72) c x ∧ z π 78 x.toNat = 1 := by
  obtain ⟨x1, x2, x3, x4, x5, x6, x7, x8, x9, xa, xb⟩ := hS
  have hT := hX.2.2.2
  have ht := TR_tri hT
  have one : ∀ c ∈ cs, z π 72 c = 1 → z π 78 (z π 72 (c + 3)).toNat = 1 := fun c hc q => by
    obtain ⟨i, i1, i2, -⟩ := (x8 c hc).2 q
    rw [← i2]; exact (hT.1 i i1).2.1
  have uc : UCl M0 cs0 (z π 78) := fun c hc y yi ho => by
    obtain ⟨m1, m2, m3⟩ := x9 c hc
    by_cases c2 : 2 ≤ z π 72 c
    · exact WQ_unit hT hx.2.2.1 hq m1 c2 (fun x xi ne => ho x ((m3 x).mp xi) ne)
    · have c1 : z π 72 c = 1 := by have := (x8 c m1).1; omega
      obtain ⟨k, k1, k2⟩ := (m3 y).mpr yi
      have := one c m1 c1
      rw [c1] at k1
      rw [show k = 0 by omega] at k2
      rw [← k2]; exact this
  have val := hTo _ ht uc (by have := (hT.1 0 xa).2.1; rw [xb] at this; exact this) hall
  refine ⟨val, fun c hc => ?_⟩
  obtain ⟨-, -, -, a4, a5, -⟩ := hx.2.2.1.1 c hc
  by_cases c2 : 2 ≤ z π 72 c
  · have l0 := a4 0 (by omega)
    have i0 : inC (z π 72) c (z π 72 (c + 3 + 0)) := ⟨0, by omega, rfl⟩
    have v0 := V_gt ht l0 (val _ (gt_lt l0) (x6 c hc _ i0))
    have lb := l0.2
    have lc := l0.1
    rcases ht.1 (z π 72 (c + 3 + 0)).toNat (by omega) with q | q | q
    · exact absurd q v0
    · exact ⟨_, i0, q⟩
    · obtain ⟨i, hi, ei⟩ := TR_neg hT l0 q
      exact ⟨_, ⟨1, by omega, rfl⟩, (hq c hc c2 0 (by omega) i hi ei).1⟩
  · have c1 : z π 72 c = 1 := by have := (x8 c hc).1; omega
    exact ⟨z π 72 (c + 3), ⟨0, by rw [c1]; decide, rfl⟩, one c hc c1⟩
theorem model_least {Gm : (Nat → Bool) → Prop} {Rel : Nat → Prop} {M0 : Nat → Int} {cs0 cs : List Nat} {ts lv top : Nat} {Ws : Nat → List Nat} {π : q_H} (hx : CX s top cs Ws π) (hX : TX s ts lv cs π) (hw : WI s wc π) (hD : DW wc lv (z π 83) (z π 78) (z π 79) (z π 81) (z π 82)) (hS : SXm Gm Rel M0 cs0 ts lv cs π) : LSm wc (z π 83) (z π 78) Gm := by
  intro v hv i hi hd ho
  have hT := hX.2.2.2
  have lx := hw.2.2.1 i hi
  obtain ⟨p, hp, ep⟩ := TR_neg hT lx hd
  have hclx : ∀ c ∈ cs, ∀ x, inC (z π 72) c x → lit s x := fun c hm x ⟨i, hi, ei⟩ => by rw [← ei]; exact (hx.2.2.1.1 c hm).2.2.2.1 i hi
  have lp := hT.2.2.2.1 p hp
  have := TR_snd hT hclx hS.1 hS.2.1 hv p p (Nat.le_refl _) hp (fun k k1 k2 => ?_)
  · rw [ep, lvb_ng lx.1] at this
    cases h : lvb v (z π 83 i) with
    | false => rfl
    | true => rw [h] at this; cases this
  · obtain ⟨i', i1, i2, i3⟩ := hD k k1 (by omega)
    have st := hT.2.2.2.2.1 k k1 (by omega)
    have vt := (hT.1 (z π 82 k).toNat (by omega)).2.1
    rw [i2] at vt
    rw [i2]
    rcases Nat.lt_or_ge i' i with q | q
    · exact ho i' q vt
    · by_cases e : i' = i
      · rw [e, hd] at vt; exact absurd vt (by decide)
      · have := (i3 i (by omega)).2
        have e2 : gt (z π 81 p) = gt (z π 83 i) := by rw [ep, gt_ng]
        rw [← e2] at this
        omega
theorem s_search2 {K : Int → q_H → Prop} {Gm : (Nat → Bool) → Prop} {Rel : Nat → Prop} {M0 : Nat → Int} {cs0 : List Nat} (hd : 6 ≤ d) (hE : q_E σ) (hs : s ≤ 10240) (hrq : rq ≤ 28000) (hWr : ∀ i, i < wc → Rel (gt (z σ 83 i))) (hTot : TTo s wc M0 cs0 Rel (z σ 83))
    (k0 : ∀ τ, SF σ τ → (∀ g, z τ 84 g = 0) → MSs σ τ → (∀ v, ¬ Gm v) → K 0 τ) (k1 : ∀ (τ : q_H) (ts lv top : Nat) (cs : List Nat) (Ws : Nat → List Nat) (F : List Nat), SF σ τ → SI s ts lv ts wc rq top cs Ws F τ → MSs σ τ → SXm Gm Rel M0 cs0 ts lv cs τ → (∀ i, i < wc → z τ 78 (z τ 83 i).toNat ≠ 0) → (∀ g, g < s → Rel g → z τ 78 (2 * g) ≠ 0) → (∀ c ∈ cs, ∃ x, inC (z τ 72) c x ∧ z τ 78 x.toNat = 1) → LSm wc (z τ 83) (z τ 78) Gm → K 1 τ)
    {ts lv dn top : Nat} {cs : List Nat} {Ws : Nat → List Nat} {F : List Nat} (h : SI s ts lv dn wc rq top cs Ws F σ) (hS0 : SXm Gm Rel M0 cs0 ts lv cs σ) : J ω m_So_search d 0 0 0 0 0 [(0, .ref 70)] [] σ (q_ki K) := by
  obtain ⟨d, rfl⟩ : ∃ k, d = k + 1 := ⟨d - 1, by omega⟩
  have l : ∀ (m n ts lv dn top zz : Nat) (cs : List Nat) (Ws : Nat → List Nat) (F : List Nat) (ρ : q_H), n + m ≤ 3999999 → 13 * ((360000 - top) / 5 + (s - zz)) + 13 ≤ m + lv → (lv = 0 → zz = ts) → (1 ≤ lv → (zz : Int) = z ρ 82 1) → SF σ ρ → SI s ts lv dn wc rq top cs Ws F ρ → SXm Gm Rel M0 cs0 ts lv cs ρ → MSs σ ρ → J ω m_So_search (d + 1) 0 0 0 0 2 [(0, .ref 70), (1, .int (zI (n : Int)))] [] ρ (q_ki K) := by
    intro m
    induction m with
    | zero =>
      intro n ts lv dn top zz cs Ws F ρ h1 h2 h3 h4 hf hI hSx hMs
      have := hI.2.1.2.2.1
      omega
    | succ m ih =>
      intro n ts lv dn top zz cs Ws F ρ h1 h2 h3 h4 hf hI hSx hMs
      obtain ⟨hx, hX, h7, hdn, hlv, hq, hz, hw, ⟨nt, n1, n2, n3⟩, hD, hFM, htop, hts, h13⟩ := id hI
      obtain ⟨f, fk⟩ := id hf
      have Eρ := fr_E f hE
      have h12 := hX.2.2.1
      have hT := hX.2.2.2
      have hFl := FM_len hw.2.1 hFM
      refine b_So_search_2 Eρ ?_
      rw [h13]
      refine ⟨⟨by omega, by omega⟩, fun c => absurd c (by omega), fun _ => ⟨fun _ => ?_, fun c => absurd rfl c⟩⟩
      refine s_propagate (by omega) Eρ hs hx hX h7 hdn hlv hq (fun v τ ts' dn' Ws' CX' TX' VP' t7 hdn' alt => ?_)
      obtain ⟨vf, vk, vts, vT, vL, vN, vC⟩ := id VP'
      have hT' := TX'.2.2.2
      have hlen' := TR_len hT'
      have e83 : z τ 83 = z ρ 83 := fr_zF vf (by decide)
      have e82 : z τ 82 = z ρ 82 := fr_zF vf (by decide)
      have e84 : z τ 84 = z ρ 84 := fr_zF vf (by decide)
      have W' : WI s wc τ := by
        obtain ⟨a, b, c⟩ := hw
        exact ⟨by rw [vk 12 (by decide) (by decide)]; exact a, b, by rw [e83]; exact c⟩
      have D' : DW wc lv (z τ 83) (z τ 78) (z τ 79) (z τ 81) (z τ 82) := by
        rw [e82] at hT'
        rw [e83, e82]
        exact DW_mono hT hT' hw.2.2.1 hD (Nat.le_refl _) vts (fun i hi => ⟨vT i hi, (vL i hi).1⟩) (fun i hi _ => hi) (fun k a b => by have := hT.2.2.2.2.1 k a b; omega)
      have FM' : FM wc (z τ 83) (z τ 72) cs F := by rw [e83]; exact FM_keep hFM (fun c hc => ⟨hc, vC c hc⟩)
      have SFτ : SF σ τ := ⟨fr_trans f (fr_mono vf (by simp)), fun k a1 a2 a3 a4 a5 a6 => by rw [vk k a1 a2]; exact fk k a1 a2 a3 a4 a5 a6⟩
      have c13 : z τ 70 13 = 0 := by rw [vk 13 (by decide) (by decide)]; exact h13
      have c10 : z τ 70 10 = (lv : Int) := TX'.2.1
      obtain ⟨z2, hz2, hz3, hz4⟩ : ∃ z2 : Nat, zz ≤ z2 ∧ (lv = 0 → z2 = ts') ∧ (1 ≤ lv → z2 = zz) := by
        by_cases q : lv = 0
        · exact ⟨ts', by have := h3 q; omega, fun _ => rfl, fun _ => absurd q (by omega)⟩
        · exact ⟨zz, Nat.le_refl _, fun q2 => absurd q2 q, fun _ => rfl⟩
      have nts : z ρ 70 8 ≤ (ts : Int) := by
        rw [n1]
        by_cases q : lv = 0
        · have := n2 q; omega
        · have := n3 (by omega)
          have := (hT.2.2.2.2.1 1 (by omega) (by omega)).2.1
          omega
      have SXτ : SXm Gm Rel M0 cs0 ts' lv cs τ := SXm_prop TX' VP' nts hSx
      have MSτ : MSs σ τ := ⟨by rw [fr_zF vf (by decide)]; exact hMs.1, by rw [fr_zF vf (by decide)]; exact hMs.2⟩
      -- behind the facts
      have cont : ∀ (π : q_H) (nt' : Nat), fr [70, 75, 76, 77, 85, 86] τ π → (∀ k, k ≠ 8 → z π 70 k = z τ 70 k) → z π 70 8 = (nt' : Int) → (lv = 0 → nt' ≤ ts') → (1 ≤ lv → (nt' : Int) ≤ z τ 82 1) → (lv = 0 → nt' = ts') → SXm Gm Rel M0 cs0 ts' lv cs π → MSs σ π → (∀ i, i < ts' → z π 79 (gt (z π 81 i)) = 0 → z π 76 (z π 81 i).toNat = 1) → J ω m_So_search (d + 1) 0 0 0 0 38 [(0, .ref 70), (1, .int (zI (n : Int))), (2, .int (zI v))] [] π (q_ki K) := by
        intro π nt' g gk g8 g0 g1 g00 SXπ MSπ pvπ
        have SFπ : SF σ π := ⟨fr_trans SFτ.1 (fr_mono g (by simp)), fun k a1 a2 a3 a4 a5 a6 => by rw [gk k a3]; exact SFτ.2 k a1 a2 a3 a4 a5 a6⟩
        have Eπ := fr_E SFπ.1 hE
        have w : ∀ {a}, a ∉ [70, 75, 76, 77, 85, 86] → z π a = z τ a := fun h => fr_zF g h
        have zπ : ∀ q, z π 84 q = 0 := fun q => by rw [w (by decide), e84]; exact hz q
        rcases alt with ⟨v0, d0, q0⟩ | ⟨q0, d0, c, hc, vc, o1, o2⟩
        · subst v0
          have SIτ : SI s ts' lv ts' wc rq top cs Ws' F τ := ⟨CX', TX', by rw [t7, d0], Nat.le_refl _, fun i a b => absurd b (by omega), q0, fun q => by rw [e84]; exact hz q, W', ⟨nt, by rw [vk 8 (by decide) (by decide)]; exact n1, fun q => by have := n2 q; omega, fun q => by rw [e82]; exact n3 q⟩, D', FM', htop, by omega, c13⟩
          have SIπ : SI s ts' lv ts' wc rq top cs Ws' F π := SI_fr SIτ (fr_mono g (by simp)) (fun k a _ _ => gk k a) zπ ⟨nt', g8, g0, g1⟩
          refine b_So_search_38 Eπ ⟨⟨by decide, by decide⟩, fun _ => ?_, fun q => absurd rfl q⟩
          have p10 : z π 70 10 = (lv : Int) := SIπ.2.1.2.1
          have p6 : z π 70 6 = (ts' : Int) := SIπ.2.1.1
          refine s_nextWish Eπ hs SIπ.2.2.2.2.2.2.2.1 (fun hall => ?_) (fun i hi hv hlt => ?_)
          · refine b_So_search_56 Eπ ⟨⟨by decide, by decide⟩, fun q => absurd rfl q, fun _ => ?_⟩
            have Tπ : TTo s wc M0 cs0 Rel (z π 83) := by rw [fr_zF SFπ.1 (show (83 : Nat) ∉ [70, 71, 72, 73, 75, 76, 77, 78, 79, 80, 81, 82, 84, 85, 86] by decide)]; exact hTot
            obtain ⟨mg, mc⟩ := model_all SIπ.1 SIπ.2.1 SIπ.2.2.2.2.2.1 SXπ Tπ hall
            have ml := model_least SIπ.1 SIπ.2.1 SIπ.2.2.2.2.2.2.2.1 SIπ.2.2.2.2.2.2.2.2.2.1 SXπ
            refine s_checkModel2 (by omega) Eπ hs SIπ.1 SIπ.2.1 SIπ.2.2.2.2.2.2.2.1 zπ pvπ mc SIπ.2.2.2.2.2.2.2.2.2.1 (fun μ fm mk2 mz m75 m76 => ?_)
            have SFμ : SF σ μ := ⟨fr_trans SFπ.1 (fr_mono fm (by simp)), fun k a1 a2 a3 a4 a5 a6 => by rw [mk2 k a5 a6]; exact SFπ.2 k a1 a2 a3 a4 a5 a6⟩
            have y72 : z μ 72 = z π 72 := fr_zF fm (by decide)
            have y78 : z μ 78 = z π 78 := fr_zF fm (by decide)
            have y83 : z μ 83 = z π 83 := fr_zF fm (by decide)
            refine b_So_search_66 (fr_E SFμ.1 hE) ⟨1, ⟨by decide, by decide⟩, rfl, k1 μ ts' lv top cs Ws' F SFμ (SI_fr SIπ fm (fun k _ a b => mk2 k a b) mz ⟨nt', by rw [mk2 8 (by decide) (by decide)]; exact g8, g0, fun q => by rw [w (by decide)]; exact g1 q⟩) ⟨by rw [m75]; exact MSπ.1, by rw [fr_zF fm (by decide)]; exact MSπ.2⟩ (SXm_note fm m76 (Or.inr (mk2 8 (by decide) (by decide))) SXπ) (fun i hi => ?_) (by rw [y78]; exact mg) (by rw [y72, y78]; exact mc) (by rw [y83, y78]; exact ml)⟩
            rw [y78, y83]
            exact hall i hi
          · have lx := SIπ.2.2.2.2.2.2.2.1.2.2.1 i hi
            have lx0 := lx.1
            refine b_So_search_56 Eπ ⟨lit_R hs lx, fun _ => ?_, fun q => absurd q (by omega)⟩
            rw [p10, p6, show ((lv : Int) + 1).toNat = lv + 1 by omega]
            refine s_decide2 Eπ hs SIπ hi hv hlt (fun μ fm mk2 SIμ u1 u2 u3 u4 u5 => ?_)
            have SFμ : SF σ μ := ⟨fr_trans SFπ.1 (fr_mono fm (by simp)), fun k a1 a2 a3 a4 a5 a6 => by rw [mk2 k a1 a4]; exact SFπ.2 k a1 a2 a3 a4 a5 a6⟩
            refine b_So_search_97 (fr_E SFμ.1 hE) ?_
            rw [show (n : Int) + 1 = ((n + 1 : Nat) : Int) by omega]
            refine ih (n + 1) (ts' + 1) (lv + 1) ts' top z2 cs Ws' F μ (by omega) (by omega) (fun q => absurd q (by omega)) (fun _ => ?_) SFμ SIμ (SXm_decide fm (mk2 8 (by decide) (by decide)) (fun q => by rw [g8, g00 q]) u1 u2 u3 u4 u5 (by rw [fr_zF SFπ.1 (show (83 : Nat) ∉ [70, 71, 72, 73, 75, 76, 77, 78, 79, 80, 81, 82, 84, 85, 86] by decide)]; exact hWr i hi) ?_ SXπ) ⟨by rw [fr_zF fm (by decide)]; exact MSπ.1, by rw [fr_zF fm (by decide)]; exact MSπ.2⟩
            · by_cases q : lv = 0
              · rw [u1 q, hz3 q]
              · rw [u2 (by omega), w (by decide), e82, hz4 (by omega)]; exact h4 (by omega)
            · rw [g8]
              by_cases q : lv = 0
              · have := g0 q; omega
              · have := g1 (by omega)
                have := (hT'.2.2.2.2.1 1 (by omega) (by omega)).2.1
                omega
        · have a1 := (hx.2.2.1.1 c hc).1
          have a2 := (hx.2.2.1.1 c hc).2.1
          have a3 := (hx.2.2.1.1 c hc).2.2.1
          have a4 := hx.2.1.2
          have p13 : z π 70 13 = 0 := by rw [gk 13 (by decide)]; exact c13
          have CXπ : CX s top cs Ws' π := by unfold CX; rw [w (by decide), w (by decide), w (by decide)]; exact CX'
          have TXπ : TX s ts' lv cs π := ⟨by rw [gk 6 (by decide)]; exact TX'.1, by rw [gk 10 (by decide)]; exact c10, h12, by rw [w (by decide), w (by decide), w (by decide), w (by decide), w (by decide), w (by decide)]; exact TX'.2.2.2⟩
          have WIπ : WI s wc π := by
            obtain ⟨a, b, c⟩ := W'
            exact ⟨by rw [gk 12 (by decide)]; exact a, b, by rw [w (by decide)]; exact c⟩
          refine b_So_search_38 Eπ ⟨by rw [vc]; exact ⟨by omega, by omega⟩, fun q => absurd q (by omega), fun _ => ?_⟩
          rw [vc]
          refine s_learn2 (Gm := Gm) (dn := dn) (by omega) Eπ hs CXπ TXπ hc (by rw [w (show (72 : Nat) ∉ [70, 75, 76, 77, 85, 86] by decide), w (show (78 : Nat) ∉ [70, 75, 76, 77, 85, 86] by decide)]; exact o1) (fun _ => by rw [w (show (72 : Nat) ∉ [70, 75, 76, 77, 85, 86] by decide), w (show (79 : Nat) ∉ [70, 75, 76, 77, 85, 86] by decide)]; exact o2) zπ pvπ SXπ.1 SXπ.2.1 (by omega) (fun q => ⟨?_, ?_⟩) (fun q μ fm m75 mz mk2 => ?_) (fun q μ kb tb topb csb Wsb hLR hLX => ?_)
          · rw [w (show (72 : Nat) ∉ [70, 75, 76, 77, 85, 86] by decide), w (show (78 : Nat) ∉ [70, 75, 76, 77, 85, 86] by decide), w (show (79 : Nat) ∉ [70, 75, 76, 77, 85, 86] by decide), w (show (81 : Nat) ∉ [70, 75, 76, 77, 85, 86] by decide)]; exact q0
          · rw [w (by decide), e82]
            exact ((hT.2.2.2.2.1 lv q (Nat.le_refl _)).2.2 dn d0).mp (by rw [hlv dn (Nat.le_refl _) d0]; exact Int.le_refl _)
          · have SFμ : SF σ μ := ⟨fr_trans SFπ.1 (fr_mono fm (by simp)), fun k b1 b2 b3 b4 b5 b6 => by rw [mk2 k b5 b6]; exact SFπ.2 k b1 b2 b3 b4 b5 b6⟩
            refine b_So_search_47 (fr_E SFμ.1 hE) ⟨⟨by decide, by decide⟩, fun q => absurd rfl q, fun _ => ⟨0, ⟨by decide, by decide⟩, rfl, k0 μ SFμ mz ⟨by rw [m75]; exact MSπ.1, by rw [fr_zF fm (by decide)]; exact MSπ.2⟩ (fun v => ?_)⟩⟩
            have Tπ := TXπ.2.2.2
            rw [q] at Tπ
            exact no_model Tπ (fun c hm x ⟨i, hi, ei⟩ => by rw [← ei]; exact (CXπ.2.2.1.1 c hm).2.2.2.1 i hi) SXπ.1 SXπ.2.1 hc (by rw [w (show (72 : Nat) ∉ [70, 75, 76, 77, 85, 86] by decide), w (show (78 : Nat) ∉ [70, 75, 76, 77, 85, 86] by decide)]; exact o1) v
          · have SFμ : SF σ μ := ⟨fr_trans SFπ.1 (fr_mono hLR.1 (by simp)), fun k b1 b2 b3 b4 b5 b6 => by rw [hLR.2.2.2.2.2.2.2.1 k b1 b2 b4 b5 b6]; exact SFπ.2 k b1 b2 b3 b4 b5 b6⟩
            obtain ⟨⟨F', hSI⟩, hdec⟩ := SI_learn (rq := rq) (F := F) CXπ TXπ WIπ (by rw [w (show (83 : Nat) ∉ [70, 75, 76, 77, 85, 86] by decide), w (show (78 : Nat) ∉ [70, 75, 76, 77, 85, 86] by decide), w (show (79 : Nat) ∉ [70, 75, 76, 77, 85, 86] by decide), w (show (81 : Nat) ∉ [70, 75, 76, 77, 85, 86] by decide), w (show (82 : Nat) ∉ [70, 75, 76, 77, 85, 86] by decide)]; exact D') (by rw [w (show (83 : Nat) ∉ [70, 75, 76, 77, 85, 86] by decide), w (show (72 : Nat) ∉ [70, 75, 76, 77, 85, 86] by decide)]; exact FM') htop ⟨nt', g8, by rw [w (by decide)]; exact g1 q⟩ p13 q hLR
            have SXμ := SXm_learn CXπ TXπ q hLR hLX SXπ
            have MSμ : MSs σ μ := ⟨by rw [hLX.1]; exact MSπ.1, by rw [hLX.2.1]; exact MSπ.2⟩
            have hk := hLR.2.2.2.1
            have ht' := hLR.2.2.2.2.2.1
            have m82 : z μ 82 = z ρ 82 := ((fr_zF hLR.1 (by decide)).trans (w (by decide))).trans e82
            have p82 : z π 82 = z ρ 82 := (w (by decide)).trans e82
            rw [p82] at ht'
            have hzz := h4 q
            have htb : hSI.2.1.1 = hSI.2.1.1 := rfl
            have tlen := TR_len hSI.2.1.2.2.2
            have htop2 := hSI.1.2.1.2
            refine b_So_search_47 (fr_E SFμ.1 hE) ⟨⟨by decide, by decide⟩, fun _ => ?_, fun q => absurd q (by decide)⟩
            rw [show (n : Int) + 1 = ((n + 1 : Nat) : Int) by omega]
            by_cases qk : kb = 0
            · subst qk
              rw [Nat.zero_add] at ht'
              refine ih (n + 1) (tb + 1) 0 tb topb (tb + 1) csb Wsb F' μ (by omega) (by omega) (fun _ => rfl) (fun q => absurd q (by omega)) SFμ hSI SXμ MSμ
            · refine ih (n + 1) (tb + 1) kb tb topb zz csb Wsb F' μ (by omega) (by omega) (fun q => absurd q qk) (fun _ => by rw [m82]; exact hzz) SFμ hSI SXμ MSμ
      refine b_So_search_26 (fr_E SFτ.1 hE) ?_
      rw [c10]
      refine ⟨fun c => cont τ nt fr_refl (fun _ _ => rfl) (by rw [vk 8 (by decide) (by decide)]; exact n1) (fun q => absurd q (by omega)) (fun q => by rw [e82]; exact n3 q) (fun q => absurd q (by omega)) SXτ MSτ (fun i hi l0 => ?_), fun c => ?_⟩
      rotate_left
      · refine s_noteFacts2 (by omega) (fr_E SFτ.1 hE) hs CX' TX' (nt := nt) (by rw [vk 8 (by decide) (by decide)]; exact n1) (by have := n2 (by omega); omega) (fun i hi => SXτ.2.2.2.1 i (by rw [vk 8 (by decide) (by decide), n1]; omega) (by have := n2 (by omega); omega)) (fun i hi r0 => SXτ.2.2.1 i hi (by have := hT'.2.2.2.1 i hi; omega) r0) (fun π fp pk p8 p75 p76 pall => cont π ts' fp pk p8 (fun _ => Nat.le_refl _) (fun q => absurd q (by omega)) (fun _ => rfl) (SXm_note (fr_mono fp (by simp)) p76 (Or.inl ⟨by omega, pall⟩) SXτ) ⟨by rw [p75]; exact MSτ.1, by rw [fr_zF fp (by decide)]; exact MSτ.2⟩ (fun i hi _ => by rw [fr_zF fp (show (81 : Nat) ∉ [70, 75, 76, 77, 85, 86] by decide)]; exact pall i hi))
      · have l1 : 1 ≤ lv := by omega
        have q1 := SXτ.2.2.2.2.1 l1
        obtain ⟨a1, a2, a3⟩ := hT'.2.2.2.2.1 1 (by omega) (by omega)
        have il : (i : Int) < z τ 82 1 := by
          by_cases q : (i : Int) < z τ 82 1
          · exact q
          · have := (a3 i hi).mpr (by omega)
            omega
        exact SXτ.2.2.2.1 i (by rw [q1]; exact il) hi
  refine b_So_search_0 hE ?_
  have hT := h.2.1.2.2.2
  have hlen := TR_len hT
  have h12 := h.2.1.2.2.1
  obtain ⟨zz, z1, z2⟩ : ∃ zz : Nat, (lv = 0 → zz = ts) ∧ (1 ≤ lv → (zz : Int) = z σ 82 1) := by
    by_cases q : lv = 0
    · exact ⟨ts, fun _ => rfl, fun q2 => absurd q (by omega)⟩
    · refine ⟨(z σ 82 1).toNat, fun q2 => absurd q2 q, fun _ => ?_⟩
      have := (hT.2.2.2.2.1 1 (by omega) (by omega)).1
      omega
  exact l 2000000 0 ts lv dn top zz cs Ws F σ (by omega) (by omega) z1 z2 ⟨fr_refl, fun _ _ _ _ _ _ _ => rfl⟩ h hS0 ⟨rfl, rfl⟩
end SgJ
