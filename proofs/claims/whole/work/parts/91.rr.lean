/-! Solver.require -/
section RrJ
variable {ω : q_W} {d s : Nat} {σ : q_H}
theorem TR_V {s ts lv : Nat} {M : Nat → Int} {cs : List Nat} {V L Rs T St : Nat → Int} (h : TRp s ts lv M cs V L Rs T St) {x : Int} (lx : lit s x) : V x.toNat = 0 ∨ V x.toNat = 1 ∨ V x.toNat = -1 := by
  have l0 := lx.1
  have l1 := lx.2
  rcases h.2.2.1 x.toNat (by omega) with e | ⟨e, -⟩
  · exact Or.inl e
  · exact Or.inr e
/-- the clause is put down -/
theorem s_put {K : q_H → Prop} {ts dn wc rq top k sz : Nat} {cs : List Nat} {Ws : Nat → List Nat} {F : List Nat} {ρ : q_H} (hd : 3 ≤ d) (hE : q_E ρ) (hs : s ≤ 10240) (h : SC s ts dn wc rq top cs Ws F ρ) (hk : k ≤ sz) (hsz : sz ≤ 12) (hroom : top + 3 + sz ≤ 360000) (hl : ∀ i, i < k → lit s (z ρ 93 i)) (hv : ∀ i, i < k → z ρ 78 (z ρ 93 i).toNat ≠ 1) (hdi : ∀ a b, a < k → b < k → a ≠ b → z ρ 93 a ≠ z ρ 93 b)
    (kk : ∀ (τ : q_H) (ts' dn' top' : Nat) (cs' : List Nat) (Ws' : Nat → List Nat), fr [70, 71, 72, 73, 78, 79, 80, 81, 93] ρ τ → SC s ts' dn' wc (rq + 3 + sz) top' cs' Ws' F τ → top ≤ top' → top' ≤ top + 3 + sz → (∀ k, k ≠ 6 → k ≠ 7 → k ≠ 10 → k ≠ 13 → z τ 70 k = z ρ 70 k) → K τ) :
    J ω m_So_freeFirst d 0 0 0 0 0 [(0, .ref 70), (1, .ref 93), (2, .int (zI (k : Int)))] [] ρ (q_ki (fun v τ => J ω m_So_require (d + 1) 0 0 0 0 76 [(0, .ref 70), (1, .ref 93), (3, .int (zI (k : Int)))] [.int (zI v)] τ (q_kv K))) := by
  refine s_freeFirst hE hs (by omega) hl hdi (fun τ1 f F1 hf h0 h1 h2 h3 => b_So_require_76 (fr_E F1 hE) ?_)
  have E1 := fr_E F1 hE
  have h' := SC_fr h F1 (by decide)
  obtain ⟨hx, hX, h7, hdn, hz, hw, ⟨nt, n1, n2⟩, hF, ht, ht1, hc⟩ := h'
  obtain ⟨x6, x10, x12, hT⟩ := id hX
  have e78 : z τ1 78 = z ρ 78 := fr_zF F1 (by decide)
  rw [← e78] at h0 h1
  have l1 : ∀ i, i < k → lit s (z τ1 93 i) := fun i hi => by
    obtain ⟨j, hj, e⟩ := (h3 (z τ1 93 i)).mp ⟨i, hi, rfl⟩
    rw [← e]; exact hl j hj
  have v1 : ∀ i, i < k → z τ1 78 (z τ1 93 i).toNat ≠ 1 := fun i hi => by
    obtain ⟨j, hj, e⟩ := (h3 (z τ1 93 i)).mp ⟨i, hi, rfl⟩
    rw [← e, e78]; exact hv j hj
  refine c_add (by omega) E1 (tg_93 E1) (q_okE E1 (by decide)) (by decide) (by decide) hs hx (show k ≤ 12 by omega) (by omega) l1 (fun i j a b => h2 i j (by omega) b (by omega)) (fun τ2 Ws' F2 CX2 hM hk2 hel => ?_)
  have E2 := fr_E F2 E1
  have F12 : fr [70, 71, 72, 73, 78, 79, 80, 81, 93] ρ τ2 := fr_trans (fr_mono F1 (by simp)) (fr_mono F2 (by simp))
  have e : ∀ {a}, a ∉ [71, 72, 73] → z τ2 a = z τ1 a := fun q => fr_zF F2 q
  have sub := cl_sub (cs' := top :: cs) hx.2.2.1 hM (fun c m => List.mem_cons_of_mem _ m)
  have hT2 : TRp s ts 0 (z τ2 72) (top :: cs) (z τ2 78) (z τ2 79) (z τ2 80) (z τ2 81) (z τ2 82) := by
    rw [e (show (78 : Nat) ∉ [71, 72, 73] by decide), e (show (79 : Nat) ∉ [71, 72, 73] by decide), e (show (80 : Nat) ∉ [71, 72, 73] by decide), e (show (81 : Nat) ∉ [71, 72, 73] by decide), e (show (82 : Nat) ∉ [71, 72, 73] by decide)]
    exact TR_cl hT (fun c m => ⟨(sub c m).1, (sub c m).2.2⟩)
  have hF2 : FM wc (z τ2 83) (z τ2 72) (top :: cs) F := by rw [e (show (83 : Nat) ∉ [71, 72, 73] by decide)]; exact FM_keep hF sub
  have hz2 : ∀ g, z τ2 84 g = 0 := fun g => by rw [e (by decide)]; exact hz g
  have inn : ∀ x, inC (z τ2 72) top x ↔ ∃ i, i < k ∧ z τ1 93 i = x := fun x => by
    unfold inC
    rw [hk2]
    constructor
    · rintro ⟨i, hi, ei⟩; exact ⟨i, by omega, by rw [← hel i (by omega)]; exact ei⟩
    · rintro ⟨i, hi, ei⟩; exact ⟨i, by omega, by rw [hel i hi]; exact ei⟩
  have w70 : ∀ k, z τ2 70 k = z ρ 70 k := fun k => by rw [fr_zF F2 (by decide), fr_zF F1 (by decide)]
  have i93 : ∀ i, i < k → z τ2 93 i = z τ1 93 i := fun i _ => by rw [e (by decide)]
  have cl' : (∃ c ∈ cs, z τ1 70 13 = ((c : Nat) : Int) ∧ ∀ x, inC (z τ1 72) c x → z τ1 78 x.toNat = -1) → ∃ c ∈ top :: cs, z τ2 70 13 = ((c : Nat) : Int) ∧ ∀ x, inC (z τ2 72) c x → z τ2 78 x.toNat = -1 := fun ⟨c, m, e1, e2⟩ => ⟨c, (sub c m).1, by rw [e (by decide)]; exact e1, fun x hx => by rw [e (by decide)]; exact e2 x (((sub c m).2.2 x).mp hx)⟩
  refine b_So_require_87 E2 ⟨⟨by omega, by omega⟩, fun c0 => ⟨fun c1 => ?_, fun c1 => ?_⟩, fun c0 => ?_⟩
  · -- two are free
    refine ⟨rfl, kk τ2 ts dn (top + 3 + k) (top :: cs) Ws' F12 ⟨CX2, ⟨by rw [e (by decide)]; exact x6, by rw [e (by decide)]; exact x10, x12, hT2⟩, by rw [e (by decide)]; exact h7, hdn, hz2, ?_, ⟨nt, by rw [e (by decide)]; exact n1, n2⟩, hF2, by omega, ht1, ?_⟩ (by omega) (by omega) (fun k _ _ _ _ => w70 k)⟩
    · obtain ⟨a, b, c⟩ := hw
      exact ⟨by rw [e (by decide)]; exact a, b, by rw [e (by decide)]; exact c⟩
    · rcases hc with ⟨q1, q2⟩ | q
      · refine Or.inl ⟨by rw [e (by decide)]; exact q1, ?_⟩
        rw [e (show (78 : Nat) ∉ [71, 72, 73] by decide), e (show (79 : Nat) ∉ [71, 72, 73] by decide), e (show (81 : Nat) ∉ [71, 72, 73] by decide)]
        refine WQ_cons hx.2.2.1 hM q2 (fun _ a ha i hi ei => ?_)
        exfalso
        rw [hel a (by omega)] at ei
        have v := (hT.1 i (by omega)).2.2
        rw [ei, ng_ng, h0 a (by omega)] at v
        exact absurd v (by decide)
      · exact Or.inr (cl' q)
  · -- one is free
    have f1 : f = 1 := by omega
    have la := l1 0 (by omega)
    have va := h0 0 (by omega)
    have hlt : ts < s := by
      have := TR_room hT la va (TR_fr hT la va); exact this
    rw [i93 0 (by omega)]
    refine s_assign E2 hs la ⟨by omega, by omega⟩ (by rw [e (by decide)]; exact x6) (by omega) (fun μ fa t78 t79 t80 t81 t6 tk => b_So_require_118 (fr_E fa E2) ⟨rfl, ?_⟩)
    have w : ∀ {a}, a ∉ [70, 78, 79, 80, 81] → z μ a = z τ2 a := fun q => fr_zF fa q
    have va2 : z τ2 78 (z τ1 93 0).toNat = 0 := by rw [e (by decide)]; exact va
    have hTn := TR_assign (r := (top : Int)) hT2 la va2 (fun _ _ _ => Or.inr trivial) (Or.inr ⟨top, List.mem_cons_self .., rfl, hx.2.1.1, (inn _).mpr ⟨0, by omega, rfl⟩, fun y hy hne => by
      obtain ⟨i, hi, ei⟩ := (inn y).mp hy
      have i1 : 1 ≤ i := by
        rcases Nat.eq_zero_or_pos i with q | q
        · subst q; exact absurd ei.symm hne
        · exact q
      rw [← ei]
      refine ⟨l1 i hi, ?_⟩
      have a1 := h1 i (by omega) hi
      have a2 := v1 i hi
      have a3 := TR_V hT (l1 i hi)
      rw [e (by decide)]
      omega, fun q => absurd q (by omega)⟩) (fun q => absurd q (by omega))
    have ao : ∀ x, lit s x → z τ2 78 x.toNat ≠ 0 → z μ 78 x.toNat = z τ2 78 x.toNat := fun x lx vx => by
      rw [t78]; exact (AS_o hT2 la va2 lx vx).2
    have t10 : z τ2 70 10 = 0 := by rw [e (by decide)]; exact x10
    rw [t10] at t79
    refine kk μ (ts + 1) dn (top + 3 + k) (top :: cs) Ws' (fr_trans F12 (fr_mono fa (by simp))) ⟨?_, ⟨by rw [t6]; rfl, by rw [tk 10 (by decide)]; exact t10, x12, ?_⟩, by rw [tk 7 (by decide), e (by decide)]; exact h7, by omega, fun g => by rw [w (by decide)]; exact hz2 g, ?_, ⟨nt, by rw [tk 8 (by decide), e (by decide)]; exact n1, by omega⟩, by rw [w (show (83 : Nat) ∉ [70, 78, 79, 80, 81] by decide), w (show (72 : Nat) ∉ [70, 78, 79, 80, 81] by decide)]; exact hF2, by omega, by omega, ?_⟩ (by omega) (by omega) (fun k a _ _ _ => by rw [tk k a]; exact w70 k)
    · unfold CX; rw [w (by decide), w (by decide), w (by decide)]; exact CX2
    · rw [w (show (72 : Nat) ∉ [70, 78, 79, 80, 81] by decide), w (show (82 : Nat) ∉ [70, 78, 79, 80, 81] by decide), t78, t79, t80, t81]; exact hTn
    · obtain ⟨a, b, c⟩ := hw
      exact ⟨by rw [tk 12 (by decide), e (by decide)]; exact a, b, by rw [w (by decide), e (by decide)]; exact c⟩
    · rcases hc with ⟨q1, q2⟩ | q
      · refine Or.inl ⟨by rw [tk 13 (by decide), e (by decide)]; exact q1, ?_⟩
        rw [w (show (72 : Nat) ∉ [70, 78, 79, 80, 81] by decide), t78, t79, t81]
        have q3 : WQ (z τ1 72) (up (up (z τ2 78) (z τ1 93 0).toNat 1) (ng (z τ1 93 0)).toNat (-1)) (up (z τ2 79) (gt (z τ1 93 0)) 0) (up (z τ2 81) ts (z τ1 93 0)) cs dn := by
          rw [e (show (78 : Nat) ∉ [71, 72, 73] by decide), e (show (79 : Nat) ∉ [71, 72, 73] by decide), e (show (81 : Nat) ∉ [71, 72, 73] by decide)]
          exact WQ_any hT hx.2.2.1 la va hdn q2
        refine WQ_cons hx.2.2.1 hM q3 (fun hk3 a ha i hi ei => ?_)
        rw [up_n (by omega), e (by decide)] at ei
        have v := (hT.1 i (by omega)).2.2
        rw [hk2] at hk3
        have a1 : a = 1 := by
          rcases Nat.eq_zero_or_pos a with q | q
          · exfalso
            subst q
            rw [hel 0 (by omega)] at ei
            rw [ei, ng_ng, va] at v
            exact absurd v (by decide)
          · omega
        subst a1
        have e0 : z τ2 72 (top + 3 + (1 - 1)) = z τ1 93 0 := hel 0 (by omega)
        have e1 : z τ2 72 (top + 3 + 1) = z τ1 93 1 := hel 1 (by omega)
        rw [e0, e1, up_s]
        have lb := l1 1 (by omega)
        have vb := h1 1 (by omega) (by omega)
        have g := AS_o hT la va lb vb
        have h5 := (ng_lit la).1
        have h6 := la.1
        have h7' := ng_ne (z τ1 93 0)
        refine ⟨by rw [up_n (by omega), up_s], ?_⟩
        rw [up_n g.1]
        obtain ⟨p, hp, ep⟩ := TR_on hT lb vb
        have := (hT.2.2.2.1 p hp).1
        rw [ep] at this
        rw [e (by decide)]
        exact this
      · obtain ⟨c, m, q1, q2⟩ := cl' q
        refine Or.inr ⟨c, m, by rw [tk 13 (by decide)]; exact q1, fun x hx2 => ?_⟩
        rw [w (show (72 : Nat) ∉ [70, 78, 79, 80, 81] by decide)] at hx2
        have v := q2 x hx2
        have lx : lit s x := by
          obtain ⟨i, hi, ei⟩ := hx2
          rw [← ei]; exact (CX2.2.2.1.1 c m).2.2.2.1 i hi
        rw [ao x lx (by rw [v]; decide)]; exact v
  · -- none is free
    have f0 : f = 0 := by omega
    subst f0
    have F3 : fr [70, 71, 72, 73, 78, 79, 80, 81, 93] ρ (zs τ2 70 13 (top : Int)) := fr_s F12 (by simp)
    have u : ∀ {a}, a ≠ 70 → z (zs τ2 70 13 (top : Int)) a = z τ2 a := fun q => z_oF q
    have u70 : ∀ k, k ≠ 13 → z (zs τ2 70 13 (top : Int)) 70 k = z τ2 70 k := fun k q => z_k q
    refine ⟨rfl, kk _ ts dn (top + 3 + k) (top :: cs) Ws' F3 ⟨?_, ⟨by rw [u70 6 (by decide), e (by decide)]; exact x6, by rw [u70 10 (by decide), e (by decide)]; exact x10, x12, ?_⟩, by rw [u70 7 (by decide), e (by decide)]; exact h7, hdn, fun g => by rw [u (by decide)]; exact hz2 g, ?_, ⟨nt, by rw [u70 8 (by decide), e (by decide)]; exact n1, n2⟩, ?_, by omega, ht1, Or.inr ⟨top, List.mem_cons_self .., z_s ⟨by omega, by omega⟩, fun x hx2 => ?_⟩⟩ (by omega) (by omega) (fun k _ _ _ q => by rw [u70 k q]; exact w70 k)⟩
    · unfold CX; rw [u (by decide), u (by decide), u (by decide)]; exact CX2
    · rw [u (by decide), u (by decide), u (by decide), u (by decide), u (by decide), u (by decide)]; exact hT2
    · obtain ⟨a, b, c⟩ := hw
      exact ⟨by rw [u70 12 (by decide), e (by decide)]; exact a, b, by rw [u (by decide), e (by decide)]; exact c⟩
    · rw [u (by decide), u (by decide)]; exact hF2
    · rw [u (by decide)] at hx2
      rw [u (by decide), e (by decide)]
      obtain ⟨i, hi, ei⟩ := (inn x).mp hx2
      rw [← ei]
      have a1 := h1 i (by omega) hi
      have a2 := v1 i hi
      have a3 := TR_V hT (l1 i hi)
      omega
theorem s_require {K : q_H → Prop} {ts lv dn wc rq top sz : Nat} {cs : List Nat} {Ws : Nat → List Nat} {F : List Nat} (hd : 4 ≤ d) (hE : q_E σ) (hs : s ≤ 10240) (h : SC s ts dn wc rq top cs Ws F σ ∨ SI s ts lv ts wc rq top cs Ws F σ) (hsz : sz ≤ 12) (hl : ∀ i, i < sz → lit s (z σ 93 i)) (hroom : top + 3 + sz ≤ 360000)
    (kk : ∀ (τ : q_H) (ts' dn' top' : Nat) (cs' : List Nat) (Ws' : Nat → List Nat), fr [70, 71, 72, 73, 78, 79, 80, 81, 93] σ τ → SC s ts' dn' wc (rq + 3 + sz) top' cs' Ws' F τ → top ≤ top' → top' ≤ top + 3 + sz → (∀ k, k ≠ 6 → k ≠ 7 → k ≠ 10 → k ≠ 13 → z τ 70 k = z σ 70 k) → K τ) :
    J ω m_So_require d 0 0 0 0 0 [(0, .ref 70), (1, .ref 93), (2, .int (zI (sz : Int)))] [] σ (q_kv K) := by
  obtain ⟨d, rfl⟩ : ∃ k, d = k + 1 := ⟨d - 1, by omega⟩
  have main : ∀ (ρ0 : q_H) (ts dn : Nat), fr [70, 78] σ ρ0 → (∀ k, k ≠ 6 → k ≠ 7 → k ≠ 10 → z ρ0 70 k = z σ 70 k) → SC s ts dn wc rq top cs Ws F ρ0 → J ω m_So_require (d + 1) 0 0 0 0 5 [(0, .ref 70), (1, .ref 93), (2, .int (zI (sz : Int)))] [] ρ0 (q_kv K) := by
    intro ρ0 ts dn f0 fk hC
    have E0 := fr_E f0 hE
    have up' : ∀ ρ, fr [93] ρ0 ρ → SC s ts dn wc rq top cs Ws F ρ := fun ρ g => SC_fr hC g (by decide)
    have wk' : ∀ {ρ : q_H}, SC s ts dn wc rq top cs Ws F ρ → SC s ts dn wc (rq + 3 + sz) top cs Ws F ρ := fun {ρ} q => by
      obtain ⟨a1, a2, a3, a4, a5, a6, a7, a8, a9, a10⟩ := q
      exact ⟨a1, a2, a3, a4, a5, a6, a7, a8, by omega, a10⟩
    have early : ∀ ρ, fr [93] ρ0 ρ → q_kv K (.inl none) ρ := fun ρ g => ⟨rfl, kk ρ ts dn top cs Ws (fr_trans (fr_mono f0 (by simp)) (fr_mono g (by simp))) (wk' (up' ρ g)) (Nat.le_refl _) (by omega) (fun k a b c _ => by rw [fr_zF g (by decide)]; exact fk k a b c)⟩
    have l : ∀ (m i k : Nat) (ρ : q_H), sz ≤ i + m → i ≤ sz → k ≤ i → fr [93] ρ0 ρ → (∀ j, j < k → lit s (z ρ 93 j)) → (∀ j, j < k → z ρ 78 (z ρ 93 j).toNat ≠ 1) → (∀ a b, a < k → b < k → a ≠ b → z ρ 93 a ≠ z ρ 93 b) → (∀ j, i ≤ j → j < sz → z ρ 93 j = z σ 93 j) → J ω m_So_require (d + 1) 0 0 0 0 10 [(0, .ref 70), (1, .ref 93), (2, .int (zI (sz : Int))), (3, .int (zI (k : Int))), (4, .int (zI (i : Int)))] [] ρ (q_kv K) := by
      intro m
      have out : ∀ (k : Nat) (ρ : q_H), k ≤ sz → fr [93] ρ0 ρ → (∀ j, j < k → lit s (z ρ 93 j)) → (∀ j, j < k → z ρ 78 (z ρ 93 j).toNat ≠ 1) → (∀ a b, a < k → b < k → a ≠ b → z ρ 93 a ≠ z ρ 93 b) → J ω m_So_freeFirst d 0 0 0 0 0 [(0, .ref 70), (1, .ref 93), (2, .int (zI (k : Int)))] [] ρ (q_ki (fun v τ => J ω m_So_require (d + 1) 0 0 0 0 76 [(0, .ref 70), (1, .ref 93), (3, .int (zI (k : Int)))] [.int (zI v)] τ (q_kv K))) := fun k ρ a g b1 b2 b3 =>
        s_put (by omega) (fr_E g E0) hs (up' ρ g) a hsz hroom b1 b2 b3 (fun τ ts' dn' top' cs' Ws' g1 g2 g3 g4 g5 => kk τ ts' dn' top' cs' Ws' (fr_trans (fr_trans (fr_mono f0 (by simp)) (fr_mono g (by simp))) g1) g2 g3 g4 (fun k a b c e => by rw [g5 k a b c e, fr_zF g (by decide)]; exact fk k a b c))
      induction m with
      | zero =>
        intro i k ρ a b c g b1 b2 b3 b4
        exact b_So_require_10 (fr_E g E0) ⟨⟨by omega, by omega⟩, ⟨by omega, by omega⟩, fun _ => out k ρ (by omega) g b1 b2 b3, fun c => absurd c (by omega)⟩
      | succ m ih =>
        intro i k ρ a b c g b1 b2 b3 b4
        refine b_So_require_10 (fr_E g E0) ⟨⟨by omega, by omega⟩, ⟨by omega, by omega⟩, fun _ => out k ρ (by omega) g b1 b2 b3, fun ci => ?_⟩
        rw [Int.toNat_natCast]
        have li : lit s (z ρ 93 i) := by rw [b4 i (Nat.le_refl _) (by omega)]; exact hl i (by omega)
        have li1 := li.2
        have ln := ng_lit li
        refine ⟨⟨by omega, by omega⟩, ⟨li.1, by omega⟩, fun _ => early ρ g, fun hv => ?_⟩
        rw [zX_ng hs li]
        refine s_has (fr_E g E0) (by omega) (lit_R hs ln) (fun j hj ej => b_So_require_42 (fr_E g E0) ⟨⟨by decide, by decide⟩, fun q => absurd q (by decide), fun _ => early ρ g⟩) (fun hno => b_So_require_42 (fr_E g E0) ⟨⟨by decide, by decide⟩, fun _ => ?_, fun q => absurd rfl q⟩)
        refine s_has (fr_E g E0) (by omega) (lit_R hs li) (fun j hj ej => b_So_require_53 (fr_E g E0) ⟨⟨by decide, by decide⟩, fun _ => ?_, fun q => absurd q (by decide)⟩) (fun hno2 => b_So_require_53 (fr_E g E0) ⟨⟨by decide, by decide⟩, fun q => absurd rfl q, fun _ => ⟨⟨by omega, by omega⟩, ?_⟩⟩)
        · rw [show (i : Int) + 1 = ((i + 1 : Nat) : Int) by omega]
          exact ih (i + 1) k ρ (by omega) (by omega) (by omega) g b1 b2 b3 (fun j p q => b4 j (by omega) q)
        · rw [show (i : Int) + 1 = ((i + 1 : Nat) : Int) by omega, show (k : Int) + 1 = ((k + 1 : Nat) : Int) by omega, Int.toNat_natCast]
          have G : z (zs ρ 93 k (z ρ 93 i)) 93 = up (z ρ 93) k (z ρ 93 i) := z_up (z_R _ _ _)
          have e78 : z (zs ρ 93 k (z ρ 93 i)) 78 = z ρ 78 := z_oF (by decide)
          refine ih (i + 1) (k + 1) _ (by omega) (by omega) (by omega) (fr_s g (by simp)) ?_ ?_ ?_ ?_
          · intro j hj
            rw [G]
            by_cases q : j = k
            · rw [q, up_s]; exact li
            · rw [up_n q]; exact b1 j (by omega)
          · intro j hj
            rw [G, e78]
            by_cases q : j = k
            · rw [q, up_s]; exact hv
            · rw [up_n q]; exact b2 j (by omega)
          · intro x y hx hy hxy
            rw [G]
            by_cases q : x = k
            · rw [q, up_s, up_n (by omega)]; exact fun e => hno2 y (by omega) e.symm
            · by_cases q2 : y = k
              · rw [q2, up_s, up_n q]; exact hno2 x (by omega)
              · rw [up_n q, up_n q2]; exact b3 x y (by omega) (by omega) hxy
          · intro j p q
            rw [G, up_n (by omega)]; exact b4 j (by omega) q
    exact b_So_require_5 E0 (l sz 0 0 ρ0 (by omega) (by omega) (by omega) fr_refl (fun j hj => absurd hj (by omega)) (fun j hj => absurd hj (by omega)) (fun a b ha => absurd ha (by omega)) (fun j _ _ => by rw [fr_zF f0 (by decide)]))
  refine b_So_require_0 hE ?_
  rcases h with h | h
  · exact s_backTo (k0 := 0) hE hs h.2.1 ⟨by decide, by decide⟩ (fun _ => main σ ts dn fr_refl (fun _ _ _ _ => rfl) h) (fun q => absurd q (by omega))
  · exact s_back0 hE hs h (fun τ ts' f fk hC _ => main τ ts' ts' f fk hC)
end RrJ
