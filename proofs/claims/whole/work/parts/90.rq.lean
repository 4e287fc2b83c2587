/-! Solver.require, begin, wish: what a question is -/
/-- at level 0, with a clash or without -/
def SC (s ts dn wc rq top : Nat) (cs : List Nat) (Ws : Nat → List Nat) (F : List Nat) (ρ : q_H) : Prop :=
  CX s top cs Ws ρ ∧ TX s ts 0 cs ρ ∧ z ρ 70 7 = (dn : Int) ∧ dn ≤ ts ∧ (∀ g, z ρ 84 g = 0) ∧ WI s wc ρ ∧ (∃ nt : Nat, z ρ 70 8 = (nt : Int) ∧ nt ≤ ts) ∧ FM wc (z ρ 83) (z ρ 72) cs F ∧ top ≤ 270000 + 15 * F.length + rq ∧ 1 ≤ ts ∧
  ((z ρ 70 13 = 0 ∧ WQ (z ρ 72) (z ρ 78) (z ρ 79) (z ρ 81) cs dn) ∨ ∃ c ∈ cs, z ρ 70 13 = ((c : Nat) : Int) ∧ ∀ x, inC (z ρ 72) c x → z ρ 78 x.toNat = -1)
theorem SC_SI {s ts dn wc rq top : Nat} {cs : List Nat} {Ws : Nat → List Nat} {F : List Nat} {ρ : q_H} (h : SC s ts dn wc rq top cs Ws F ρ) (h0 : z ρ 70 13 = 0) : SI s ts 0 dn wc rq top cs Ws F ρ := by
  obtain ⟨hx, hX, h7, hdn, hz, hw, ⟨nt, n1, n2⟩, hF, ht, h1, hc⟩ := h
  have hT := hX.2.2.2
  refine ⟨hx, hX, h7, hdn, fun i a b => ?_, ?_, hz, hw, ⟨nt, n1, fun _ => n2, fun q => absurd q (by omega)⟩, fun k a b => absurd b (by omega), hF, ht, h1, h0⟩
  · have := hT.2.2.2.1 i b; omega
  · rcases hc with ⟨-, q⟩ | ⟨c, m, e, -⟩
    · exact q
    · have := (hx.2.2.1.1 c m).1; omega
theorem SI_SC {s ts dn wc rq top : Nat} {cs : List Nat} {Ws : Nat → List Nat} {F : List Nat} {ρ : q_H} (h : SI s ts 0 dn wc rq top cs Ws F ρ) : SC s ts dn wc rq top cs Ws F ρ := by
  obtain ⟨hx, hX, h7, hdn, hlv, hq, hz, hw, ⟨nt, n1, n2, n3⟩, hD, hF, ht, h1, h13⟩ := h
  exact ⟨hx, hX, h7, hdn, hz, hw, ⟨nt, n1, n2 rfl⟩, hF, ht, h1, Or.inl ⟨h13, hq⟩⟩
def swp (f : Nat → Int) (i k : Nat) : Nat → Int := fun j => if j = k then f i else if j = i then f k else f j
theorem swp_in {f : Nat → Int} {i k n : Nat} (hi : i < n) (hk : k < n) (x : Int) : (∃ j, j < n ∧ swp f i k j = x) ↔ ∃ j, j < n ∧ f j = x := by
  constructor
  · rintro ⟨j, hj, e⟩
    unfold swp at e
    by_cases c : j = k
    · rw [if_pos c] at e; exact ⟨i, hi, e⟩
    · rw [if_neg c] at e
      by_cases c2 : j = i
      · rw [if_pos c2] at e; exact ⟨k, hk, e⟩
      · rw [if_neg c2] at e; exact ⟨j, hj, e⟩
  · rintro ⟨j, hj, e⟩
    unfold swp
    by_cases c : j = i
    · exact ⟨k, hk, by rw [if_pos rfl, ← c]; exact e⟩
    · by_cases c2 : j = k
      · refine ⟨i, hi, ?_⟩
        by_cases c3 : i = k
        · rw [if_pos c3, c3, ← c2]; exact e
        · rw [if_neg c3, if_pos rfl, ← c2]; exact e
      · exact ⟨j, hj, by rw [if_neg c2, if_neg c]; exact e⟩
theorem swp_ne {f : Nat → Int} {i k n : Nat} (hi : i < n) (hk : k < n) (h : ∀ a b, a < n → b < n → a ≠ b → f a ≠ f b) : ∀ a b, a < n → b < n → a ≠ b → swp f i k a ≠ swp f i k b := by
  intro a b ha hb hab
  unfold swp
  by_cases c1 : a = k
  · rw [if_pos c1]
    by_cases c2 : b = k
    · omega
    · rw [if_neg c2]
      by_cases c3 : b = i
      · rw [if_pos c3]; exact h i k hi hk (by omega)
      · rw [if_neg c3]; exact h i b hi hb (by omega)
  · rw [if_neg c1]
    by_cases c2 : b = k
    · rw [if_pos c2]
      by_cases c3 : a = i
      · rw [if_pos c3]; exact h k i hk hi (by omega)
      · rw [if_neg c3]; exact h a i ha hi c3
    · rw [if_neg c2]
      by_cases c3 : a = i
      · rw [if_pos c3]
        by_cases c4 : b = i
        · omega
        · rw [if_neg c4]; exact h k b hk hb (by omega)
      · rw [if_neg c3]
        by_cases c4 : b = i
        · rw [if_pos c4]; exact h a k ha hk c1
        · rw [if_neg c4]; exact h a b ha hb hab
section RqJ
variable {ω : q_W} {d s : Nat} {σ : q_H}
theorem s_has {K : Int → q_H → Prop} {k : Nat} {x : Int} (hE : q_E σ) (hk : k ≤ 12) (hx : inR x) (k1 : ∀ i, i < k → z σ 93 i = x → K 1 σ) (k0 : (∀ i, i < k → z σ 93 i ≠ x) → K 0 σ) : J ω m_So_has d 0 0 0 0 0 [(0, .ref 93), (1, .int (zI (k : Int))), (2, .int (zI x))] [] σ (q_ki K) := by
  have l : ∀ (m i : Nat), k ≤ i + m → i ≤ k → (∀ j, j < i → z σ 93 j ≠ x) → J ω m_So_has d 0 0 0 0 2 [(0, .ref 93), (1, .int (zI (k : Int))), (2, .int (zI x)), (3, .int (zI (i : Int)))] [] σ (q_ki K) := by
    intro m
    induction m with
    | zero =>
      intro i a b c
      exact b_So_has_2 hE ⟨⟨by omega, by omega⟩, ⟨by omega, by omega⟩, fun _ => ⟨0, ⟨by decide, by decide⟩, rfl, k0 (fun j hj => c j (by omega))⟩, fun c => absurd c (by omega)⟩
    | succ m ih =>
      intro i a b c
      refine b_So_has_2 hE ⟨⟨by omega, by omega⟩, ⟨by omega, by omega⟩, fun _ => ⟨0, ⟨by decide, by decide⟩, rfl, k0 (fun j hj => c j (by omega))⟩, fun ci => ⟨⟨by omega, by omega⟩, hx, fun e => ?_, fun e => ⟨1, ⟨by decide, by decide⟩, rfl, k1 i (by omega) e⟩⟩⟩
      rw [Int.toNat_natCast] at e
      rw [show (i : Int) + 1 = ((i + 1 : Nat) : Int) by omega]
      refine ih (i + 1) (by omega) (by omega) (fun j hj => ?_)
      by_cases q : j = i
      · subst q; exact e
      · exact c j (by omega)
  exact b_So_has_0 hE (l k 0 (by omega) (by omega) (fun j hj => absurd hj (by omega)))
theorem s_freeFirst {K : Int → q_H → Prop} {k : Nat} (hE : q_E σ) (hs : s ≤ 10240) (hk : k ≤ 12) (hl : ∀ i, i < k → lit s (z σ 93 i)) (hd : ∀ a b, a < k → b < k → a ≠ b → z σ 93 a ≠ z σ 93 b)
    (kk : ∀ (τ : q_H) (f : Nat), fr [93] σ τ → f ≤ k → (∀ i, i < f → z σ 78 (z τ 93 i).toNat = 0) → (∀ i, f ≤ i → i < k → z σ 78 (z τ 93 i).toNat ≠ 0) → (∀ a b, a < k → b < k → a ≠ b → z τ 93 a ≠ z τ 93 b) → (∀ x, (∃ j, j < k ∧ z τ 93 j = x) ↔ ∃ j, j < k ∧ z σ 93 j = x) → K (f : Int) τ) : J ω m_So_freeFirst d 0 0 0 0 0 [(0, .ref 70), (1, .ref 93), (2, .int (zI (k : Int)))] [] σ (q_ki K) := by
  have l : ∀ (m i f : Nat) (ρ : q_H), k ≤ i + m → i ≤ k → f ≤ i → fr [93] σ ρ → (∀ j, j < f → z σ 78 (z ρ 93 j).toNat = 0) → (∀ j, f ≤ j → j < i → z σ 78 (z ρ 93 j).toNat ≠ 0) → (∀ a b, a < k → b < k → a ≠ b → z ρ 93 a ≠ z ρ 93 b) → (∀ x, (∃ j, j < k ∧ z ρ 93 j = x) ↔ ∃ j, j < k ∧ z σ 93 j = x) → J ω m_So_freeFirst d 0 0 0 0 5 [(0, .ref 70), (1, .ref 93), (2, .int (zI (k : Int))), (3, .int (zI (f : Int))), (4, .int (zI (i : Int)))] [] ρ (q_ki K) := by
    intro m
    induction m with
    | zero =>
      intro i f ρ a b c F h0 h1 h2 h3
      exact b_So_freeFirst_5 (fr_E F hE) ⟨⟨by omega, by omega⟩, ⟨by omega, by omega⟩, fun _ => ⟨_, ⟨by omega, by omega⟩, rfl, kk ρ f F (by omega) h0 (fun j a b => h1 j a (by omega)) h2 h3⟩, fun c => absurd c (by omega)⟩
    | succ m ih =>
      intro i f ρ a b c F h0 h1 h2 h3
      refine b_So_freeFirst_5 (fr_E F hE) ?_
      rw [Int.toNat_natCast, Int.toNat_natCast, fr_zF F (show (78 : Nat) ∉ [93] by decide)]
      refine ⟨⟨by omega, by omega⟩, ⟨by omega, by omega⟩, fun _ => ⟨_, ⟨by omega, by omega⟩, rfl, kk ρ f F (by omega) h0 (fun j a b => h1 j a (by omega)) h2 h3⟩, fun ci => ?_⟩
      have li : lit s (z ρ 93 i) := by
        obtain ⟨j, hj, e⟩ := (h3 (z ρ 93 i)).mp ⟨i, by omega, rfl⟩
        rw [← e]; exact hl j hj
      have li1 := li.2
      rw [show (i : Int) + 1 = ((i + 1 : Nat) : Int) by omega, show (f : Int) + 1 = ((f + 1 : Nat) : Int) by omega]
      refine ⟨⟨by omega, by omega⟩, ⟨li.1, by omega⟩, fun v => ih (i + 1) f ρ (by omega) (by omega) (by omega) F h0 (fun j p q => ?_) h2 h3, fun v => ⟨⟨by omega, by omega⟩, ?_⟩⟩
      · by_cases e : j = i
        · subst e; exact v
        · exact h1 j p (by omega)
      · have G : z (zs (zs ρ 93 i (z ρ 93 f)) 93 f (z ρ 93 i)) 93 = swp (z ρ 93) i f := by
          rw [z_up (z_R _ _ _), z_up (z_R _ _ _)]; rfl
        refine ih (i + 1) (f + 1) _ (by omega) (by omega) (by omega) (fr_s (fr_s F (by simp)) (by simp)) ?_ ?_ ?_ ?_
        · intro j hj
          rw [G]
          unfold swp
          by_cases e : j = f
          · rw [if_pos e]; exact v
          · rw [if_neg e, if_neg (by omega)]; exact h0 j (by omega)
        · intro j p q
          rw [G]
          unfold swp
          rw [if_neg (by omega)]
          by_cases e : j = i
          · rw [if_pos e]; exact h1 f (Nat.le_refl _) (by omega)
          · rw [if_neg e]; exact h1 j (by omega) (by omega)
        · rw [G]; exact swp_ne (by omega) (by omega) h2
        · intro x; rw [G, swp_in (by omega) (by omega)]; exact h3 x
  exact b_So_freeFirst_0 hE (l k 0 0 σ (by omega) (by omega) (by omega) fr_refl (fun j hj => absurd hj (by omega)) (fun j _ hj => absurd hj (by omega)) hd (fun _ => Iff.rfl))
/-- back to level 0 -/
theorem s_back0 {K : q_H → Prop} {ts lv wc rq top : Nat} {cs : List Nat} {Ws : Nat → List Nat} {F : List Nat} (hE : q_E σ) (hs : s ≤ 10240) (h : SI s ts lv ts wc rq top cs Ws F σ)
    (kk : ∀ (τ : q_H) (ts' : Nat), fr [70, 78] σ τ → (∀ k, k ≠ 6 → k ≠ 7 → k ≠ 10 → z τ 70 k = z σ 70 k) → SC s ts' ts' wc rq top cs Ws F τ → z τ 70 13 = 0 → K τ) : J ω m_So_backTo d 0 0 0 0 0 [(0, .ref 70), (1, .int (zI 0))] [] σ (q_kv K) := by
  refine s_backTo (k0 := 0) hE hs h.2.1 ⟨by decide, by decide⟩ (fun l0 => ?_) (fun l0 τ ts' e1 e2 f hX' t7 fk fv fv2 => ?_)
  · have l00 : lv = 0 := by omega
    subst l00
    exact kk σ ts fr_refl (fun _ _ _ _ => rfl) (SI_SC h) h.2.2.2.2.2.2.2.2.2.2.2.2.2
  · obtain ⟨hx, hX, h7, hdn, hlv, hq, hz, hw, ⟨nt, n1, n2, n3⟩, hD, hF, ht, h1, h13⟩ := id h
    have e : ∀ {a}, a ∉ [70, 78] → z τ a = z σ a := fun q => fr_zF f q
    have c13 : z τ 70 13 = 0 := by rw [fk 13 (by decide) (by decide) (by decide)]; exact h13
    have g1 := (hX.2.2.2.2.2.2.2.1 1 (by omega) (by omega)).1
    rw [Nat.zero_add] at e1
    refine kk τ ts' f fk ⟨?_, hX', t7, Nat.le_refl _, fun g => by rw [e (by decide)]; exact hz g, ?_, ⟨nt, by rw [fk 8 (by decide) (by decide) (by decide)]; exact n1, ?_⟩, ?_, ht, by omega, Or.inl ⟨c13, ?_⟩⟩ c13
    · unfold CX; rw [e (by decide), e (by decide), e (by decide)]; exact hx
    · obtain ⟨a, b, c⟩ := hw
      exact ⟨by rw [fk 12 (by decide) (by decide) (by decide)]; exact a, b, by rw [e (by decide)]; exact c⟩
    · have := n3 (by omega); omega
    · rw [e (by decide), e (by decide)]; exact hF
    · rw [e (show (72 : Nat) ∉ [70, 78] by decide), e (show (79 : Nat) ∉ [70, 78] by decide), e (show (81 : Nat) ∉ [70, 78] by decide)]
      exact WQ_back hX.2.2.2 hx.2.2.1 (by omega) (by rw [Nat.zero_add]; exact e1) (by omega) hq fv
end RqJ
theorem SC_fr {s ts dn wc rq top : Nat} {cs : List Nat} {Ws : Nat → List Nat} {F S : List Nat} {ρ τ : q_H} (h : SC s ts dn wc rq top cs Ws F ρ) (f : fr S ρ τ) (hS : ∀ a ∈ [70, 71, 72, 73, 78, 79, 80, 81, 82, 83, 84], a ∉ S) : SC s ts dn wc rq top cs Ws F τ := by
  unfold SC CX TX WI at h ⊢
  rw [fr_zF f (hS 70 (by simp)), fr_zF f (hS 71 (by simp)), fr_zF f (hS 72 (by simp)), fr_zF f (hS 73 (by simp)), fr_zF f (hS 78 (by simp)), fr_zF f (hS 79 (by simp)), fr_zF f (hS 80 (by simp)), fr_zF f (hS 81 (by simp)), fr_zF f (hS 82 (by simp)), fr_zF f (hS 83 (by simp)), fr_zF f (hS 84 (by simp))]
  exact h
theorem SI_fr2 {s ts lv dn wc rq top : Nat} {cs : List Nat} {Ws : Nat → List Nat} {F S : List Nat} {ρ τ : q_H} (h : SI s ts lv dn wc rq top cs Ws F ρ) (f : fr S ρ τ) (hS : ∀ a ∈ [70, 71, 72, 73, 78, 79, 80, 81, 82, 83, 84], a ∉ S) : SI s ts lv dn wc rq top cs Ws F τ := by
  unfold SI CX TX WI at h ⊢
  rw [fr_zF f (hS 70 (by simp)), fr_zF f (hS 71 (by simp)), fr_zF f (hS 72 (by simp)), fr_zF f (hS 73 (by simp)), fr_zF f (hS 78 (by simp)), fr_zF f (hS 79 (by simp)), fr_zF f (hS 80 (by simp)), fr_zF f (hS 81 (by simp)), fr_zF f (hS 82 (by simp)), fr_zF f (hS 83 (by simp)), fr_zF f (hS 84 (by simp))]
  exact h
/-- a new clause leaves the others as they are -/
theorem cl_sub {s top : Nat} {M M' : Nat → Int} {cs cs' : List Nat} (h : CLp M top s cs) (hM : ∀ j, j < top → M' j = M j) (hc : ∀ c ∈ cs, c ∈ cs') : ∀ c ∈ cs, c ∈ cs' ∧ M' c = M c ∧ ∀ x, inC M' c x ↔ inC M c x := fun c m => by
  obtain ⟨a1, a2, a3, -⟩ := h.1 c m
  refine ⟨hc c m, hM c (by omega), fun x => ?_⟩
  unfold inC
  rw [hM c (by omega)]
  constructor
  · rintro ⟨i, hi, ei⟩; exact ⟨i, hi, by rw [← hM _ (by omega)]; exact ei⟩
  · rintro ⟨i, hi, ei⟩; exact ⟨i, hi, by rw [hM _ (by omega)]; exact ei⟩
theorem WQ_cons {s top dn : Nat} {M M' V L T : Nat → Int} {cs : List Nat} (h : CLp M top s cs) (hM : ∀ j, j < top → M' j = M j) (hq : WQ M V L T cs dn) (hn : 2 ≤ M' top → ∀ e, e ≤ 1 → ∀ i, i < dn → T i = ng (M' (top + 3 + e)) → V (M' (top + 3 + (1 - e))).toNat = 1 ∧ L (gt (M' (top + 3 + (1 - e)))) ≤ L (gt (M' (top + 3 + e)))) : WQ M' V L T (top :: cs) dn := by
  intro c hc h2 e he i hi ei
  rcases List.mem_cons.mp hc with q | q
  · subst q; exact hn h2 e he i hi ei
  · obtain ⟨a1, a2, a3, -⟩ := h.1 c q
    rw [hM c (by omega)] at h2
    have b1 := hM (c + 3 + e) (by omega)
    have b2 := hM (c + 3 + (1 - e)) (by omega)
    rw [b1] at ei
    rw [b1, b2]
    exact hq c q h2 e he i hi ei
