/-! Solver.noteFacts, nextWish, checkModel -/
section NfJ
variable {ω : q_W} {d s top ts lv : Nat} {cs : List Nat} {Ws : Nat → List Nat} {σ : q_H}
theorem s_noteFacts {K : q_H → Prop} {nt : Nat} (hd : 4 ≤ d) (hE : q_E σ) (hs : s ≤ 10240) (hx : CX s top cs Ws σ) (hX : TX s ts lv cs σ) (h8 : z σ 70 8 = (nt : Int)) (hnt : nt ≤ ts)
    (kk : ∀ τ, fr [70, 75, 76, 77, 85, 86] σ τ → (∀ k, k ≠ 8 → z τ 70 k = z σ 70 k) → z τ 70 8 = (ts : Int) → K τ) : J ω m_So_noteFacts d 0 0 0 0 0 [(0, .ref 70)] [] σ (q_kv K) := by
  obtain ⟨d, rfl⟩ : ∃ k, d = k + 1 := ⟨d - 1, by omega⟩
  obtain ⟨t6, t10, h12, hT⟩ := id hX
  have hlen := TR_len hT
  have l : ∀ (m n : Nat) (ρ : q_H), ts ≤ n + m → n ≤ ts → fr [70, 75, 76, 77, 85, 86] σ ρ → (∀ k, k ≠ 8 → z ρ 70 k = z σ 70 k) → z ρ 70 8 = (n : Int) → J ω m_So_noteFacts (d + 1) 0 0 0 0 0 [(0, .ref 70)] [] ρ (q_kv K) := by
    intro m
    induction m with
    | zero =>
      intro n ρ h1 h2 f fk f8
      refine b_So_noteFacts_0 (fr_E f hE) ?_
      rw [f8, fk 6 (by decide), t6]
      have e : n = ts := by omega
      exact ⟨fun _ => ⟨rfl, kk ρ f fk (by rw [f8, e])⟩, fun c => absurd c (by omega)⟩
    | succ m ih =>
      intro n ρ h1 h2 f fk f8
      refine b_So_noteFacts_0 (fr_E f hE) ?_
      rw [f8, fk 6 (by decide), t6, Int.toNat_natCast, fr_zF f (show (81 : Nat) ∉ [70, 75, 76, 77, 85, 86] by decide), fr_zF f (show (80 : Nat) ∉ [70, 75, 76, 77, 85, 86] by decide)]
      refine ⟨fun c => ⟨rfl, kk ρ f fk (by rw [f8]; omega)⟩, fun c => ?_⟩
      have htn := (hT.1 n (by omega)).1
      have ht1 := htn.2
      have g := gt_sh hs htn
      rw [g.1]
      refine ⟨⟨by omega, by omega⟩, ⟨g.2.1, g.2.2⟩, ?_⟩
      have F1 : fr [70, 75, 76, 77, 85, 86] σ (zs (zs ρ 85 0 (z σ 81 n)) 86 0 (z σ 80 (gt (z σ 81 n)))) := fr_s (fr_s f (by simp)) (by simp)
      have next : ∀ τ, fr [70, 75, 76, 77, 85, 86] σ τ → z τ 70 = z ρ 70 → J ω m_So_noteFacts (d + 1) 0 0 0 0 0 [(0, .ref 70)] [] (zs τ 70 8 (z τ 70 8 + 1)) (q_kv K) := by
        intro τ ft e70
        rw [e70, f8]
        exact ih (n + 1) _ (by omega) (by omega) (fr_s ft (by simp)) (fun k hk => by rw [z_k hk, e70]; exact fk k hk) (by rw [z_s ⟨by omega, by omega⟩]; omega)
      have e70 : z (zs (zs ρ 85 0 (z σ 81 n)) 86 0 (z σ 80 (gt (z σ 81 n)))) 70 = z ρ 70 := by rw [z_oF (by decide), z_oF (by decide)]
      -- known or not
      have turn : ∀ v : Int, inR v → q_ki (fun v τ => J ω m_So_noteFacts (d + 1) 0 0 0 0 61 [(0, .ref 70)] [.int (zI v)] τ (q_kv K)) (.inl (some (.int (zI v)))) (zs (zs ρ 85 0 (z σ 81 n)) 86 0 (z σ 80 (gt (z σ 81 n)))) := by
        intro v iv
        refine ⟨v, iv, rfl, b_So_noteFacts_61 (fr_E F1 hE) ⟨iv, fun _ => next _ F1 e70, fun _ => ?_⟩⟩
        refine k_check (n := 1) (h := 1) (s := s) (top := top) (cs := cs) (Ws := Ws) (by omega) (fr_E F1 hE) hs ?_ (by omega) (by omega) (fun i hi => ?_) (fun i hi => ?_) (fun τ ft => b_So_noteFacts_88 (fr_E (fr_trans F1 (fr_mono ft (by simp))) hE) (next τ (fr_trans F1 (fr_mono ft (by simp))) ((fr_zF ft (by decide)).trans e70)))
        · unfold CX; rw [fr_zF F1 (by decide), fr_zF F1 (by decide), fr_zF F1 (by decide)]; exact hx
        · rw [show i = 0 by omega, z_o (by decide), z_s (lit_R hs htn)]; exact htn
        · rw [show i = 0 by omega, z_s (z_R _ _ _)]
          rcases hT.2.2.2.2.2.2.1 n (by omega) with q | ⟨c1, m1, q, -⟩
          · exact Or.inl q
          · exact Or.inr ⟨c1, m1, q⟩
      refine b_Ch_knows_0 (fr_E F1 hE) ⟨⟨htn.1, by omega⟩, fun _ => turn 0 ⟨by decide, by decide⟩, fun _ => turn 1 ⟨by decide, by decide⟩⟩
  exact l ts nt σ (by omega) hnt fr_refl (fun _ _ => rfl) h8
/-- the wishes -/
def WI (s wc : Nat) (σ : q_H) : Prop := z σ 70 12 = (wc : Int) ∧ wc ≤ 12 ∧ (∀ i, i < wc → lit s (z σ 83 i)) ∧ ∀ i j, i < j → j < wc → gt (z σ 83 i) ≠ gt (z σ 83 j)
theorem s_nextWish {K : Int → q_H → Prop} {wc : Nat} (hE : q_E σ) (hs : s ≤ 10240) (hw : WI s wc σ) (k0 : (∀ i, i < wc → z σ 78 (z σ 83 i).toNat ≠ 0) → K (-1) σ) (k1 : ∀ i, i < wc → z σ 78 (z σ 83 i).toNat = 0 → (∀ j, j < i → z σ 78 (z σ 83 j).toNat ≠ 0) → K (z σ 83 i) σ) : J ω m_So_nextWish d 0 0 0 0 0 [(0, .ref 70)] [] σ (q_ki K) := by
  obtain ⟨h12, h1, h2, -⟩ := hw
  have l : ∀ (m n : Nat), wc ≤ n + m → n ≤ wc → (∀ j, j < n → z σ 78 (z σ 83 j).toNat ≠ 0) → J ω m_So_nextWish d 0 0 0 0 2 [(0, .ref 70), (1, .int (zI (n : Int)))] [] σ (q_ki K) := by
    intro m
    induction m with
    | zero =>
      intro n a1 a2 a3
      refine b_So_nextWish_2 hE ?_
      rw [h12]
      exact ⟨⟨by omega, by omega⟩, fun _ => ⟨-1, ⟨by decide, by decide⟩, rfl, k0 (fun i hi => a3 i (by omega))⟩, fun c => absurd c (by omega)⟩
    | succ m ih =>
      intro n a1 a2 a3
      refine b_So_nextWish_2 hE ?_
      rw [h12, Int.toNat_natCast]
      refine ⟨⟨by omega, by omega⟩, fun c => ⟨-1, ⟨by decide, by decide⟩, rfl, k0 (fun i hi => a3 i (by omega))⟩, fun c => ?_⟩
      have hl := h2 n (by omega)
      have hl1 := hl.2
      refine ⟨⟨by omega, by omega⟩, ⟨hl.1, by omega⟩, fun cv => ?_, fun cv => ⟨_, lit_R hs hl, rfl, k1 n (by omega) cv a3⟩⟩
      rw [show (n : Int) + 1 = ((n + 1 : Nat) : Int) by omega]
      refine ih (n + 1) (by omega) (by omega) (fun j hj => ?_)
      by_cases q : j = n
      · subst q; exact cv
      · exact a3 j (by omega)
  exact b_So_nextWish_0 hE (l wc 0 (by omega) (by omega) (fun j hj => absurd hj (by omega)))
theorem s_checkModel {K : q_H → Prop} {wc : Nat} (hd : 4 ≤ d) (hE : q_E σ) (hs : s ≤ 10240) (hx : CX s top cs Ws σ) (hX : TX s ts lv cs σ) (hw : WI s wc σ) (h0 : ∀ g, z σ 84 g = 0)
    (kk : ∀ τ, fr [70, 75, 76, 77, 84, 85, 86] σ τ → (∀ k, k ≠ 16 → k ≠ 18 → z τ 70 k = z σ 70 k) → (∀ g, z τ 84 g = 0) → K τ) : J ω m_So_checkModel d 0 0 0 0 0 [(0, .ref 70)] [] σ (q_kv K) := by
  obtain ⟨d, rfl⟩ : ∃ k, d = k + 1 := ⟨d - 1, by omega⟩
  obtain ⟨t6, t10, h12, hT⟩ := id hX
  obtain ⟨w12, w1, w2, -⟩ := id hw
  have hlen := TR_len hT
  have l : ∀ (m n : Nat) (ρ : q_H), wc ≤ n + m → n ≤ wc → fr [70, 75, 76, 77, 84, 85, 86] σ ρ → (∀ k, k ≠ 16 → k ≠ 18 → z ρ 70 k = z σ 70 k) → (∀ g, z ρ 84 g = 0) → J ω m_So_checkModel (d + 1) 0 0 0 0 29 [(0, .ref 70), (1, .int (zI (n : Int)))] [] ρ (q_kv K) := by
    intro m
    induction m with
    | zero =>
      intro n ρ a1 a2 f fk fz
      refine b_So_checkModel_29 (fr_E f hE) ?_
      rw [fk 12 (by decide) (by decide), w12]
      exact ⟨⟨by omega, by omega⟩, fun _ => ⟨rfl, kk ρ f fk fz⟩, fun c => absurd c (by omega)⟩
    | succ m ih =>
      intro n ρ a1 a2 f fk fz
      have e : ∀ {a}, a ∉ [70, 75, 76, 77, 84, 85, 86] → z ρ a = z σ a := fun h => fr_zF f h
      refine b_So_checkModel_29 (fr_E f hE) ?_
      rw [fk 12 (by decide) (by decide), w12, Int.toNat_natCast, e (show (83 : Nat) ∉ [70, 75, 76, 77, 84, 85, 86] by decide), e (show (78 : Nat) ∉ [70, 75, 76, 77, 84, 85, 86] by decide), e (show (79 : Nat) ∉ [70, 75, 76, 77, 84, 85, 86] by decide)]
      refine ⟨⟨by omega, by omega⟩, fun _ => ⟨rfl, kk ρ f fk fz⟩, fun c => ?_⟩
      have hl := w2 n (by omega)
      have hl1 := hl.2
      have g := gt_sh hs hl
      have hng := ng_lit hl
      rw [g.1, zX_ng hs hl, show (n : Int) + 1 = ((n + 1 : Nat) : Int) by omega]
      refine ⟨⟨by omega, by omega⟩, ⟨hl.1, by omega⟩, fun _ => ih (n + 1) ρ (by omega) (by omega) f fk fz, fun cv => ⟨⟨g.2.1, g.2.2⟩, fun _ => ih (n + 1) ρ (by omega) (by omega) f fk fz, fun cl => ?_⟩⟩
      obtain ⟨j, hj, ej⟩ := TR_neg hT hl cv
      have hlj := (hT.2.2.2.1 j hj).2
      rw [ej, gt_ng] at hlj
      have l1 : 1 ≤ lv := by omega
      -- the state before trace
      have F1 : fr [70, 75, 76, 77, 84, 85, 86] σ (zs (zs (zs (zs ρ 85 0 (ng (z σ 83 n))) 70 16 1) 70 18 0) 84 (gt (z σ 83 n)) 1) := fr_s (fr_s (fr_s (fr_s f (by simp)) (by simp)) (by simp)) (by simp)
      generalize hπ : zs (zs (zs (zs ρ 85 0 (ng (z σ 83 n))) 70 16 1) 70 18 0) 84 (gt (z σ 83 n)) 1 = π at F1 ⊢
      have p84 : ∀ q, z π 84 q ≠ 0 → q = gt (z σ 83 n) := fun q hq => by
        rw [← hπ, z_if ⟨by decide, by decide⟩] at hq
        by_cases c2 : q = gt (z σ 83 n)
        · exact c2
        · rw [if_neg (fun h => c2 h.2), z_o (by decide), z_o (by decide), z_o (by decide), fz q] at hq
          exact absurd rfl hq
      have p85 : z π 85 0 = ng (z σ 83 n) := by rw [← hπ, z_o (by decide), z_o (by decide), z_o (by decide), z_s (lit_R hs hng)]
      have p16 : z π 70 16 = 1 := by rw [← hπ, z_o (by decide), z_k (by decide), z_s ⟨by decide, by decide⟩]
      have p18 : z π 70 18 = 0 := by rw [← hπ, z_o (by decide), z_s ⟨by decide, by decide⟩]
      have pk : ∀ k, k ≠ 16 → k ≠ 18 → z π 70 k = z σ 70 k := fun k h1 h2 => by rw [← hπ, z_o (by decide), z_k h2, z_k h1, z_o (by decide)]; exact fk k h1 h2
      have Eπ := fr_E F1 hE
      have e2 : ∀ {a}, a ∉ [70, 75, 76, 77, 84, 85, 86] → z π a = z σ a := fun h => fr_zF F1 h
      have CX1 : CX s top cs Ws π := by unfold CX; rw [e2 (by decide), e2 (by decide), e2 (by decide)]; exact hx
      have TX1 : TX s ts lv cs π := ⟨by rw [pk 6 (by decide) (by decide)]; exact t6, by rw [pk 10 (by decide) (by decide)]; exact t10, h12, by rw [e2 (by decide), e2 (by decide), e2 (by decide), e2 (by decide), e2 (by decide), e2 (by decide)]; exact hT⟩
      have TI0 : TI s ts lv 1 0 0 False cs π π ts 1 0 0 := by
        refine ⟨fr_refl, fun _ _ _ => rfl, by rw [p16]; rfl, by rw [p18]; rfl, ⟨fun q hq => ⟨j, hj, ?_, ?_⟩, fun i h1 h2 => absurd h2 (by omega), fun i k p q h1 h2 h3 => absurd h3 (by omega), fun i hi => absurd hi (by omega), fun i h1 h2 => absurd h2 (by omega), fun i k p q h1 h2 h3 => absurd h3 (by omega), ⟨by omega, by omega⟩, ⟨by omega, by omega⟩⟩, fun q => absurd q id, fun q => absurd rfl q, fun _ i h1 h2 => absurd h2 (by omega), fun i _ => rfl⟩
        · rw [e2 (show (81 : Nat) ∉ [70, 75, 76, 77, 84, 85, 86] by decide), p84 q hq, ej, gt_ng]
        · rw [e2 (show (79 : Nat) ∉ [70, 75, 76, 77, 84, 85, 86] by decide), p84 q hq]; exact cl
      refine s_trace (P := False) (ls0 := 1) (hc0 := 0) (by omega) Eπ hs CX1 TX1 l1 (by omega) (by omega) ⟨by decide, by decide⟩ TI0 (fun μ k ls hc x hI hz hn1 => ?_)
      obtain ⟨g0, gk, g16, g18, hC, -, -, -, hB⟩ := hI
      have F2 : fr [70, 75, 76, 77, 84, 85, 86] σ μ := fr_trans F1 (fr_mono g0 (by simp))
      have q1 := hC.2.2.2.2.2.2.1
      have q2 := hC.2.2.2.2.2.2.2
      refine b_So_checkModel_112 (fr_E F2 hE) ?_
      rw [g16, g18]
      refine k_check (s := s) (top := top) (cs := cs) (Ws := Ws) (by omega) (fr_E F2 hE) hs ?_ (by omega) (by omega) (fun i hi => ?_) (fun i hi => ?_) (fun ν ft => ?_)
      · unfold CX; rw [fr_zF F2 (by decide), fr_zF F2 (by decide), fr_zF F2 (by decide)]; exact hx
      · by_cases q : i = 0
        · rw [q, hB 0 (by omega), p85]; exact hng
        · obtain ⟨p, -, h2, h3, -⟩ := hC.2.1 i (by omega) hi
          rw [h3, e2 (by decide)]; exact ng_lit (hT.1 p h2).1
      · obtain ⟨c1, m1, e1, -⟩ := hC.2.2.2.1 i hi
        exact Or.inr ⟨c1, m1, e1⟩
      · have F3 : fr [70, 75, 76, 77, 84, 85, 86] σ ν := fr_trans F2 (fr_mono ft (by simp))
        refine b_So_checkModel_142 (fr_E F3 hE) ?_
        rw [show (n : Int) + 1 = ((n + 1 : Nat) : Int) by omega]
        exact ih (n + 1) ν (by omega) (by omega) F3 (fun k h1 h2 => by rw [fr_zF ft (by decide), gk k h1 h2]; exact pk k h1 h2) (fun q => by rw [fr_zF ft (by decide)]; exact hz q)
  refine b_So_checkModel_0 hE (c_allHold hE hs hx (fun v hv => b_So_checkModel_11 hE ⟨by rcases hv with q | q <;> rw [q] <;> exact ⟨by decide, by decide⟩, fun _ => ?_, fun _ => ?_⟩))
  · exact l wc 0 σ (by omega) (by omega) fr_refl (fun _ _ _ => rfl) h0
  · exact l wc 0 _ (by omega) (by omega) (fr_s fr_refl (by simp)) (fun k _ _ => z_o (by decide)) (fun g => by rw [z_o (by decide)]; exact h0 g)
end NfJ
