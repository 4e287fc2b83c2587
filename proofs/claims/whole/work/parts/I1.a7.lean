/-! INQUIRY: other INPUTS; how many end -/
theorem nV_uv {u v : Nat → Bool} {f : Nat → Int} : ∀ n, (∀ j, j < n → lvb v (f j) = lvb u (f j)) → nV v f n = nV u f n
  | 0, _ => rfl
  | n + 1, h => by
    show nV v f n + 2 ^ n * (lvb v (f n)).toNat = nV u f n + 2 ^ n * (lvb u (f n)).toNat
    rw [nV_uv n (fun j hj => h j (by omega)), h n (by omega)]
def cnE (f : Nat → Bool) : Nat → Nat
  | 0 => 0
  | n + 1 => cnE f n + (if f n then 1 else 0)
theorem cnE_no {f : Nat → Bool} : ∀ k n, (∀ t, n ≤ t → t < n + k → f t = false) → cnE f (n + k) = cnE f n
  | 0, _, _ => rfl
  | k + 1, n, h => by
    show cnE f (n + k) + (if f (n + k) then 1 else 0) = cnE f n
    rw [cnE_no k n (fun t a b => h t a (by omega)), h (n + k) (by omega) (by omega)]
    simp
theorem cnE_mono {f : Nat → Bool} : ∀ k n, cnE f n ≤ cnE f (n + k)
  | 0, _ => Nat.le_refl _
  | k + 1, n => Nat.le_trans (cnE_mono k n) (Nat.le_add_right _ _)
section I7J
variable {ω : q_W} {d p s0 s V rc wc rq : Nat} {WI R : Nat → Int} {S : List q_St} {σ σ0 : q_H} {D : (Nat → Bool) → Prop} {u v : Nat → Bool}
theorem IvN_ne (gp : GP p σ) (hi : INP p σ s0) (u0 : u 0 = true) (v0 : v 0 = true) : IvN σ v ≠ IvN σ u ↔ ∃ i b, i < iN p σ ∧ b < iW p σ i ∧ lvb v (z σ 61 (8 * i + b)) ≠ lvb u (z σ 61 (8 * i + b)) := by
  constructor
  · intro h
    apply Classical.byContradiction
    intro q
    apply h
    funext i
    by_cases c : i < iN p σ
    · rw [IvN_w gp hi v0 c, IvN_w gp hi u0 c]
      refine nV_uv _ (fun j hj => ?_)
      apply Decidable.byContradiction
      intro q2
      exact q ⟨i, j, c, hj, q2⟩
    · rw [IvN_ge hi v0 (by omega), IvN_ge hi u0 (by omega)]
  · rintro ⟨i, b, h1, h2, h3⟩ e
    apply h3
    have := congrFun e i
    rw [IvN_w gp hi v0 h1, IvN_w gp hi u0 h1] at this
    have t1 := nV_tb (v := v) (f := fun j => z σ 61 (8 * i + j)) (iW p σ i) b h2
    have t2 := nV_tb (v := u) (f := fun j => z σ 61 (8 * i + j)) (iW p σ i) b h2
    rw [this] at t1
    exact t1.symm.trans t2
def eNT (σ : q_H) (u : Nat → Bool) (j : Nat) : Int := if lvb u (z σ 61 j) then ng (z σ 61 j) else z σ 61 j
theorem eNT_v {j : Nat} (h : 0 ≤ z σ 61 j) : lvb v (eNT σ u j) = true ↔ lvb v (z σ 61 j) ≠ lvb u (z σ 61 j) := by
  unfold eNT
  cases hu : lvb u (z σ 61 j)
  · rw [if_neg (by decide)]
    cases lvb v (z σ 61 j) <;> decide
  · rw [if_pos rfl, lvb_ng h]
    cases lvb v (z σ 61 j) <;> decide
theorem i_requireOther2 {K : q_H → Prop} (hd : 5 ≤ d) (hp : p = 16 ∨ p = 29) (h : QQ p s0 s V WI S rc R wc rq D σ0 σ) (hf : FND s wc D σ u) (hrq : rq ≤ 27000) (kk : ∀ τ, QQ p s0 s V WI S rc R wc (rq + 15) (fun v => D v ∧ IvN σ v ≠ IvN σ u) σ0 τ → fr [70, 71, 72, 73, 78, 79, 80, 81, 93] σ τ → K τ) : J ω m_In_requireOther d 0 0 0 0 0 [(0, .ref 47)] [] σ (q_kv K) := by
  obtain ⟨d, rfl⟩ : ∃ k, d = k + 1 := ⟨d - 1, by omega⟩
  have gp := h.1.1.2.1
  have hin := h.1.1.2.2.2.2.2.2.2.2.2
  have hs := h.1.1.2.2.1.2.1.2
  have s0s := h.1.1.2.2.2.1.2
  have bb := iW_b gp
  have l61 : ∀ j, j < 96 → lit s (z σ 61 j) := fun j hj => lit_m (hin.1 j hj) s0s
  have leN : ∀ j, j < 96 → lit s (eNT σ u j) ∧ gt (eNT σ u j) = gt (z σ 61 j) := fun j hj => by
    unfold eNT
    split
    · exact ⟨ng_lit (l61 j hj), gt_ng _⟩
    · exact ⟨l61 j hj, rfl⟩
  have hb91 : b256 (z σ 91) := h.2.1.2.2.2.2.2
  have Q93 : ∀ ρ, fr [93] σ ρ → QQ p s0 s V WI S rc R wc rq D σ0 ρ := fun ρ g => QQ_fq hp h (fq_of g) (by simp) (by rw [fr_zF g (by decide)]; exact hb91)
  have hiW : ∀ i, iW p σ i = (z σ (p + 1) i).toNat := fun _ => rfl
  have hiN : iN p σ = (z σ p 0).toNat := rfl
  generalize hw : z σ (p + 1) = w at hiW
  generalize hn : z σ p 0 = n at hiN
  obtain ⟨⟨w1, w2, w3, w4⟩, ⟨b1, b2, b3⟩, -⟩ := id gp
  rw [hn] at b1 b3 w1
  rw [hw] at b3
  have wpos : ∀ i : Nat, (i : Int) < n → 1 ≤ w i ∧ w i ≤ 8 := fun i hi => by have := w3 i (by omega); rw [hw] at this; exact this
  have nn : ∀ i, i < n.toNat → 0 ≤ w i := fun i hi => by have := wpos i (by omega); omega
  have smb : ∀ i : Nat, (i : Int) < n → 0 ≤ sm w i ∧ sm w i + w i ≤ 12 := fun i hi => by
    have g1 := sm_le (f := w) (n := n.toNat) nn (n.toNat - (i + 1)) (i + 1) (by omega)
    rw [show i + 1 + (n.toNat - (i + 1)) = n.toNat by omega] at g1
    have g2 : sm w (i + 1) = sm w i + w i := rfl
    have g3 := sm_le (f := w) (n := n.toNat) nn i 0 (by omega)
    rw [Nat.zero_add] at g3
    have g4 : sm w 0 = 0 := rfl
    omega
  have l : ∀ (m i sz : Nat) (ρ : q_H), 12 ≤ i + m → (i : Int) ≤ n → (sz : Int) = sm w i → sz ≤ 12 → fr [93] σ ρ → (∀ y, (∃ a, a < sz ∧ z ρ 93 a = y) ↔ ∃ i' b' : Nat, i' < i ∧ (b' : Int) < w i' ∧ y = eNT σ u (8 * i' + b')) → J ω m_In_requireOther (d + 1) 0 0 0 0 4 [(0, .ref 47), (1, .int (zI (sz : Int))), (2, .int (zI (i : Int)))] [] ρ (q_kv K) := by
    intro m
    have out : ∀ (i sz : Nat) (ρ : q_H), n ≤ (i : Int) → (i : Int) ≤ n → sz ≤ 12 → fr [93] σ ρ → (∀ y, (∃ a, a < sz ∧ z ρ 93 a = y) ↔ ∃ i' b' : Nat, i' < i ∧ (b' : Int) < w i' ∧ y = eNT σ u (8 * i' + b')) → J ω m_So_require d 0 0 0 0 0 [(0, .ref 70), (1, .ref 93), (2, .int (zI (sz : Int)))] [] ρ (q_kv (fun τ => J ω m_In_requireOther (d + 1) 0 0 0 0 100 [] [] τ (q_kv K))) := fun i sz ρ hni hin' a1 g a2 => by
      have el : ∀ a, a < sz → ∃ j, j < 96 ∧ z ρ 93 a = eNT σ u j := fun a ha => by
        obtain ⟨i', b', q1, q2, q3⟩ := (a2 (z ρ 93 a)).mp ⟨a, ha, rfl⟩
        have := wpos i' (by omega)
        exact ⟨8 * i' + b', by omega, q3⟩
      refine i_require2 (by omega) hp (Q93 ρ g) (by omega) a1 (fun a ha => ?_) (fun a ha => ?_) (fun τ hτ ft => b_In_requireOther_100 hp hτ.1.1.1.2.1 hτ.1.1.1.1 ⟨rfl, kk τ (QQ_D (QQ_rq hτ (by omega)) (fun v cv => and_congr_right (fun _ => ?_))) (fr_trans (fr_mono g (by simp)) ft)⟩)
      · obtain ⟨j, j1, j2⟩ := el a ha
        rw [j2]; exact (leN j j1).1
      · obtain ⟨j, j1, j2⟩ := el a ha
        rw [j2, (leN j j1).2, fr_zF g (show (74 : Nat) ∉ [93] by decide), fr_zF g (show (83 : Nat) ∉ [93] by decide)]
        exact RL_in h j1
      · rw [IvN_ne gp hin hf.1.1 cv.1]
        constructor
        · rintro ⟨a, ha, av⟩
          obtain ⟨i', b', q1, q2, q3⟩ := (a2 (z ρ 93 a)).mp ⟨a, ha, rfl⟩
          have := wpos i' (by omega)
          rw [q3] at av
          exact ⟨i', b', by omega, by rw [hiW]; omega, (eNT_v (l61 _ (by omega)).1).mp av⟩
        · rintro ⟨i', b', q1, q2, q3⟩
          rw [hiW] at q2
          have := wpos i' (by omega)
          obtain ⟨a, ha, ea⟩ := (a2 (eNT σ u (8 * i' + b'))).mpr ⟨i', b', by omega, by omega, rfl⟩
          exact ⟨a, ha, by rw [ea]; exact (eNT_v (l61 _ (by omega)).1).mpr q3⟩
    induction m with
    | zero =>
      intro i sz ρ a1 a2 a3 a4 g a5
      have hI := (Q93 ρ g).1
      refine b_In_requireOther_4 hp hI.1.1.2.1 hI.1.1.1 ?_
      rw [fr_zF g (show p ∉ _ by simp; omega), hn]
      exact ⟨⟨by omega, by omega⟩, fun _ => out i sz ρ (by omega) (by omega) a4 g a5, fun c => absurd c (by omega)⟩
    | succ m ih =>
      intro i sz ρ a1 a2 a3 a4 g a5
      have hI := (Q93 ρ g).1
      refine b_In_requireOther_4 hp hI.1.1.2.1 hI.1.1.1 ?_
      rw [fr_zF g (show p ∉ _ by simp; omega), hn]
      refine ⟨⟨by omega, by omega⟩, fun _ => out i sz ρ (by omega) (by omega) a4 g a5, fun c => ?_⟩
      have wp := wpos i (by omega)
      have sb := smb i (by omega)
      have l2 : ∀ (k b sz : Nat) (ρ : q_H), 8 ≤ b + k → (b : Int) ≤ w i → (sz : Int) = sm w i + (b : Int) → fr [93] σ ρ → (∀ y, (∃ a, a < sz ∧ z ρ 93 a = y) ↔ ∃ i' b' : Nat, (i' < i ∨ (i' = i ∧ b' < b)) ∧ (b' : Int) < w i' ∧ y = eNT σ u (8 * i' + b')) → J ω m_In_requireOther (d + 1) 0 0 0 0 17 [(0, .ref 47), (1, .int (zI (sz : Int))), (2, .int (zI (i : Int))), (3, .int (zI (b : Int)))] [] ρ (q_kv K) := by
        intro k
        have out2 : ∀ (b sz : Nat) (ρ : q_H), (b : Int) ≤ w i → w i ≤ (b : Int) → (sz : Int) = sm w i + (b : Int) → fr [93] σ ρ → (∀ y, (∃ a, a < sz ∧ z ρ 93 a = y) ↔ ∃ i' b' : Nat, (i' < i ∨ (i' = i ∧ b' < b)) ∧ (b' : Int) < w i' ∧ y = eNT σ u (8 * i' + b')) → J ω m_In_requireOther (d + 1) 0 0 0 0 4 [(0, .ref 47), (1, .int (zI (sz : Int))), (2, .int (zI ((i : Int) + 1)))] [] ρ (q_kv K) := fun b sz ρ q1 q2 q3 q4 q5 => by
          rw [show (i : Int) + 1 = ((i + 1 : Nat) : Int) by omega]
          have g2 : sm w (i + 1) = sm w i + w i := rfl
          refine ih (i + 1) sz ρ (by omega) (by omega) (by omega) (by omega) q4 (fun y => (q5 y).trans ⟨fun ⟨i', b', r1, r2, r3⟩ => ⟨i', b', by omega, r2, r3⟩, fun ⟨i', b', r1, r2, r3⟩ => ⟨i', b', ?_, r2, r3⟩⟩)
          by_cases e : i' = i
          · subst e; omega
          · omega
        induction k with
        | zero =>
          intro b sz ρ q0 q1 q2 q3 q4
          have hI := (Q93 ρ q3).1
          refine b_In_requireOther_17 hp hI.1.1.2.1 hI.1.1.1 ?_
          rw [fr_zF q3 (show p + 1 ∉ _ by simp; omega), hw, Int.toNat_natCast]
          exact ⟨⟨by omega, by omega⟩, ⟨by omega, by omega⟩, fun _ => out2 b sz ρ q1 (by omega) q2 q3 q4, fun c => absurd c (by omega)⟩
        | succ k ih2 =>
          intro b sz ρ q0 q1 q2 q3 q4
          have hI := (Q93 ρ q3).1
          refine b_In_requireOther_17 hp hI.1.1.2.1 hI.1.1.1 ?_
          rw [fr_zF q3 (show p + 1 ∉ _ by simp; omega), hw, Int.toNat_natCast]
          refine ⟨⟨by omega, by omega⟩, ⟨by omega, by omega⟩, fun _ => out2 b sz ρ q1 (by omega) q2 q3 q4, fun cb => ⟨⟨by omega, by omega⟩, ?_⟩⟩
          have e61 : z ρ 61 ((i : Int) * 8 + (b : Int)).toNat = z σ 61 (8 * i + b) := by
            rw [fr_zF q3 (by decide), show ((i : Int) * 8 + (b : Int)).toNat = 8 * i + b by omega]
          have lx := l61 (8 * i + b) (by omega)
          rw [e61]
          have lx2 := lx.2
          have put : J ω m_In_requireOther (d + 1) 0 0 0 0 17 [(0, .ref 47), (1, .int (zI ((sz : Int) + 1))), (2, .int (zI (i : Int))), (3, .int (zI ((b : Int) + 1)))] [] (zs ρ 93 ((sz : Int)).toNat (eNT σ u (8 * i + b))) (q_kv K) := by
            rw [Int.toNat_natCast, show (sz : Int) + 1 = ((sz + 1 : Nat) : Int) by omega, show (b : Int) + 1 = ((b + 1 : Nat) : Int) by omega]
            refine ih2 (b + 1) (sz + 1) _ (by omega) (by omega) (by omega) (fr_s q3 (by simp)) (fun y => ?_)
            rw [z_up (lit_R hs (leN (8 * i + b) (by omega)).1)]
            constructor
            · rintro ⟨a, ha, ea⟩
              by_cases e : a = sz
              · rw [e, up_s] at ea
                exact ⟨i, b, Or.inr ⟨rfl, by omega⟩, by omega, ea.symm⟩
              · rw [up_n e] at ea
                obtain ⟨i', b', r1, r2, r3⟩ := (q4 y).mp ⟨a, by omega, ea⟩
                exact ⟨i', b', by omega, r2, r3⟩
            · rintro ⟨i', b', r1, r2, r3⟩
              by_cases e : i' = i ∧ b' = b
              · exact ⟨sz, by omega, by rw [up_s, r3, e.1, e.2]⟩
              · obtain ⟨a, ha, ea⟩ := (q4 y).mpr ⟨i', b', by omega, r2, r3⟩
                exact ⟨a, by omega, by rw [up_n (by omega)]; exact ea⟩
          have hv := hf.2.2.1 _ lx (RL_in h (show 8 * i + b < 96 by omega))
          have z78 : z ρ 78 = z σ 78 := fr_zF q3 (by decide)
          refine b_So_holds_0 hI.1.1.1 ⟨⟨lx.1, by omega⟩, fun q => ⟨0, ⟨by decide, by decide⟩, rfl, b_In_requireOther_60 hp hI.1.1.2.1 hI.1.1.1 ⟨⟨by decide, by decide⟩, fun _ => ⟨⟨by omega, by omega⟩, ?_⟩, fun q => absurd rfl q⟩⟩, fun q => ⟨1, ⟨by decide, by decide⟩, rfl, b_In_requireOther_60 hp hI.1.1.2.1 hI.1.1.1 ⟨⟨by decide, by decide⟩, fun q => absurd q (by decide), fun _ => ⟨⟨by omega, by omega⟩, ?_⟩⟩⟩⟩
          · have e : eNT σ u (8 * i + b) = z σ 61 (8 * i + b) := by
              unfold eNT
              rw [if_neg (fun r => q (by rw [z78]; exact hv.mpr r))]
            rw [e] at put; exact put
          · have e : eNT σ u (8 * i + b) = zXor (z σ 61 (8 * i + b)) 1 := by
              unfold eNT
              rw [z78] at q
              rw [if_pos (hv.mp q), zX_ng hs lx]
            rw [e] at put; exact put
      exact l2 8 0 sz ρ (by omega) (by omega) (by omega) g (fun y => (a5 y).trans ⟨fun ⟨i', b', r1, r2, r3⟩ => ⟨i', b', Or.inl r1, r2, r3⟩, fun ⟨i', b', r1, r2, r3⟩ => ⟨i', b', by omega, r2, r3⟩⟩)
  exact b_In_requireOther_0 hp h.1.1.1.2.1 h.1.1.1.1 (l 12 0 0 σ (by decide) (by omega) rfl (by decide) fr_refl (fun y => ⟨fun ⟨a, ha, _⟩ => absurd ha (by omega), fun ⟨i', b', r1, _⟩ => absurd r1 (by omega)⟩))
/-- how many end, up to twenty -/
theorem i_tally2 {K : Int → q_H → Prop} (hd : 9 ≤ d) (hp : p = 16 ∨ p = 29) (h : QS p s0 s σ) (h84 : ∀ g, z σ 84 g = 0) (hx : EXq p s0 s V WI S σ) (kk : ∀ w τ, IS p s0 s0 σ τ → EXq p s0 s0 V WI S τ → MKq σ τ → z τ 47 5 = 0 → w = ((min (cnE (fun t => decide ((rnT p S σ t).1 = 0)) (2 ^ smn (iW p σ) (iN p σ))) 20 : Nat) : Int) → K w τ) : J ω m_In_tally d 0 0 0 0 0 [(0, .ref 47)] [] σ (q_ki K) := by
  obtain ⟨d, rfl⟩ : ∃ k, d = k + 1 := ⟨d - 1, by omega⟩
  have gp := h.2.1
  have hin := h.2.2.2.2.2.2.2.2.2
  obtain ⟨B, hB⟩ : ∃ B, B = 2 ^ smn (iW p σ) (iN p σ) := ⟨_, rfl⟩
  rw [← hB] at kk
  have eDP : ∀ (ρ : q_H) (T : Nat), IS p s0 s0 σ ρ → EXq p s0 s0 V WI S ρ → ∀ u, CSv s0 ρ u → ((lvb u (z σ 48 4) = true ∧ T ≤ cod (iW p σ) (IvN ρ u) (iN p σ)) ↔ ((runF S (z σ (p + 3)) (IvN ρ u)).1 = 0 ∧ T ≤ cod (iW p σ) (IvN ρ u) (iN p σ))) := fun ρ T hI hX u cu => by
    obtain ⟨e1, -, -, -, e5, -⟩ := IS_z hp hI
    have g := EX_G hI hX cu
    rw [e1, e5] at g
    rw [g]
  have e61 : ∀ {ρ : q_H}, IS p s0 s0 σ ρ → ∀ u, IvN ρ u = IvN σ u := fun {ρ} hI u => IvN_cg (fq_z hI.2.2.2 (by decide))
  have fin : ∀ (x1 : Int) ρ, x1 = ((min (cnE (fun t => decide ((rnT p S σ t).1 = 0)) B) 20 : Nat) : Int) → IS p s0 s0 σ ρ → EXq p s0 s0 V WI S ρ → MKq σ ρ → q_ki K (.inl (some (.int (zI x1)))) (zs ρ 47 5 0) := fun x1 ρ e q1 q2 q3 => by
    have F : fr [47] ρ (zs ρ 47 5 0) := fr_s fr_refl (by simp)
    have i1 : inR x1 := ⟨by omega, by omega⟩
    exact ⟨x1, i1, rfl, kk x1 _ (IS_end hp q1) (EXq_fq hp q2 (fq_of F) (by simp) (by rw [fr_zF F (by decide)]; exact q2.2.2.2.2.2)) (MKq_tr q3 ⟨by rw [fr_zF F (by decide)], z_k (by decide), by rw [fr_zF F (by decide)], by rw [fr_zF F (by decide)]⟩) (z_s ⟨by decide, by decide⟩) e⟩
  have l : ∀ (m n : Nat) (x1 : Int) (ρ : q_H) (R : Nat → Int) (wc rq T : Nat), 20 ≤ n + m → 1 ≤ n → n ≤ 20 → rq ≤ 64 + 15 * n →
      ((z ρ 47 5 = 0 ∧ IS p s0 s0 σ ρ ∧ EXq p s0 s0 V WI S ρ ∧ MKq σ ρ ∧ x1 = ((n - 1 : Nat) : Int) ∧ cnE (fun t => decide ((rnT p S σ t).1 = 0)) B = n - 1) ∨
       (z ρ 47 5 = 1 ∧ x1 = (n : Int) ∧ QQ p s0 s0 V WI S 1 R wc rq (fun u => lvb u (z σ 48 4) = true ∧ T ≤ cod (iW p σ) (IvN σ u) (iN p σ)) σ ρ ∧ ∃ t u, FND s0 wc (fun u => lvb u (z σ 48 4) = true ∧ T ≤ cod (iW p σ) (IvN σ u) (iN p σ)) ρ u ∧ t < B ∧ (∀ t', t' < t → ¬ ((rnT p S σ t').1 = 0 ∧ T ≤ cod (iW p σ) (spr (iW p σ) (iN p σ) t') (iN p σ))) ∧ T ≤ t ∧ IvN ρ u = spr (iW p σ) (iN p σ) t ∧ cnE (fun t => decide ((rnT p S σ t).1 = 0)) (t + 1) = n)) →
      J ω m_In_tally (d + 1) 0 0 0 0 45 [(0, .ref 47), (1, .int (zI x1)), (2, .int (zI (n : Int)))] [] ρ (q_ki K) := by
    intro m
    have many : ∀ t, t < B → cnE (fun t => decide ((rnT p S σ t).1 = 0)) (t + 1) = 20 → ((20 : Nat) : Int) = ((min (cnE (fun t => decide ((rnT p S σ t).1 = 0)) B) 20 : Nat) : Int) := fun t ht e => by
      have := cnE_mono (f := fun t => decide ((rnT p S σ t).1 = 0)) (B - (t + 1)) (t + 1)
      rw [show t + 1 + (B - (t + 1)) = B by omega] at this
      omega
    induction m with
    | zero =>
      intro n x1 ρ R wc rq T a1 a0 a2 a3 a4
      rcases a4 with ⟨f5, q1, q2, q3, q4, q5⟩ | ⟨f5, q4, q1, t, u, -, t1, -, -, -, t4⟩
      · exact b_In_tally_45 hp q1.1.1.2.1 q1.1.1.1 ⟨⟨by omega, by omega⟩, fun _ => fin x1 ρ (by omega) q1 q2 q3, fun c => absurd c (by omega)⟩
      · exact b_In_tally_45 hp q1.1.1.1.2.1 q1.1.1.1.1 ⟨⟨by omega, by omega⟩, fun _ => fin x1 ρ (by rw [q4, show n = 20 by omega]; exact many t t1 (by omega)) q1.1 q1.2.1 q1.2.2.1, fun c => absurd c (by omega)⟩
    | succ m ih =>
      intro n x1 ρ R wc rq T a1 a0 a2 a3 a4
      rcases a4 with ⟨f5, q1, q2, q3, q4, q5⟩ | ⟨f5, q4, q1, t, u, hf, t1, t2, t3, t5, t4⟩
      · exact b_In_tally_45 hp q1.1.1.2.1 q1.1.1.1 ⟨⟨by omega, by omega⟩, fun _ => fin x1 ρ (by omega) q1 q2 q3, fun _ => ⟨fun _ => fin x1 ρ (by omega) q1 q2 q3, fun c => absurd f5 c⟩⟩
      · have hI := q1.1
        refine b_In_tally_45 hp hI.1.1.2.1 hI.1.1.1 ⟨⟨by omega, by omega⟩, fun c => fin x1 ρ (by rw [q4, show n = 20 by omega]; exact many t t1 (by omega)) hI q1.2.1 q1.2.2.1, fun cn => ⟨fun c => absurd (f5 ▸ c) (by decide), fun _ => ?_⟩⟩
        refine i_requireOther2 (by omega) hp q1 hf (by omega) (fun τ hτ ft => ?_)
        have hIτ := hτ.1
        have ivρ := e61 hI
        have hQ3 := QQ_D (D' := fun u => lvb u (z σ 48 4) = true ∧ t + 1 ≤ cod (iW p σ) (IvN τ u) (iN p σ)) hτ (fun w cw => by
          rw [e61 hIτ w, ivρ w, t5]
          have gI := hIτ.1.2.1
          have hn := hIτ.1.2.2.2.2.2.2.2.2.2
          obtain ⟨-, y2, y3, -⟩ := IS_z hp hIτ
          have es := IvN_spr gI hn cw.1
          have eb := IvN_cod gI hn cw.1
          rw [y2, y3, e61 hIτ w] at es eb
          have gd := eDP τ T hIτ hτ.2.1 w cw
          rw [e61 hIτ w] at gd
          constructor
          · rintro ⟨⟨k1, k2⟩, k3⟩
            refine ⟨k1, ?_⟩
            have k4 := gd.mp ⟨k1, k2⟩
            have ge : t ≤ cod (iW p σ) (IvN σ w) (iN p σ) := by
              apply Decidable.byContradiction
              intro q
              refine t2 _ (Nat.lt_of_not_le q) ⟨?_, ?_⟩
              · unfold rnT; rw [← es]; exact k4.1
              · rw [← es]; exact k4.2
            have ne : cod (iW p σ) (IvN σ w) (iN p σ) ≠ t := fun q => k3 (by rw [q] at es; exact es)
            omega
          · rintro ⟨k1, k2⟩
            refine ⟨⟨k1, by omega⟩, fun q => ?_⟩
            rw [q, cod_spr _ _ (by rw [← hB]; exact t1)] at k2
            omega)
        obtain ⟨g1, g2, g3, -, -, -⟩ := IS_z hp hQ3.1
        refine b_In_tally_62 hp hIτ.1.1.2.1 hIτ.1.1.1 (i_look2 (P := fun I => (runF S (z σ (p + 3)) I).1 = 0 ∧ t + 1 ≤ cod (iW p σ) I (iN p σ)) (by omega) hp hQ3 (by omega) (eDP τ (t + 1) hQ3.1 hQ3.2.1) (fun ν k1 k2 k3 k4 k5 k6 => ?_) (fun ν t' u' k1 k2 k3 k4 k5 k6 k7 k8 k9 k10 k11 k12 => ?_))
        · rw [g2, g3] at k6
          have go : ∀ y : Int, inR y → J ω m_In_verdict d 0 0 0 0 0 [(0, .ref 47), (1, .int (zI y))] [] ν (q_ki (fun v τ => J ω m_In_tally (d + 1) 0 0 0 0 86 [(0, .ref 47), (2, .int (zI (n : Int)))] [.int (zI v), .int (zI x1)] τ (q_ki K))) := fun y iy => by
            refine i_verdict2 hp k1.1.1.1 k1.1.1.2.1 iy (Or.inl k4) (b_In_tally_86 hp k1.1.1.2.1 k1.1.1.1 ?_)
            rw [k4, show (n : Int) + 1 = ((n + 1 : Nat) : Int) by omega]
            refine ih (n + 1) _ ν R wc (rq + 15) 0 (by omega) (by omega) (by omega) (by omega) (Or.inl ⟨k4, k1, k2, k3, by omega, ?_⟩)
            have := cnE_no (f := fun t => decide ((rnT p S σ t).1 = 0)) (B - (t + 1)) (t + 1) (fun t' q1 q2 => decide_eq_false (fun q => k6 t' ⟨q, by rw [cod_spr _ _ (by rw [← hB]; omega)]; exact q1⟩))
            rw [show t + 1 + (B - (t + 1)) = B by omega] at this
            omega
          exact b_In_tally_66 hp k1.1.1.2.1 k1.1.1.1 ⟨fun _ => go 0 ⟨by decide, by decide⟩, fun _ => go 1 ⟨by decide, by decide⟩⟩
        · rw [g2, g3] at k4 k5 k6 k7
          rw [g1, g2, g3] at k9
          have k9' : z ν 87 0 = 0 := k9.trans k5.1
          rw [cod_spr _ _ k4] at k5
          rw [← hB] at k4
          have hk := k1.1
          refine b_In_tally_66 hp hk.1.1.2.1 hk.1.1.1 ⟨fun c => absurd k9' c, fun _ => ?_⟩
          refine i_verdict2 hp hk.1.1.1 hk.1.1.2.1 ⟨by decide, by decide⟩ (Or.inr ⟨k2, by decide⟩) (b_In_tally_86 hp hk.1.1.2.1 hk.1.1.1 ?_)
          rw [k2, show (n : Int) + 1 = ((n + 1 : Nat) : Int) by omega]
          have eD : ∀ w, IvN τ w = IvN σ w := e61 hIτ
          simp only [eD] at k1 k3
          refine ih (n + 1) _ ν R wc (rq + 15) (t + 1) (by omega) (by omega) (by omega) (by omega) (Or.inr ⟨k2, by omega, k1, t', u', k3, k4, k6, k5.2, k7, ?_⟩)
          have := cnE_no (f := fun t => decide ((rnT p S σ t).1 = 0)) (t' - (t + 1)) (t + 1) (fun t'' q1 q2 => decide_eq_false (fun q => k6 t'' (by omega) ⟨q, by rw [cod_spr _ _ (by rw [← hB]; omega)]; exact q1⟩))
          rw [show t + 1 + (t' - (t + 1)) = t' by omega] at this
          show cnE _ t' + (if decide ((rnT p S σ t').1 = 0) then 1 else 0) = n + 1
          rw [this, t4, decide_eq_true (show (rnT p S σ t').1 = 0 from k5.1)]
          rfl
  refine b_In_tally_0 hp h.1.2.1 h.1.1 (i_open2 (R := fun _ => 0) (by omega) hp h h84 hx (fun τ hτ => b_In_tally_4 hp hτ.1.1.1.2.1 hτ.1.1.1.1 (i_demand2 (by omega) hp hτ (by decide) hτ.1.1.2.2.2.2.2.2.2.1 (fun ρ hρ => b_In_tally_15 hp hρ.1.1.1.2.1 hρ.1.1.1.1 (i_pose2 (by omega) hp hρ (fun π wc rq hP hr _ e91 => ?_))))))
  obtain ⟨-, -, -, -, y5, -⟩ := IS_z hp hτ.1
  have hIπ := hP.1
  have hQ3 := QQ_D (D' := fun u => lvb u (z σ 48 4) = true ∧ 0 ≤ cod (iW p σ) (IvN π u) (iN p σ)) hP (fun u _ => ⟨fun q => ⟨by have := q 0 (by decide); rw [up_s, y5] at this; exact this, Nat.zero_le _⟩, fun q i hi => by rw [show i = 0 by omega, up_s, y5]; exact q.1⟩)
  obtain ⟨g1, g2, g3, -, -, -⟩ := IS_z hp hIπ
  refine b_In_tally_19 hp hIπ.1.1.2.1 hIπ.1.1.1 (i_look2 (P := fun I => (runF S (z σ (p + 3)) I).1 = 0 ∧ 0 ≤ cod (iW p σ) I (iN p σ)) (by omega) hp hQ3 (by omega) (eDP π 0 hIπ hQ3.2.1) (fun ν k1 k2 k3 k4 k5 k6 => ?_) (fun ν t' u' k1 k2 k3 k4 k5 k6 k7 k8 k9 k10 k11 k12 => ?_))
  · rw [g2, g3] at k6
    have go : ∀ y : Int, inR y → J ω m_In_verdict d 0 0 0 0 0 [(0, .ref 47), (1, .int (zI y))] [] ν (q_ki (fun v τ => J ω m_In_tally (d + 1) 0 0 0 0 42 [(0, .ref 47)] [.int (zI v)] τ (q_ki K))) := fun y iy => by
      refine i_verdict2 hp k1.1.1.1 k1.1.1.2.1 iy (Or.inl k4) (b_In_tally_42 hp k1.1.1.2.1 k1.1.1.1 ?_)
      rw [k4]
      refine l 19 1 _ ν (fun _ => 0) wc rq 0 (by decide) (by decide) (by decide) (by omega) (Or.inl ⟨k4, k1, k2, k3, rfl, ?_⟩)
      have := cnE_no (f := fun t => decide ((rnT p S σ t).1 = 0)) B 0 (fun t' q1 q2 => decide_eq_false (fun q => k6 t' ⟨q, Nat.zero_le _⟩))
      rw [Nat.zero_add] at this
      exact this
    exact b_In_tally_23 hp k1.1.1.2.1 k1.1.1.1 ⟨fun _ => go 0 ⟨by decide, by decide⟩, fun _ => go 1 ⟨by decide, by decide⟩⟩
  · rw [g2, g3] at k4 k5 k6 k7
    rw [g1, g2, g3] at k9
    have k9' : z ν 87 0 = 0 := k9.trans k5.1
    rw [← hB] at k4
    have hk := k1.1
    refine b_In_tally_23 hp hk.1.1.2.1 hk.1.1.1 ⟨fun c => absurd k9' c, fun _ => ?_⟩
    refine i_verdict2 hp hk.1.1.1 hk.1.1.2.1 ⟨by decide, by decide⟩ (Or.inr ⟨k2, by decide⟩) (b_In_tally_42 hp hk.1.1.2.1 hk.1.1.1 ?_)
    rw [k2]
    have eD : ∀ w, IvN π w = IvN σ w := e61 hIπ
    simp only [eD] at k1 k3
    refine l 19 1 _ ν _ wc rq 0 (by decide) (by decide) (by decide) (by omega) (Or.inr ⟨k2, rfl, k1, t', u', k3, k4, k6, Nat.zero_le _, k7, ?_⟩)
    have := cnE_no (f := fun t => decide ((rnT p S σ t).1 = 0)) t' 0 (fun t'' q1 q2 => decide_eq_false (fun q => k6 t'' (by omega) ⟨q, Nat.zero_le _⟩))
    rw [Nat.zero_add] at this
    show cnE _ t' + (if decide ((rnT p S σ t').1 = 0) then 1 else 0) = 1
    rw [this, decide_eq_true (show (rnT p S σ t').1 = 0 from k5.1)]
    rfl
end I7J
