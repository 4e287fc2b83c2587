/-! THE REFERENCE: all INPUTS, one after the other -/
theorem zB_and : ∀ y : Nat, y < 256 → zAnd (zB (zB (y : Int))) 255 = (y : Int) := by decide +kernel
theorem zB_3 : ∀ y : Nat, y < 3 → zB (zB (y : Int)) = (y : Int) := by decide +kernel
theorem spr_cg {w w' : Nat → Nat} : ∀ n t i, (∀ j, j < n → w j = w' j) → spr w n t i = spr w' n t i
  | 0, _, _, _ => rfl
  | n + 1, t, i, h => by
    show (if i = n then t % 2 ^ w n else spr w n (t / 2 ^ w n) i) = (if i = n then t % 2 ^ w' n else spr w' n (t / 2 ^ w' n) i)
    rw [h n (by omega), spr_cg n _ i (fun j hj => h j (by omega))]
section RaJ
variable {ω : q_W} {d p s V w : Nat} {WI : Nat → Int} {Nt : Nat → q_It} {S : List q_St} {σ : q_H}
/-- the widths of INPUTS, as the reference has them -/
def RWd (p : Nat) (σ : q_H) : Prop := z σ 94 26 = ((iN p σ : Nat) : Int) ∧ iN p σ ≤ 12 ∧ (∀ i, i < iN p σ → z σ 106 i = ((iW p σ i : Nat) : Int) ∧ 1 ≤ iW p σ i ∧ iW p σ i ≤ 8) ∧ z σ 94 29 = ((smn (iW p σ) (iN p σ) : Nat) : Int) ∧ smn (iW p σ) (iN p σ) ≤ 12
theorem k_spread {K : q_H → Prop} {t t0 : Nat} (hd : 1 ≤ d) (hq : RQ s σ) (ht : t = 125 ∨ t = 126 ∨ t = 127) (hw : RWd p σ) (h0 : t0 < 2147483648) (kk : ∀ τ, fr [t] σ τ → (∀ i, i < iN p σ → z τ t i = ((spr (iW p σ) (iN p σ) t0 i : Nat) : Int)) → (∀ i, iN p σ ≤ i → z τ t i = z σ t i) → K τ) : J ω m_M_spread d 0 0 0 0 0 [(0, .ref 94), (1, .int (zI (t0 : Int))), (2, .ref t)] [] σ (q_kv K) := by
  obtain ⟨d, rfl⟩ : ∃ k, d = k + 1 := ⟨d - 1, by omega⟩
  obtain ⟨w1, w2, w3, -⟩ := hw
  have l : ∀ (k x3 : Nat) (ρ : q_H), k ≤ iN p σ → x3 < 2147483648 → fr [t] σ ρ → (∀ i, k ≤ i → i < iN p σ → z ρ t i = ((spr (iW p σ) (iN p σ) t0 i : Nat) : Int)) → (∀ i, i < k → spr (iW p σ) (iN p σ) t0 i = spr (iW p σ) k x3 i) → (∀ i, iN p σ ≤ i → z ρ t i = z σ t i) → J ω m_M_spread (d + 1) 0 0 0 0 10 [(0, .ref 94), (2, .ref t), (3, .int (zI (x3 : Int))), (4, .int (zI ((k : Int) - 1)))] [] ρ (q_kv K) := by
    intro k
    induction k with
    | zero =>
      intro x3 ρ _ hx f h1 h2 h3
      obtain ⟨⟨hs, r0, r1, r2, r3, r4, r5⟩, -⟩ := id hq
      exact b_M_spread_10 hs (by rw [fr_r f]; exact r0) (by rw [fr_r f]; exact r1) (by rw [fr_r f]; exact r2) (by rw [fr_r f]; exact r3) (by rw [fr_r f]; exact r4) (by rw [fr_r f]; exact r5) ht (fr_E f hq.2) ⟨⟨by omega, by omega⟩, fun _ => ⟨rfl, kk ρ f (fun i hi => h1 i (by omega) hi) h3⟩, fun c => absurd c (by omega)⟩
    | succ k ih =>
      intro x3 ρ hk hx f h1 h2 h3
      obtain ⟨⟨hs, r0, r1, r2, r3, r4, r5⟩, -⟩ := id hq
      obtain ⟨wk, wa, wb⟩ := w3 k (by omega)
      have n106 : z ρ 106 k = ((iW p σ k : Nat) : Int) := by rw [fr_zF f (by simp; omega)]; exact wk
      refine b_M_spread_10 hs (by rw [fr_r f]; exact r0) (by rw [fr_r f]; exact r1) (by rw [fr_r f]; exact r2) (by rw [fr_r f]; exact r3) (by rw [fr_r f]; exact r4) (by rw [fr_r f]; exact r5) ht (fr_E f hq.2) ?_
      rw [show ((k + 1 : Nat) : Int) - 1 = (k : Int) by omega, Int.toNat_natCast, n106]
      refine ⟨⟨by omega, by omega⟩, fun c => absurd c (by omega), fun _ => ⟨⟨by omega, by omega⟩, ⟨by omega, by omega⟩, ?_⟩⟩
      have p1 : 1 ≤ 2 ^ iW p σ k := Nat.two_pow_pos _
      have p8 : 2 ^ iW p σ k ≤ 2 ^ 8 := Nat.pow_le_pow_right (by decide) wb
      rw [zShl_1 (iW p σ k) (by omega), zShr_e ⟨by omega, by omega⟩ (by omega), show (2 : Int) ^ iW p σ k - 1 = ((2 ^ iW p σ k - 1 : Nat) : Int) by
        have : ((2 ^ iW p σ k : Nat) : Int) = (2 : Int) ^ iW p σ k := by simp
        omega, zAnd_mod wb, show (x3 : Int) / 2 ^ iW p σ k = ((x3 / 2 ^ iW p σ k : Nat) : Int) by simp, show (x3 : Int) % ((2 ^ iW p σ k : Nat) : Int) = ((x3 % 2 ^ iW p σ k : Nat) : Int) by simp]
      have md := Nat.mod_lt x3 p1
      have dv := Nat.div_le_self x3 (2 ^ iW p σ k)
      have zu : z (zs ρ t k ((x3 % 2 ^ iW p σ k : Nat) : Int)) t = up (z ρ t) k ((x3 % 2 ^ iW p σ k : Nat) : Int) := z_up ⟨by omega, by omega⟩
      refine ih (x3 / 2 ^ iW p σ k) _ (by omega) (by omega) (fr_s f (by simp)) (fun i a b => ?_) (fun i hi => ?_) (fun i hi => ?_)
      · rw [zu]
        by_cases e : i = k
        · rw [e, up_s, h2 k (by omega)]
          show _ = (((if k = k then x3 % 2 ^ iW p σ k else _) : Nat) : Int)
          rw [if_pos rfl]
        · rw [up_n e]; exact h1 i (by omega) b
      · rw [h2 i (by omega)]
        show (if i = k then _ else spr (iW p σ) k (x3 / 2 ^ iW p σ k) i) = _
        rw [if_neg (by omega)]
      · rw [zu, up_n (by omega)]; exact h3 i hi
  obtain ⟨⟨hs, r0, r1, r2, r3, r4, r5⟩, hE⟩ := id hq
  refine b_M_spread_0 hs r0 r1 r2 r3 r4 r5 ht hE ?_
  rw [w1]
  exact l (iN p σ) t0 σ (Nat.le_refl _) h0 fr_refl (fun i a b => absurd b (by omega)) (fun _ _ => rfl) (fun _ _ => rfl)
/-- what the reference's runs need -/
def RPg (p s V : Nat) (WI : Nat → Int) (Nt : Nat → q_It) (S : List q_St) (w : Nat) (σ : q_H) : Prop :=
  RQ s σ ∧ z σ 94 65 = 0 ∧ (∀ t v w, Nt t = (25, v, w) → cI WI (z σ (p + 3)) V (25, v, w)) ∧ ND2 Nt V s σ S w ∧ (sP WI (z σ (p + 3)) V S ∧ S.length ≤ 1638 ∧ w ≤ 1500) ∧ (∀ I, ((runF S (z σ (p + 3)) I).1 = 0 → uO (z σ (p + 3)) (runF S (z σ (p + 3)) I).2.2) ∧ ∀ R, mIt S (z σ (p + 3)) I 999999 (0, fun _ => 0, R) = .inr (runF S (z σ (p + 3)) I)) ∧ (∀ i : Nat, i < 12 → ((i : Int) < z σ p 0 ∧ WI i = z σ (p + 1) i) ∨ 31 ≤ WI i) ∧ n16 (z σ 125) ∧ RWd p σ ∧ (V ≤ 12 ∧ ∀ v, v < V → z σ (p + 3) v ≤ 8)
theorem RPg_fr {τ : q_H} (hp : p = 16 ∨ p = 29) (h : RPg p s V WI Nt S w σ) (f : fr [94, 122, 123, 124, 125, 126, 127, 128, 129, 130, 131] σ τ) (fk : ∀ k, k ∈ [65, 45, 26, 29] → z τ 94 k = z σ 94 k) (hn : n16 (z τ 125)) : RPg p s V WI Nt S w τ := by
  obtain ⟨⟨⟨hs, r0, r1, r2, r3, r4, r5⟩, hE⟩, h2, h3, h4, h5, h6, h7, -, ⟨d1, d2, d3, d4, d5⟩, h10⟩ := h
  have e : ∀ a, a ∉ [94, 122, 123, 124, 125, 126, 127, 128, 129, 130, 131] → z τ a = z σ a := fun a ha => fr_zF f ha
  have e3 := e (p + 3) (by simp; omega)
  have e1 := e (p + 1) (by simp; omega)
  have e0 := e p (by simp; omega)
  have iw : iW p τ = iW p σ := by unfold iW; rw [e1]
  have inn : iN p τ = iN p σ := by unfold iN; rw [e0]
  unfold RPg RWd
  rw [e3, e1, e0, iw, inn, fk 65 (by simp), fk 26 (by simp), fk 29 (by simp), e 106 (by decide)]
  refine ⟨⟨⟨hs, ?_⟩, fr_E f hE⟩, h2, h3, ND2_cong h4 (fun o ho => e o (by simp; omega)) (fk 45 (by simp)), h5, h6, h7, hn, ⟨d1, d2, d3, d4, d5⟩, h10⟩
  rw [fr_r f, fr_r f, fr_r f, fr_r f, fr_r f, fr_r f]
  exact ⟨r0, r1, r2, r3, r4, r5⟩
theorem k_run2 {Kk : Int → q_H → Prop} (hd : 860 ≤ d) (h : RPg p s V WI Nt S w σ) (hI : ∀ i : Nat, (i : Int) < z σ p 0 → z σ 125 i < 2 ^ (z σ (p + 1) i).toNat) (kk : ∀ τ, RWs s σ τ (runF S (z σ (p + 3)) (nw (z σ 125))).2.1 → nw (z τ 128) = (runF S (z σ (p + 3)) (nw (z σ 125))).2.2 → (0 ≤ (runF S (z σ (p + 3)) (nw (z σ 125))).1 ∧ (runF S (z σ (p + 3)) (nw (z σ 125))).1 ≤ 2) → Kk (runF S (z σ (p + 3)) (nw (z σ 125))).1 τ) : J ω m_M_runWhole d 0 0 0 0 0 [(0, .ref 94)] [] σ (q_ki Kk) := by
  obtain ⟨h1, h2, h3, ⟨ns, n1, n2, n3⟩, ⟨h5, h5b, h5c⟩, h6, h7, h8, h9, -⟩ := h
  refine k_runWhole (R := fun _ => 0) h1 ⟨h2, h8, fun i hi => ?_, h3⟩ n1 n2 n3 ⟨by decide, by decide⟩ h5 h5b h5c (fun i => Nat.two_pow_pos _) hd (fun τ v f E hr hm hv _ => ?_)
  · unfold nw
    rw [if_pos hi]
    rcases h7 i hi with ⟨q1, q2⟩ | q
    · rw [q2]
      have a := hI i q1
      have b := h8 i (by omega)
      have e : ((2 ^ (z σ (p + 1) i).toNat : Nat) : Int) = (2 : Int) ^ (z σ (p + 1) i).toNat := by simp
      omega
    · have := (z_R σ 125 i).2
      have p9 : 2 ^ 31 ≤ 2 ^ (WI i).toNat := Nat.pow_le_pow_right (by decide) (by omega)
      omega
  · have e := mIt_det hm ((h6 (nw (z σ 125))).2 (fun _ => 0))
    have k := kk τ (by rw [← e]; exact hr) (by rw [← e]) (by rw [← e]; exact hv)
    rw [← e] at k
    exact k
/-- one run after another, noted -/
theorem k_questions {K : Int → q_H → Prop} (hd : 870 ≤ d) (hp : p = 16 ∨ p = 29) (h : RPg p s V WI Nt S w σ) (h31 : z σ 94 31 ≠ 0) (h27 : z σ 94 27 = (V : Int)) (hT : TBq p V S σ) (kk : ∀ τ, fr [94, 122, 123, 124, 125, 128, 130, 131] σ τ → (∀ k, k ≠ 55 → k ≠ 61 → z τ 94 k = z σ 94 k) → n16 (z τ 125) → z τ 94 55 = 1 → (∀ t, t < 2 ^ smn (iW p σ) (iN p σ) → z τ 122 t = (rnT p S σ t).1 ∧ z τ 131 t = (rnT p S σ t).2.1 ∧ ((rnT p S σ t).1 = 0 → ∀ v, v < V → zAnd (z τ 124 (12 * t + v)) 255 = (((rnT p S σ t).2.2 v : Nat) : Int))) → K 1 τ) : J ω m_M_questions d 0 0 0 0 0 [(0, .ref 94)] [] σ (q_ki K) := by
  obtain ⟨d, rfl⟩ : ∃ k, d = k + 1 := ⟨d - 1, by omega⟩
  obtain ⟨⟨⟨hs, r0, r1, r2, r3, r4, r5⟩, hE⟩, -, -, -, -, hrun, -, hn16, ⟨w1, w2, w3, w4, w5⟩, v12, v8⟩ := id h
  have ret1 : ∀ τ, K 1 τ → q_ki K (.inl (some (.int (zI 1)))) τ := fun τ q => ⟨1, ⟨by decide, by decide⟩, rfl, q⟩
  refine b_M_questions_0 hs r0 r1 r2 r3 r4 r5 hE ⟨fun _ => ⟨fun c => ?_, fun c => ?_⟩, fun c => absurd c h31⟩
  rotate_left
  · rcases hT with q | ⟨q1, q2⟩
    · exact absurd q c
    · exact ret1 σ (kk σ fr_refl (fun _ _ _ => rfl) hn16 q1 q2)
  obtain ⟨B, hB⟩ : ∃ B, B = smn (iW p σ) (iN p σ) := ⟨_, rfl⟩
  rw [← hB] at w4 w5 kk
  have eS : zShl 1 (B : Int) = 2 ^ B := zShl_1 B (by omega)
  have eP : ((2 ^ B : Nat) : Int) = (2 : Int) ^ B := by simp
  have b12 : 2 ^ B ≤ 2 ^ 12 := Nat.pow_le_pow_right (by decide) w5
  have l : ∀ (m t : Nat) (ρ : q_H), 2 ^ B ≤ t + m → t ≤ 2 ^ B → fr [94, 122, 123, 124, 125, 128, 130, 131] σ ρ → (∀ k, k ≠ 55 → k ≠ 61 → z ρ 94 k = z σ 94 k) → n16 (z ρ 125) → z ρ 94 55 = 1 → (∀ t', t' < t → z ρ 122 t' = (rnT p S σ t').1 ∧ z ρ 131 t' = (rnT p S σ t').2.1 ∧ ((rnT p S σ t').1 = 0 → ∀ v, v < V → zAnd (z ρ 124 (12 * t' + v)) 255 = (((rnT p S σ t').2.2 v : Nat) : Int))) → J ω m_M_questions (d + 1) 0 0 0 0 25 [(0, .ref 94), (1, .int (zI (t : Int)))] [] ρ (q_ki K) := by
    intro m
    induction m with
    | zero =>
      intro t ρ a1 a2 f fk hn h55 hT'
      have e94 : z ρ 94 29 = (B : Int) := by rw [fk 29 (by decide) (by decide)]; exact w4
      refine b_M_questions_25 hs (by rw [fr_r f]; exact r0) (by rw [fr_r f]; exact r1) (by rw [fr_r f]; exact r2) (by rw [fr_r f]; exact r3) (by rw [fr_r f]; exact r4) (by rw [fr_r f]; exact r5) (fr_E f hE) ?_
      rw [e94, eS]
      exact ⟨⟨by omega, by omega⟩, fun _ => ret1 ρ (kk ρ f fk hn h55 (fun t' ht' => hT' t' (by omega))), fun c => absurd c (by omega)⟩
    | succ m ih =>
      intro t ρ a1 a2 f fk hn h55 hT'
      have e94 : z ρ 94 29 = (B : Int) := by rw [fk 29 (by decide) (by decide)]; exact w4
      refine b_M_questions_25 hs (by rw [fr_r f]; exact r0) (by rw [fr_r f]; exact r1) (by rw [fr_r f]; exact r2) (by rw [fr_r f]; exact r3) (by rw [fr_r f]; exact r4) (by rw [fr_r f]; exact r5) (fr_E f hE) ?_
      rw [e94, eS]
      refine ⟨⟨by omega, by omega⟩, fun c => ret1 ρ (kk ρ f fk hn h55 (fun t' ht' => hT' t' (by omega))), fun c => ?_⟩
      have tl : t < 2 ^ B := by omega
      have hρ : RPg p s V WI Nt S w ρ := RPg_fr hp h (fr_mono f (by simp)) (fun k hk => fk k (by rintro rfl; simp at hk) (by rintro rfl; simp at hk)) hn
      have e0 : z ρ p = z σ p := fr_zF f (by simp; omega)
      have e1 : z ρ (p + 1) = z σ (p + 1) := fr_zF f (by simp; omega)
      have iw : iW p ρ = iW p σ := by unfold iW; rw [e1]
      have inn : iN p ρ = iN p σ := by unfold iN; rw [e0]
      refine k_spread (p := p) (by omega) hρ.1 (Or.inl rfl) hρ.2.2.2.2.2.2.2.2.1 (by omega) (fun ρ1 f1 s1 s2 => ?_)
      rw [iw, inn] at s1
      rw [inn] at s2
      have g1 : fr [94, 122, 123, 124, 125, 128, 130, 131] σ ρ1 := fr_trans f (fr_mono f1 (by simp))
      have n1 : n16 (z ρ1 125) := fun i hi => by
        by_cases c : i < iN p σ
        · rw [s1 i c]; omega
        · rw [s2 i (by omega)]; exact hn i hi
      have k1 : ∀ k, k ≠ 55 → k ≠ 61 → z ρ1 94 k = z σ 94 k := fun k a b => by rw [fr_zF f1 (by decide)]; exact fk k a b
      have hρ1 : RPg p s V WI Nt S w ρ1 := RPg_fr hp h (fr_mono g1 (by simp)) (fun k hk => k1 k (by rintro rfl; simp at hk) (by rintro rfl; simp at hk)) n1
      have e01 : z ρ1 p = z σ p := fr_zF g1 (by simp; omega)
      have e11 : z ρ1 (p + 1) = z σ (p + 1) := fr_zF g1 (by simp; omega)
      have e31 : z ρ1 (p + 3) = z σ (p + 3) := fr_zF g1 (by simp; omega)
      have same : ∀ j, j < 12 → WI j ≤ 8 → nw (z ρ1 125) j = spr (iW p σ) (iN p σ) t j := fun j hj hw => by
        rcases h.2.2.2.2.2.2.1 j hj with ⟨q, -⟩ | q
        · unfold nw
          rw [if_pos hj, s1 j (by unfold iN; omega), Int.toNat_natCast]
        · omega
      have rc := runF_cong2 (S := S) (W := z σ (p + 3)) (fun x hx => (h.2.2.2.2.1.1 x hx).1) same
      refine b_M_questions_44 hs (by rw [fr_r g1]; exact r0) (by rw [fr_r g1]; exact r1) (by rw [fr_r g1]; exact r2) (by rw [fr_r g1]; exact r3) (by rw [fr_r g1]; exact r4) (by rw [fr_r g1]; exact r5) (fr_E g1 hE) (k_run2 (by omega) hρ1 (fun i hi => ?_) (fun ρ2 hr hu hv => ?_))
      · rw [e01] at hi
        have ci : i < iN p σ := by unfold iN; omega
        rw [s1 i ci, e11]
        have := spr_lt (w := iW p σ) (iN p σ) t i ci
        have e : ((2 ^ (z σ (p + 1) i).toNat : Nat) : Int) = (2 : Int) ^ (z σ (p + 1) i).toNat := by simp
        have e' : 2 ^ iW p σ i = 2 ^ (z σ (p + 1) i).toNat := rfl
        omega
      · rw [e31, rc] at hr hu hv ⊢
        have hrn : runF S (z σ (p + 3)) (spr (iW p σ) (iN p σ) t) = rnT p S σ t := rfl
        rw [hrn] at hr hu hv ⊢
        obtain ⟨f2, k2, z61, p128⟩ := hr
        have g2 : fr [94, 122, 123, 124, 125, 128, 130, 131] σ ρ2 := fr_trans g1 (fr_mono f2 (by simp))
        have R61 : inR (z ρ2 94 61) := z_R _ _ _
        have vB : zB (zB (rnT p S σ t).1) = (rnT p S σ t).1 := by
          have := zB_3 (rnT p S σ t).1.toNat (by omega)
          rw [show (((rnT p S σ t).1.toNat : Nat) : Int) = (rnT p S σ t).1 by omega] at this
          exact this
        refine b_M_questions_53 hs (by rw [fr_r g2]; exact r0) (by rw [fr_r g2]; exact r1) (by rw [fr_r g2]; exact r2) (by rw [fr_r g2]; exact r3) (by rw [fr_r g2]; exact r4) (by rw [fr_r g2]; exact r5) (fr_E g2 hE) ⟨⟨by omega, by omega⟩, ⟨by omega, by omega⟩, ?_⟩
        rw [Int.toNat_natCast, vB]
        have q122 : ∀ i, z (zs (zs (zs ρ2 122 t (rnT p S σ t).1) 123 t (zB (zB (min (z ρ2 94 61) 127)))) 131 t (z ρ2 94 61)) 122 i = up (z ρ2 122) t (rnT p S σ t).1 i := fun i => by
          rw [z_o (by decide), z_o (by decide), z_up ⟨by omega, by omega⟩]
        have q131 : ∀ i, z (zs (zs (zs ρ2 122 t (rnT p S σ t).1) 123 t (zB (zB (min (z ρ2 94 61) 127)))) 131 t (z ρ2 94 61)) 131 i = up (z ρ2 131) t (z ρ2 94 61) i := fun i => by
          rw [z_up R61, z_oF (by decide), z_oF (by decide)]
        have qo : ∀ o, o ≠ 122 → o ≠ 123 → o ≠ 131 → z (zs (zs (zs ρ2 122 t (rnT p S σ t).1) 123 t (zB (zB (min (z ρ2 94 61) 127)))) 131 t (z ρ2 94 61)) o = z ρ2 o := fun o a b c => by
          rw [z_oF c, z_oF b, z_oF a]
        have f3 : fr [122, 123, 131] ρ2 (zs (zs (zs ρ2 122 t (rnT p S σ t).1) 123 t (zB (zB (min (z ρ2 94 61) 127)))) 131 t (z ρ2 94 61)) := fr_s (fr_s (fr_s fr_refl (by simp)) (by simp)) (by simp)
        generalize zs (zs (zs ρ2 122 t (rnT p S σ t).1) 123 t (zB (zB (min (z ρ2 94 61) 127)))) 131 t (z ρ2 94 61) = ρ3 at q122 q131 qo f3 ⊢
        have g3 : fr [94, 122, 123, 124, 125, 128, 130, 131] σ ρ3 := fr_trans g2 (fr_mono f3 (by simp))
        have e124 : z ρ3 124 = z ρ 124 := by rw [qo 124 (by decide) (by decide) (by decide), fr_zF f2 (by decide), fr_zF f1 (by decide)]
        have l2 : ∀ (k x2 : Nat) (π : q_H), V ≤ x2 + k → x2 ≤ V → fr [124] ρ3 π → (∀ v, v < x2 → z π 124 (12 * t + v) = zB (zB (z ρ2 128 v))) → (∀ i, i < 12 * t → z π 124 i = z ρ 124 i) → J ω m_M_questions (d + 1) 0 0 0 0 83 [(0, .ref 94), (1, .int (zI (t : Int))), (2, .int (zI (x2 : Int)))] [] π (q_ki K) := by
          intro k
          have out : ∀ (x2 : Nat) (π : q_H), x2 = V → fr [124] ρ3 π → (∀ v, v < x2 → z π 124 (12 * t + v) = zB (zB (z ρ2 128 v))) → (∀ i, i < 12 * t → z π 124 i = z ρ 124 i) → J ω m_M_questions (d + 1) 0 0 0 0 25 [(0, .ref 94), (1, .int (zI ((t : Int) + 1)))] [] π (q_ki K) := fun x2 π ex f4 h1 h2 => by
            subst ex
            rw [show (t : Int) + 1 = ((t + 1 : Nat) : Int) by omega]
            have p94 : z π 94 = z ρ2 94 := by rw [fr_zF f4 (by decide), qo 94 (by decide) (by decide) (by decide)]
            refine ih (t + 1) π (by omega) (by omega) (fr_trans g3 (fr_mono f4 (by simp))) (fun k a b => by rw [p94, k2 k b]; exact k1 k a b) (by rw [fr_zF f4 (by decide), qo 125 (by decide) (by decide) (by decide), fr_zF f2 (by decide)]; exact n1) (by rw [p94, k2 55 (by decide), fr_zF f1 (by decide)]; exact h55) (fun t' ht' => ?_)
            rw [fr_zF f4 (show (122 : Nat) ∉ [124] by decide), fr_zF f4 (show (131 : Nat) ∉ [124] by decide), q122, q131]
            by_cases e : t' = t
            · subst e
              rw [up_s, up_s]
              refine ⟨rfl, z61, fun he v hv => ?_⟩
              rw [h1 v hv]
              have u1 := (hrun (spr (iW p σ) (iN p σ) t')).1 he v (by omega)
              have u2 : (rnT p S σ t').2.2 v < 2 ^ (z σ (p + 3) v).toNat := u1
              have u3 : 2 ^ (z σ (p + 3) v).toNat ≤ 2 ^ 8 := Nat.pow_le_pow_right (by decide) (by have := v8 v hv; omega)
              have u4 := congrFun hu v
              unfold nw at u4
              rw [if_pos (by omega)] at u4
              have u5 := p128 v (by omega)
              have := zB_and ((rnT p S σ t').2.2 v) (by omega)
              rw [← this, ← u4, show (((z ρ2 128 v).toNat : Nat) : Int) = z ρ2 128 v by omega]
            · obtain ⟨b1, b2, b3⟩ := hT' t' (by omega)
              rw [up_n e, up_n e, fr_zF f2 (show (122 : Nat) ∉ _ by decide), fr_zF f2 (show (131 : Nat) ∉ _ by decide), fr_zF f1 (show (122 : Nat) ∉ _ by decide), fr_zF f1 (show (131 : Nat) ∉ _ by decide)]
              refine ⟨b1, b2, fun he v hv => ?_⟩
              rw [h2 (12 * t' + v) (by omega)]
              exact b3 he v hv
          induction k with
          | zero =>
            intro x2 π c1 c2 f4 h1 h2
            have g4 := fr_trans g3 (fr_mono f4 (by simp : ∀ x ∈ [124], x ∈ [94, 122, 123, 124, 125, 128, 130, 131]))
            have p27 : z π 94 27 = (V : Int) := by rw [fr_zF f4 (by decide), qo 94 (by decide) (by decide) (by decide), k2 27 (by decide), k1 27 (by decide) (by decide)]; exact h27
            refine b_M_questions_83 hs (by rw [fr_r g4]; exact r0) (by rw [fr_r g4]; exact r1) (by rw [fr_r g4]; exact r2) (by rw [fr_r g4]; exact r3) (by rw [fr_r g4]; exact r4) (by rw [fr_r g4]; exact r5) (fr_E g4 hE) ?_
            rw [p27]
            exact ⟨⟨by omega, by omega⟩, fun _ => out x2 π (by omega) f4 h1 h2, fun c => absurd c (by omega)⟩
          | succ k ih2 =>
            intro x2 π c1 c2 f4 h1 h2
            have g4 := fr_trans g3 (fr_mono f4 (by simp : ∀ x ∈ [124], x ∈ [94, 122, 123, 124, 125, 128, 130, 131]))
            have p27 : z π 94 27 = (V : Int) := by rw [fr_zF f4 (by decide), qo 94 (by decide) (by decide) (by decide), k2 27 (by decide), k1 27 (by decide) (by decide)]; exact h27
            refine b_M_questions_83 hs (by rw [fr_r g4]; exact r0) (by rw [fr_r g4]; exact r1) (by rw [fr_r g4]; exact r2) (by rw [fr_r g4]; exact r3) (by rw [fr_r g4]; exact r4) (by rw [fr_r g4]; exact r5) (fr_E g4 hE) ?_
            rw [p27]
            refine ⟨⟨by omega, by omega⟩, fun c => out x2 π (by omega) f4 h1 h2, fun c => ⟨⟨by omega, by omega⟩, ⟨by omega, by omega⟩, ?_⟩⟩
            rw [show (12 * (t : Int) + (x2 : Int)).toNat = 12 * t + x2 by omega, Int.toNat_natCast, show (x2 : Int) + 1 = ((x2 + 1 : Nat) : Int) by omega]
            have p128' : z π 128 = z ρ2 128 := by rw [fr_zF f4 (by decide), qo 128 (by decide) (by decide) (by decide)]
            rw [p128']
            have zu : z (zs π 124 (12 * t + x2) (zB (zB (z ρ2 128 x2)))) 124 = up (z π 124) (12 * t + x2) (zB (zB (z ρ2 128 x2))) := z_up (inR_of _)
            refine ih2 (x2 + 1) _ (by omega) (by omega) (fr_s f4 (by simp)) (fun v hv => ?_) (fun i hi => ?_)
            · rw [zu]
              by_cases e : v = x2
              · rw [e, up_s]
              · rw [up_n (by omega)]; exact h1 v (by omega)
            · rw [zu, up_n (by omega)]; exact h2 i hi
        exact l2 V 0 ρ3 (by omega) (by omega) fr_refl (fun v hv => absurd hv (by omega)) (fun i _ => by rw [e124])
  refine l (2 ^ B) 0 (zs σ 94 55 1) (Nat.le_add_left _ _) (Nat.zero_le _) (fr_s fr_refl (by simp)) (fun k a _ => z_k a) (by rw [z_oF (by decide)]; exact hn16) (z_s ⟨by decide, by decide⟩) (fun t' ht' => absurd ht' (by omega))
end RaJ
