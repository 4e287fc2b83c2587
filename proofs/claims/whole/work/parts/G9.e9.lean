/-! THE ENCODER: the prices, and what a PROGRAM's circuit says -/
theorem PRM_ex {V : Nat} (hV : V ≤ 12) : ∃ ka lam b x y T, PRM V ka lam b x y T ∧ 1300 + lam * (12 + V) + (ka * 1500 + x * 546 + y * 1638) ≤ 530608 := by
  by_cases c0 : V = 0
  · subst c0
    exact ⟨208, 0, 0, 52, 78, 0, by unfold PRM; decide, by decide⟩
  · by_cases c1 : V = 1
    · subst c1
      exact ⟨351, 48, 52, 4, 0, 1560, by unfold PRM; decide, by decide⟩
    · by_cases c9 : V ≤ 8
      · refine ⟨312, 52, 104, 0, 0, 0, ⟨⟨by omega, by decide, by decide, by decide, by decide⟩, fun _ => by decide, by omega, fun _ _ => ⟨rfl, by omega⟩, fun q => absurd q c1, fun q => absurd q c0, fun _ => rfl⟩, by omega⟩
      · refine ⟨312, 26, 104, 26, 0, 0, ⟨⟨by omega, by decide, by decide, by decide, by decide⟩, fun _ => by decide, by omega, fun _ _ => ⟨rfl, by omega⟩, fun q => absurd q c1, fun q => absurd q c0, fun _ => rfl⟩, by omega⟩
/-- the run, read off -/
theorem SM_run {S : List q_St} {W : Nat → Int} {I : Nat → Nat} {G : Bool} {U : Nat → Nat} {F : Nat → Bool} (h : SMr S W I anyR 0 S.length 0 true (fun _ => 0) (fun _ => false) G U F) (hr : ∀ R, mIt S W I 999999 (0, fun _ => 0, R) = .inr (runF S W I)) : G = decide ((runF S W I).1 = 0) ∧ ((runF S W I).1 = 0 → U = (runF S W I).2.2) ∧ ∀ k : Nat, F k = decide ((runF S W I).1 = 1 ∧ (runF S W I).2.1 = (k : Int)) := by
  rcases h.2 rfl with ⟨h1, h2, h3⟩ | ⟨a, f, U', h1, h2, h3⟩
  · obtain ⟨E, R', e1, -⟩ := h1 (fun _ => 0) trivial
    have e2 : mIt S W I (E + 1) (0, fun _ => 0, fun _ => 0) = .inr (0, -1, U) := mIt_tr E 1 _ _ _ e1 (mIt_1 (x_end (List.getElem?_eq_none (Nat.le_refl _))))
    have e3 := mIt_det (hr (fun _ => 0)) e2
    rw [e3, h2, h3]
    exact ⟨rfl, fun _ => rfl, fun k => by simp⟩
  · obtain ⟨E, e1⟩ := h1 (fun _ => 0) trivial
    have e3 := mIt_det (hr (fun _ => 0)) e1
    rw [e3, h2]
    rcases h3 with ⟨ha, g, hf, hF⟩ | ⟨ha, hF⟩
    · subst ha hf
      refine ⟨by simp, fun q => absurd q (by show ¬ (1 : Int) = 0; decide), fun k => ?_⟩
      rw [hF]
      unfold upq
      by_cases c : k = g
      · rw [if_pos c, c]; simp
      · rw [if_neg c]
        have : ¬ ((1 : Int) = 1 ∧ (g : Int) = (k : Int)) := fun q => c (by have := q.2; omega)
        exact (decide_eq_false this).symm
    · subst ha
      refine ⟨by simp, fun q => absurd q (by show ¬ (2 : Int) = 0; decide), fun k => ?_⟩
      rw [hF]
      simp
/-- what a PROGRAM's circuit says of each run -/
def ENs (V : Nat) (WU : Nat → Int) (S : List q_St) (σ : q_H) (s : Nat) : Prop :=
  (s ≤ 10210 ∧ ∀ j : Nat, j < 96 → 2 ≤ z σ 61 j → z σ 51 (gt (z σ 61 j)) = 0) ∧ (∀ i, i < V → wdt (fun j => z σ 62 (8 * i + j)) (WU i).toNat) ∧ ∀ v, CSv s σ v → lvb v (z σ 48 4) = decide ((runF S WU (IvN σ v)).1 = 0) ∧ ((runF S WU (IvN σ v)).1 = 0 → UvN σ v = (runF S WU (IvN σ v)).2.2) ∧ (∀ k : Nat, k < 512 → lvb v (z σ 63 k) = decide ((runF S WU (IvN σ v)).1 = 1 ∧ (runF S WU (IvN σ v)).2.1 = (k : Int))) ∧ lvb v (z σ 48 6) = decide ((runF S WU (IvN σ v)).1 = 1)
def ENC (V : Nat) (WU : Nat → Int) (S : List q_St) (σ : q_H) (s : Nat) : Prop := HI s σ ∧ ENs V WU S σ s
theorem ENs_cong {V : Nat} {WU : Nat → Int} {S : List q_St} {σ τ : q_H} {s : Nat} (h : ENs V WU S σ s) (e48 : z τ 48 = z σ 48) (e51 : z τ 51 = z σ 51) (e52 : z τ 52 = z σ 52) (e53 : z τ 53 = z σ 53) (e54 : z τ 54 = z σ 54) (e61 : z τ 61 = z σ 61) (e62 : z τ 62 = z σ 62) (e63 : z τ 63 = z σ 63) : ENs V WU S τ s := by
  obtain ⟨h1, h2, h3⟩ := h
  refine ⟨⟨h1.1, by rw [e51, e61]; exact h1.2⟩, by rw [e62]; exact h2, fun v cv => ?_⟩
  rw [IvN_cg e61, UvN_cg (σ := σ) (τ := τ) (fun j _ => by rw [e62]), e48, e63]
  exact h3 v (CSv_z e51 e52 e53 e54 cv)
section EsP
variable {ω : q_W} {d p V : Nat} {σ σ0 : q_H} {WI WU : Nat → Int} {S : List q_St}
theorem k_clear {K : q_H → Prop} (hd : 1 ≤ d) (hE : q_E σ) (kk : ∀ τ, fr [50, 57] σ τ → CI 1 τ → LFq 1 τ (z σ 50 8) → K τ) : J ω m_Ci_clear d 0 0 0 0 0 [(0, .ref 50)] [] σ (q_kv K) := by
  obtain ⟨d, rfl⟩ : ∃ k, d = k + 1 := ⟨d - 1, by omega⟩
  have e : ∀ b, b < 8192 → z (zs (zfl σ 57 8192 0) 50 7 1) 57 b = 0 := fun b hb => by rw [z_o (by decide)]; exact z_fl ⟨by decide, by decide⟩ hb
  refine b_Ci_clear_0 hE ⟨rfl, kk _ (fr_s (fr_f fr_refl (by simp)) (by simp)) ⟨z_s ⟨by decide, by decide⟩, ⟨by decide, by decide⟩, fun b hb => ?_, fun g h1 h2 => absurd h2 (by omega)⟩ ⟨fun g h1 h2 => absurd h1 (by omega), e, by rw [z_k (by decide), z_fl_o (by decide)]⟩⟩
  rw [e b hb]
  exact ⟨by decide, by decide, fun c => absurd rfl c⟩
/-- the INPUTS' rows, to be looked at -/
def inL (τ : q_H) (w : Nat → Int) : Nat → q_Lr
  | 0 => []
  | i + 1 => (fun j => z τ 61 (8 * i + j), (w i).toNat - 1) :: inL τ w i
theorem inL_sum {τ : q_H} {w : Nat → Int} : ∀ n, (∀ i, i < n → 0 ≤ w i) → (lsum (inL τ w n) : Int) ≤ sm w n
  | 0, _ => by show ((0 : Nat) : Int) ≤ 0; decide
  | n + 1, h => by
    have := inL_sum n (fun i hi => h i (by omega)) (τ := τ)
    have := h n (by omega)
    show ((((w n).toNat - 1) + lsum (inL τ w n) : Nat) : Int) ≤ sm w n + w n
    omega
theorem inL_mem {τ : q_H} {w : Nat → Int} {i : Nat} : ∀ n, i < n → ((fun j => z τ 61 (8 * i + j), (w i).toNat - 1) : (Nat → Int) × Nat) ∈ inL τ w n
  | n + 1, h => by
    by_cases c : i = n
    · subst c; exact List.mem_cons_self
    · exact List.mem_cons_of_mem _ (inL_mem n (by omega))
/-- one assertion or another fails -/
theorem k_rest {K : q_H → Prop} {s : Nat} (hd : 3 ≤ d) (hp : p = 16 ∨ p = 29) (h0 : NX p 0 False σ0 σ s) (hH : HI s σ) (h512 : z σ p 7 ≤ 512) (hs : s + nf σ < 10240) (e6 : z σ 48 6 = 1)
    (kk : ∀ τ s', NX p 0 False σ0 τ s' → lit s' (z τ 48 6) → ME s s' σ τ → s' ≤ s + nf σ → (∀ o, 58 ≤ o → z τ o = z σ o) → (∀ j, j ≠ 6 → j ≠ 7 → z τ 48 j = z σ 48 j) → z τ 48 7 = (s' : Int) → (∀ v, CSv s' τ v → (lvb v (z τ 48 6) = true ↔ ∃ k : Nat, (k : Int) < z σ p 7 ∧ lvb v (z σ 63 k) = true)) → K τ) : J ω m_En_encode (d + 1) 0 0 0 0 121 [(0, .ref 48), (3, .int (zI 0))] [] σ (q_kv K) := by
  have out : ∀ (i : Nat) (ρ : q_H) (t : Nat), z σ p 7 ≤ (i : Int) → (i : Int) ≤ max 0 (z σ p 7) → NX p 0 False σ0 ρ t → lit t (z ρ 48 6) → ME s t σ ρ → t ≤ s + nf σ → (∀ o, 58 ≤ o → z ρ o = z σ o) → (∀ j, j ≠ 6 → z ρ 48 j = z σ 48 j) → (∀ v, CSv t ρ v → (lvb v (z ρ 48 6) = true ↔ ∃ k : Nat, k < i ∧ lvb v (z σ 63 k) = true)) → q_kv K (.inl none) (zs ρ 48 7 (z ρ 50 7)) := by
    intro i ρ t hi hi2 h l6 hm hb ho h48 hv
    have hc := h.2.2.1
    have hs := hc.2.1
    have w := NX_w (o := 48) (k := 7) (e := z ρ 50 7) hp h (Or.inl rfl) (fun _ => by decide) (fun c => absurd c (by omega)) (fun _ c => absurd c (by decide))
    have m : ME t t ρ (zs ρ 48 7 (z ρ 50 7)) := ME_z (fun o q1 q2 => z_oF (by omega)) hm.1
    refine ⟨rfl, kk _ t w (by rw [z_k (by decide)]; exact l6) (ME_tr hm m) hb (fun o q => by rw [z_oF (by omega), ho o q]) (fun j q1 q2 => by rw [z_k q2, h48 j q1]) (by rw [z_s (z_R _ _ _)]; exact hc.1) (fun v cv => ?_)⟩
    rw [z_k (by decide), hv v (CSv_GM cv m.2.2)]
    constructor
    · intro ⟨k, q1, q2⟩; exact ⟨k, by omega, q2⟩
    · intro ⟨k, q1, q2⟩; exact ⟨k, by omega, q2⟩
  have l : ∀ (m i : Nat) (ρ : q_H) (t : Nat), 512 ≤ i + m → (i : Int) ≤ max 0 (z σ p 7) → NX p 0 False σ0 ρ t → lit t (z ρ 48 6) → ME s t σ ρ → t ≤ s + dfc (z σ 63) (fun _ => 1) i → (∀ o, 58 ≤ o → z ρ o = z σ o) → (∀ j, j ≠ 6 → z ρ 48 j = z σ 48 j) → (∀ v, CSv t ρ v → (lvb v (z ρ 48 6) = true ↔ ∃ k : Nat, k < i ∧ lvb v (z σ 63 k) = true)) → J ω m_En_encode (d + 1) 0 0 0 0 121 [(0, .ref 48), (3, .int (zI (i : Int)))] [] ρ (q_kv K) := by
    intro m
    induction m with
    | zero =>
      intro i ρ t hi hi2 h l6 hm hb ho h48 hv
      have e7 : z ρ p 7 = z σ p 7 := by rw [EI_p hp h (Nat.le_refl _) (by omega), EI_p hp h0 (Nat.le_refl _) (by omega)]
      have dm := dfc_mono (f := z σ 63) (g := fun _ => 1) (show i ≤ 512 by omega)
      refine b_En_encode_121 hp h.1.2 h.1.1 ?_
      rw [e7]
      exact ⟨⟨by omega, by omega⟩, fun c => out i ρ t c hi2 h l6 hm (by unfold nf; omega) ho h48 hv, fun c => absurd c (by omega)⟩
    | succ m ih =>
      intro i ρ t hi hi2 h l6 hm hb ho h48 hv
      have e7 : z ρ p 7 = z σ p 7 := by rw [EI_p hp h (Nat.le_refl _) (by omega), EI_p hp h0 (Nat.le_refl _) (by omega)]
      have dm := dfc_mono (f := z σ 63) (g := fun _ => 1) (show i ≤ 512 by omega)
      have nf' : dfc (z σ 63) (fun _ => 1) 512 = nf σ := rfl
      refine b_En_encode_121 hp h.1.2 h.1.1 ?_
      rw [e7]
      refine ⟨⟨by omega, by omega⟩, fun c => out i ρ t c hi2 h l6 hm (by omega) ho h48 hv, fun c => ⟨⟨by omega, by omega⟩, ?_⟩⟩
      rw [Int.toNat_natCast]
      have s10 := NX_s h
      refine k_or (by omega) h.1.1 h.2.2.1 hm.1 (by omega) l6 (h.2.2.2.2.1 i (by omega)) (fun r τ t2 g b2 lr Vr _ tr => b_En_encode_153 hp (by rw [fr_r g.1.1]; exact h.1.2) (fr_E g.1.1 h.1.1) ?_)
      have n2 := NX_CE hp h g.1
      have o2 : ∀ a, a = 48 ∨ 58 ≤ a → z τ a = z ρ a := fun a ha => fr_zF g.1.1 (by simp; omega)
      have w := NX_w (o := 48) (k := 6) (e := r) hp n2 (Or.inl rfl) (fun _ => by decide) (fun c => absurd c (by omega)) (fun _ c => absurd c (by decide))
      have mz : ME t2 t2 τ (zs τ 48 6 r) := ME_z (fun o q1 q2 => z_oF (by omega)) g.2.1
      have rR := lit_R (NX_s n2).2 lr
      rw [show (i : Int) + 1 = ((i + 1 : Nat) : Int) by omega]
      refine ih (i + 1) _ t2 (by omega) (by omega) w (by rw [z_s rR]; exact lr) (ME_tr (ME_tr hm (ME_CX g)) mz) ?_ (fun o q => by rw [z_oF (by omega), o2 o (Or.inr q), ho o q]) (fun j q => by rw [z_k q, o2 48 (Or.inl rfl), h48 j q]) (fun v cv => ?_)
      · show t2 ≤ s + (dfc (z σ 63) (fun _ => 1) i + (if z σ 63 i = 1 then 0 else 1))
        by_cases ci : z σ 63 i = 1
        · rw [if_pos ci]
          have := (tr (by rw [ho 63 (by decide)]; exact ci)).2
          omega
        · rw [if_neg ci]; omega
      · have cv2 := CSv_GM cv mz.2.2
        rw [z_s rR, Vr v cv2, ho 63 (by decide), Bool.or_eq_true, hv v (CSv_2 cv2 g)]
        constructor
        · intro q
          rcases q with ⟨k, q1, q2⟩ | q
          · exact ⟨k, by omega, q2⟩
          · exact ⟨i, by omega, q⟩
        · intro ⟨k, q1, q2⟩
          by_cases ck : k = i
          · subst ck; exact Or.inr q2
          · exact Or.inl ⟨k, by omega, q2⟩
  have s10 := NX_s h0
  refine l 512 0 σ s (by decide) (by omega) h0 (by rw [e6]; exact ⟨by decide, by omega⟩) (ME_refl hH) (by show s ≤ s + 0; omega) (fun _ _ => rfl) (fun _ _ => rfl) (fun v cv => ?_)
  rw [e6, lvb_1 cv.1]
  constructor
  · intro q; cases q
  · intro ⟨k, q, _⟩; omega
end EsP
