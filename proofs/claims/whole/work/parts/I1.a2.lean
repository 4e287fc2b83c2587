/-! INQUIRY: what stands between questions, and while one is put together -/
def MKq (σ0 σ : q_H) : Prop := z σ 50 8 = z σ0 50 8 ∧ z σ 47 10 = z σ0 47 10 ∧ MSs σ0 σ
def EXq (p s0 s V : Nat) (WI : Nat → Int) (S : List q_St) (σ : q_H) : Prop :=
  HI s σ ∧ ENs V (z σ (p + 3)) S σ s0 ∧ PS2 p WI V S σ ∧ (∀ I R, mIt S (z σ (p + 3)) I 999999 (0, fun _ => 0, R) = .inr (runF S (z σ (p + 3)) I)) ∧ (∀ i : Nat, i < 12 → ((i : Int) < z σ p 0 ∧ WI i = z σ (p + 1) i) ∨ 8 < WI i) ∧ b256 (z σ 91)
def IA (p s0 s V : Nat) (WI : Nat → Int) (S : List q_St) (rc dm : Nat) (R : Nat → Int) (σ0 σ : q_H) : Prop :=
  IS p s0 s σ0 σ ∧ EXq p s0 s V WI S σ ∧ MKq σ0 σ ∧ (z σ 47 7 = (rc : Int) ∧ z σ 47 8 = (dm : Int) ∧ dm ≤ rc ∧ rc ≤ 16) ∧ (∀ i, i < rc → z σ 92 i = R i) ∧ z σ 91 = z σ0 91
theorem MSs_refl {σ : q_H} : MSs σ σ := ⟨rfl, rfl⟩
theorem MSs_tr {σ τ ρ : q_H} (h : MSs σ τ) (g : MSs τ ρ) : MSs σ ρ := ⟨g.1.trans h.1, g.2.trans h.2⟩
theorem MKq_refl {σ : q_H} : MKq σ σ := ⟨rfl, rfl, MSs_refl⟩
theorem MKq_tr {σ τ ρ : q_H} (h : MKq σ τ) (g : MKq τ ρ) : MKq σ ρ := ⟨g.1.trans h.1, g.2.1.trans h.2.1, MSs_tr h.2.2 g.2.2⟩
theorem ENs_gm {V s0 : Nat} {WU : Nat → Int} {S : List q_St} {σ τ : q_H} (h : ENs V WU S σ s0) (hl : ∀ j, j < 96 → lit s0 (z σ 61 j)) (e48 : z τ 48 = z σ 48) (e61 : z τ 61 = z σ 61) (e62 : z τ 62 = z σ 62) (e63 : z τ 63 = z σ 63) (g : ∀ g : Nat, g < s0 → z τ 51 g = z σ 51 g ∧ z τ 52 g = z σ 52 g ∧ z τ 53 g = z σ 53 g ∧ z τ 54 g = z σ 54 g) : ENs V WU S τ s0 := by
  obtain ⟨h1, h2, h3⟩ := h
  refine ⟨⟨h1.1, fun j hj q => ?_⟩, by rw [e62]; exact h2, fun v cv => ?_⟩
  · rw [e61] at q ⊢
    rw [(g _ (gt_lt (hl j hj))).1]; exact h1.2 j hj q
  · rw [IvN_cg e61, UvN_cg (σ := σ) (τ := τ) (fun j _ => by rw [e62]), e48, e63]
    exact h3 v (CSv_GM cv ⟨Nat.le_refl _, g⟩)
section EiP
variable {ω : q_W} {d p s0 s V rc dm : Nat} {WI R : Nat → Int} {S : List q_St} {σ σ0 τ : q_H}
theorem EXq_cg (hp : p = 16 ∨ p = 29) (h : EXq p s0 s V WI S σ) (e : ∀ o, (48 ≤ o ∧ o ≤ 63) ∨ (p ≤ o ∧ o ≤ p + 12) → z τ o = z σ o) (hb : b256 (z τ 91)) : EXq p s0 s V WI S τ := by
  obtain ⟨h1, h2, h3, h4, h5, -⟩ := h
  have e3 := e (p + 3) (by omega)
  unfold EXq
  rw [e3, e p (by omega), e (p + 1) (by omega)]
  exact ⟨HI_z (fun o a b => e o (by omega)) h1, ENs_cong h2 (e 48 (by omega)) (e 51 (by omega)) (e 52 (by omega)) (e 53 (by omega)) (e 54 (by omega)) (e 61 (by omega)) (e 62 (by omega)) (e 63 (by omega)), PS2_cong h3 (fun o a b => e o (by omega)), h4, h5, hb⟩
theorem EXq_fq {S' : List Nat} (hp : p = 16 ∨ p = 29) (h : EXq p s0 s V WI S σ) (f : fq S' σ τ) (hS : ∀ a ∈ S', a = 47 ∨ 70 ≤ a) (hb : b256 (z τ 91)) : EXq p s0 s V WI S τ :=
  EXq_cg hp h (fun o ho => fq_z f (fun c => by have := hS o c; omega)) hb
theorem c_Ci_cutTo2 {K : q_H → Prop} {l0 : Int} (h0 : 1 ≤ s0) (kk : ∀ τ, fr [50, 57] σ τ → CI s0 τ → HI s0 τ → z τ 50 8 = l0 → K τ) : ∀ (k : Nat) (ρ : q_H) (t : Nat), t ≤ s0 + k → s0 ≤ t → fr [50, 57] σ ρ → q_E ρ → CI t ρ → HI t ρ → z ρ 50 8 = l0 → J ω m_Ci_cutBack d 0 0 0 0 0 [(0, .ref 50), (1, .int (zI (s0 : Int)))] [] ρ (q_kv K) := by
  intro k
  induction k with
  | zero =>
    intro ρ t hk h1 f hE hc hh h8
    have e : t = s0 := by omega
    subst e
    have h2 := hc.2.1
    refine b_Ci_cutBack_0 hE ?_
    rw [hc.1]
    exact ⟨⟨by omega, by omega⟩, fun c => ⟨rfl, kk ρ f hc hh h8⟩, fun c => absurd c (by omega)⟩
  | succ k ih =>
    intro ρ t hk ht f hE hc hh h8
    obtain ⟨hs, hv⟩ := id hc
    have h1 := hv.1
    refine b_Ci_cutBack_0 hE ?_
    rw [hs]
    refine ⟨⟨by omega, by omega⟩, fun c => ⟨rfl, kk ρ f ((show t = s0 by omega) ▸ hc) ((show t = s0 by omega) ▸ hh) h8⟩, fun c => ⟨fun c1 => absurd c1 (by omega), fun c1 => ?_⟩⟩
    obtain ⟨t, rfl⟩ : ∃ u, t = u + 1 := ⟨t - 1, by omega⟩
    rw [show ((t + 1 : Nat) : Int) - 1 = (t : Int) by omega, Int.toNat_natCast]
    unfold HI at hh
    refine ⟨⟨by omega, by omega⟩, fun c0 => ?_, fun c0 => ?_⟩
    · refine ih _ t (by omega) (by omega) (fr_s f (by simp)) (zs_E hE) ⟨z_s ⟨by omega, by omega⟩, ?_⟩ ?_ (by rw [z_k (by decide)]; exact h8)
      · rw [z_oF (by decide), z_oF (by decide), z_oF (by decide), z_oF (by decide), z_oF (by decide), z_oF (by decide), z_oF (by decide)]
        exact CIv_pop0 hv (by omega) c0
      · unfold HI
        rw [z_oF (by decide), z_oF (by decide), z_oF (by decide), z_oF (by decide), z_oF (by decide), z_oF (by decide), z_oF (by decide), z_oF (by decide)]
        exact HIv_pop0 hh
    · have q := (hv.2.2 t (by omega) (by omega)).2 c0
      refine ⟨q.2.2.2.2.2.2.1, ih _ t (by omega) (by omega) (fr_s (fr_s f (by simp)) (by simp)) (zs_E (zs_E hE)) ⟨?_, ?_⟩ ?_ (by rw [z_o (by decide), z_k (by decide)]; exact h8)⟩
      · rw [z_o (by decide)]; exact z_s ⟨by omega, by omega⟩
      · rw [z_oF (by decide), z_oF (by decide), z_oF (by decide), z_oF (by decide), z_oF (by decide), z_oF (by decide), z_oF (by decide), z_oF (by decide), z_oF (by decide), z_oF (by decide), z_oF (by decide), z_oF (by decide), z_up (z_R _ _ _), z_oF (by decide)]
        exact CIv_pop hv (by omega) c0
      · unfold HI
        rw [z_oF (by decide), z_oF (by decide), z_oF (by decide), z_oF (by decide), z_oF (by decide), z_oF (by decide), z_oF (by decide), z_oF (by decide), z_oF (by decide), z_oF (by decide), z_oF (by decide), z_oF (by decide), z_up (z_R _ _ _), z_oF (by decide), z_oF (by decide), z_oF (by decide)]
        exact HIv_pop hh (by omega) c0 q.2.2.2.2.2.2.1
theorem i_open2 {K : q_H → Prop} (hd : 2 ≤ d) (hp : p = 16 ∨ p = 29) (h : QS p s0 s σ) (h84 : ∀ g, z σ 84 g = 0) (hx : EXq p s0 s V WI S σ) (kk : ∀ τ, IA p s0 s0 V WI S 0 0 R σ τ → K τ) : J ω m_In_open d 0 0 0 0 0 [(0, .ref 47)] [] σ (q_kv K) := by
  obtain ⟨d, rfl⟩ : ∃ k, d = k + 1 := ⟨d - 1, by omega⟩
  obtain ⟨d, rfl⟩ : ∃ k, d = k + 1 := ⟨d - 1, by omega⟩
  obtain ⟨⟨hE, r1, r2⟩, gp, hc, hs, h7, -⟩ := id h
  refine b_In_open_0 hp r1 hE (b_En_dropQuestion_0 hp r2 hE ?_)
  rw [h7]
  refine c_Ci_cutTo2 (σ := σ) (l0 := z σ 50 8) hs.1 (fun τ f hc2 hh2 h82 => ?_) s σ s (by omega) hs.2 fr_refl hE hc hx.1 rfl
  have Eτ := fr_E f hE
  refine b_En_dropQuestion_14 hp (by rw [fr_r f]; exact r2) Eτ ⟨rfl, b_In_open_7 hp (by rw [fr_r f]; exact r1) Eτ ⟨rfl, ?_⟩⟩
  have F : fr [47, 50, 57] σ (zs (zs τ 47 7 0) 47 8 0) := fr_s (fr_s (fr_mono f (by simp)) (by simp)) (by simp)
  have u : ∀ a, a ≠ 47 → z (zs (zs τ 47 7 0) 47 8 0) a = z τ a := fun a q => by rw [z_oF q, z_oF q]
  have v7 : z (zs (zs τ 47 7 0) 47 8 0) 47 7 = 0 := by rw [z_k (by decide)]; exact z_s ⟨by decide, by decide⟩
  have v8 : z (zs (zs τ 47 7 0) 47 8 0) 47 8 = 0 := z_s ⟨by decide, by decide⟩
  have ez : ∀ o, o ∉ [47, 50, 57] → z (zs (zs τ 47 7 0) 47 8 0) o = z σ o := fun o q => fr_zF F q
  refine kk _ ⟨⟨QS_ci hp h F (by simp) ?_ (Nat.le_refl _), fun g => by rw [ez 84 (by decide)]; exact h84 g, ⟨0, 0, v7, by decide, v8, by decide, fun i hi => absurd hi (by omega)⟩, fq_of (fr_mono F (by unfold SQ; simp))⟩, ?_, ⟨?_, ?_, ?_⟩, ⟨v7, v8, by decide, by decide⟩, fun i hi => absurd hi (by omega), ez 91 (by decide)⟩
  · unfold CI; rw [u 50 (by decide), u 51 (by decide), u 52 (by decide), u 53 (by decide), u 54 (by decide), u 55 (by decide), u 56 (by decide), u 57 (by decide)]; exact hc2
  · obtain ⟨x1, x2, x3, x4, x5, x6⟩ := hx
    have e3 := ez (p + 3) (by simp; omega)
    unfold EXq
    rw [e3, ez p (by simp; omega), ez (p + 1) (by simp; omega), ez 91 (by decide)]
    exact ⟨HI_z (fun o a b => u o (by omega)) hh2, ENs_cong x2 (ez 48 (by decide)) (ez 51 (by decide)) (ez 52 (by decide)) (ez 53 (by decide)) (ez 54 (by decide)) (ez 61 (by decide)) (ez 62 (by decide)) (ez 63 (by decide)), PS2_cong x3 (fun o a b => ez o (by simp; omega)), x4, x5, x6⟩
  · rw [u 50 (by decide)]; exact h82
  · rw [z_k (by decide), z_k (by decide), fr_zF f (by decide)]
  · exact ⟨by rw [ez 75 (by decide)], by rw [ez 71 (by decide)]⟩
theorem IA_s {x : Int} (hp : p = 16 ∨ p = 29) (h : IA p s0 s V WI S rc dm R σ0 σ) (hr : rc < 16) (lx : lit s x) : IA p s0 s V WI S (rc + 1) dm (up R rc x) σ0 (zs (zs σ 92 rc x) 47 7 ((rc : Int) + 1)) ∧ IA p s0 s V WI S (rc + 1) (rc + 1) (up R rc x) σ0 (zs (zs (zs σ 92 rc x) 47 7 ((rc : Int) + 1)) 47 8 ((rc : Int) + 1)) := by
  obtain ⟨⟨hQ, h84, -, f⟩, hx, hm, ⟨e1, e2, e3, e4⟩, eR, e91⟩ := id h
  obtain ⟨⟨-, -, ⟨rc', dm', c1, c2, c3, c4, c5⟩, -⟩, -⟩ := id h
  have rr : rc' = rc := by omega
  have dd : dm' = dm := by omega
  subst rr dd
  have hs := hQ.2.2.1.2.1.2
  have lR := lit_R hs lx
  have F : fr [47, 92] σ (zs (zs σ 92 rc' x) 47 7 ((rc' : Int) + 1)) := fr_s (fr_s fr_refl (by simp)) (by simp)
  have F2 : fr [47, 92] σ (zs (zs (zs σ 92 rc' x) 47 7 ((rc' : Int) + 1)) 47 8 ((rc' : Int) + 1)) := fr_s F (by simp)
  have g92 : ∀ i, z (zs (zs σ 92 rc' x) 47 7 ((rc' : Int) + 1)) 92 i = up (z σ 92) rc' x i := fun i => by rw [z_o (by decide), z_up lR]
  have g92' : ∀ i, z (zs (zs (zs σ 92 rc' x) 47 7 ((rc' : Int) + 1)) 47 8 ((rc' : Int) + 1)) 92 i = up (z σ 92) rc' x i := fun i => by rw [z_o (by decide)]; exact g92 i
  have g7 : z (zs (zs σ 92 rc' x) 47 7 ((rc' : Int) + 1)) 47 7 = ((rc' + 1 : Nat) : Int) := by rw [z_s ⟨by omega, by omega⟩]; rfl
  have lits : ∀ i, i < rc' + 1 → lit s (up (z σ 92) rc' x i) := fun i hi => by
    by_cases q : i = rc'
    · rw [q, up_s]; exact lx
    · rw [up_n q]; exact c5 i (by omega)
  have cont : ∀ i, i < rc' + 1 → up (z σ 92) rc' x i = up R rc' x i := fun i hi => by
    by_cases q : i = rc'
    · rw [q, up_s, up_s]
    · rw [up_n q, up_n q]; exact eR i (by omega)
  refine ⟨⟨⟨QS_fq hp hQ (fq_of (fr_mono F (by unfold SIn; simp))), fun g => by rw [fr_zF F (by decide)]; exact h84 g, ⟨rc' + 1, dm', g7, by omega, by rw [z_k (by decide), z_o (by decide)]; exact c3, by omega, fun i hi => by rw [g92]; exact lits i hi⟩, fq_trans f (fq_of (fr_mono F (by unfold SQ; simp)))⟩, EXq_fq hp hx (fq_of F) (by simp) (by rw [fr_zF F (by decide)]; exact hx.2.2.2.2.2), MKq_tr hm ⟨by rw [fr_zF F (by decide)], by rw [z_k (by decide), z_o (by decide)], by rw [fr_zF F (by decide)], by rw [fr_zF F (by decide)]⟩, ⟨g7, by rw [z_k (by decide), z_o (by decide)]; exact e2, by omega, by omega⟩, fun i hi => by rw [g92]; exact cont i hi, by rw [fr_zF F (by decide)]; exact e91⟩, ⟨⟨QS_fq hp hQ (fq_of (fr_mono F2 (by unfold SIn; simp))), fun g => by rw [fr_zF F2 (by decide)]; exact h84 g, ⟨rc' + 1, rc' + 1, by rw [z_k (by decide)]; exact g7, by omega, by rw [z_s ⟨by omega, by omega⟩]; rfl, by omega, fun i hi => by rw [g92']; exact lits i hi⟩, fq_trans f (fq_of (fr_mono F2 (by unfold SQ; simp)))⟩, EXq_fq hp hx (fq_of F2) (by simp) (by rw [fr_zF F2 (by decide)]; exact hx.2.2.2.2.2), MKq_tr hm ⟨by rw [fr_zF F2 (by decide)], by rw [z_k (by decide), z_k (by decide), z_o (by decide)], by rw [fr_zF F2 (by decide)], by rw [fr_zF F2 (by decide)]⟩, ⟨by rw [z_k (by decide)]; exact g7, by rw [z_s ⟨by omega, by omega⟩]; rfl, by omega, by omega⟩, fun i hi => by rw [g92']; exact cont i hi, by rw [fr_zF F2 (by decide)]; exact e91⟩⟩
theorem i_concern2 {K : q_H → Prop} {x : Int} (hp : p = 16 ∨ p = 29) (h : IA p s0 s V WI S rc dm R σ0 σ) (hr : rc < 16) (lx : lit s x) (kk : ∀ τ, IA p s0 s V WI S (rc + 1) dm (up R rc x) σ0 τ → K τ) : J ω m_In_concern d 0 0 0 0 0 [(0, .ref 47), (1, .int (zI x))] [] σ (q_kv K) := by
  refine b_In_concern_0 hp h.1.1.1.2.1 h.1.1.1.1 ?_
  rw [h.2.2.2.1.1, Int.toNat_natCast]
  exact ⟨fun c => absurd c (by omega), fun c => ⟨⟨by omega, by omega⟩, rfl, kk _ (IA_s hp h hr lx).1⟩⟩
theorem i_demand2 {K : q_H → Prop} {x : Int} (hd : 1 ≤ d) (hp : p = 16 ∨ p = 29) (h : IA p s0 s V WI S rc dm R σ0 σ) (hr : rc < 16) (lx : lit s x) (kk : ∀ τ, IA p s0 s V WI S (rc + 1) (rc + 1) (up R rc x) σ0 τ → K τ) : J ω m_In_demand d 0 0 0 0 0 [(0, .ref 47), (1, .int (zI x))] [] σ (q_kv K) := by
  obtain ⟨d, rfl⟩ : ∃ k, d = k + 1 := ⟨d - 1, by omega⟩
  have q := IA_s hp h hr lx
  refine b_In_demand_0 hp h.1.1.1.2.1 h.1.1.1.1 (b_In_concern_0 hp h.1.1.1.2.1 h.1.1.1.1 ?_)
  rw [h.2.2.2.1.1, Int.toNat_natCast]
  refine ⟨fun c => absurd c (by omega), fun c => ⟨⟨by omega, by omega⟩, rfl, b_In_demand_5 hp q.1.1.1.1.2.1 q.1.1.1.1.1 ⟨rfl, ?_⟩⟩⟩
  rw [q.1.2.2.2.1.1]
  exact kk _ q.2
end EiP
