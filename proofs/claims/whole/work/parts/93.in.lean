/-! INQUIRY, safety -/
/-- only these rows changed, and what the trial's machine refers to -/
def fq (S : List Nat) (σ τ : q_H) : Prop := frE S (fun o k => o = 87 ∧ (k = 5 ∨ k = 6)) σ τ
theorem fq_refl {S : List Nat} {σ : q_H} : fq S σ σ := ⟨rfl, rfl, fun _ _ _ => rfl, fun _ _ => ⟨rfl, rfl⟩⟩
theorem fq_trans {S : List Nat} {σ τ ρ : q_H} (h : fq S σ τ) (g : fq S τ ρ) : fq S σ ρ :=
  ⟨g.1.trans h.1, g.2.1.trans h.2.1, fun o k q => (g.2.2.1 o k q).trans (h.2.2.1 o k q), fun o ho => ⟨(g.2.2.2 o ho).1.trans (h.2.2.2 o ho).1, (g.2.2.2 o ho).2.trans (h.2.2.2 o ho).2⟩⟩
theorem fq_mono {S T : List Nat} {σ τ : q_H} (h : fq S σ τ) (hs : ∀ x ∈ S, x ∈ T) : fq T σ τ := ⟨h.1, h.2.1, h.2.2.1, fun o ho => h.2.2.2 o (fun hc => ho (hs o hc))⟩
theorem fq_of {S : List Nat} {σ τ : q_H} (h : fr S σ τ) : fq S σ τ := ⟨h.1, h.2.1, fun o k _ => by rw [h.2.2.1], h.2.2.2⟩
theorem fq_E {S : List Nat} {σ τ : q_H} (h : fq S σ τ) (hE : q_E σ) : q_E τ := by
  obtain ⟨h1, h2, h3, -⟩ := h
  refine ⟨by rw [h1]; exact hE.1, fun k a b => by rw [h2]; exact hE.2.1 k a b, fun o k a b c => ?_⟩
  rw [h3 o k (fun q => ?_)]
  · exact hE.2.2 o k a b c
  · obtain ⟨q1, q2 | q2⟩ := q
    · subst q1 q2; exact absurd c (by decide)
    · subst q1 q2; exact absurd c (by decide)
theorem fq_z {S : List Nat} {σ τ : q_H} {o : Nat} (h : fq S σ τ) (ho : o ∉ S) : z τ o = z σ o := funext fun k => by unfold z; rw [(h.2.2.2 o ho).1]
theorem fq_l {S : List Nat} {σ τ : q_H} {o : Nat} (h : fq S σ τ) (ho : o ∉ S) : q_l τ o = q_l σ o := (h.2.2.2 o ho).2
theorem fq_r {S : List Nat} {σ τ : q_H} {o k : Nat} (h : fq S σ τ) (ho : o ≠ 87) : q_r τ o k = q_r σ o k := h.2.2.1 o k (fun q => ho q.1)
def SQ : List Nat := [47, 50, 51, 52, 53, 54, 55, 56, 57, 70, 71, 72, 73, 74, 75, 76, 77, 78, 79, 80, 81, 82, 83, 84, 85, 86, 87, 88, 89, 90, 91, 92, 93]
/-- a PROGRAM and its circuit, s0 gates, with a question's: s -/
def QS (p s0 s : Nat) (σ : q_H) : Prop :=
  (q_E σ ∧ q_r σ 47 2 = p ∧ q_r σ 48 1 = p) ∧ GP p σ ∧ CI s σ ∧ (1 ≤ s0 ∧ s0 ≤ s) ∧ z σ 48 7 = (s0 : Int) ∧ (∀ j, j < 96 → lit s0 (z σ 62 j)) ∧ (∀ j, j < 512 → lit s0 (z σ 63 j)) ∧ lit s0 (z σ 48 4) ∧ lit s0 (z σ 48 6) ∧ INP p σ s0
def SIn : List Nat := [47, 70, 71, 72, 73, 74, 75, 76, 77, 78, 79, 80, 81, 82, 83, 84, 85, 86, 87, 88, 89, 90, 91, 92, 93]
theorem INP_cong {p s : Nat} {σ τ : q_H} (h : INP p σ s) (h1 : z τ 61 = z σ 61) (h2 : z τ p = z σ p) (h3 : z τ (p + 1) = z σ (p + 1)) : INP p τ s := by
  unfold INP; rw [h1, h2, h3]; exact h
theorem QS_fq {p s0 s : Nat} {σ τ : q_H} (hp : p = 16 ∨ p = 29) (h : QS p s0 s σ) (f : fq SIn σ τ) : QS p s0 s τ := by
  obtain ⟨⟨hE, r1, r2⟩, gp, hc, hs, h7, h62, h63, h4, h6, hI⟩ := h
  have e : ∀ a, a ∉ SIn → z τ a = z σ a := fun a q => fq_z f q
  refine ⟨⟨fq_E f hE, by rw [fq_r f (by decide)]; exact r1, by rw [fq_r f (by decide)]; exact r2⟩, GP_cong gp (fun o _ _ => e o (by unfold SIn; simp; omega)), ?_, hs, ?_, ?_, ?_, ?_, ?_, INP_cong hI (e 61 (by decide)) (e p (by unfold SIn; simp; omega)) (e (p + 1) (by unfold SIn; simp; omega))⟩
  · unfold CI
    rw [e 50 (by decide), e 51 (by decide), e 52 (by decide), e 53 (by decide), e 54 (by decide), e 55 (by decide), e 56 (by decide), e 57 (by decide)]; exact hc
  · rw [e 48 (by decide)]; exact h7
  · rw [e 62 (by decide)]; exact h62
  · rw [e 63 (by decide)]; exact h63
  · rw [e 48 (by decide)]; exact h4
  · rw [e 48 (by decide)]; exact h6
/-- a question is being put together -/
def RS (s : Nat) (σ : q_H) : Prop := ∃ rc dm : Nat, z σ 47 7 = (rc : Int) ∧ rc ≤ 16 ∧ z σ 47 8 = (dm : Int) ∧ dm ≤ rc ∧ ∀ i, i < rc → lit s (z σ 92 i)
def IS (p s0 s : Nat) (σ0 σ : q_H) : Prop := QS p s0 s σ ∧ (∀ g, z σ 84 g = 0) ∧ RS s σ ∧ fq SQ σ0 σ
section InJ
variable {ω : q_W} {d p s0 s : Nat} {σ σ0 : q_H}
theorem c_Ci_cutTo {K : q_H → Prop} (h0 : 1 ≤ s0) (kk : ∀ τ, fr [50, 57] σ τ → CI s0 τ → K τ) : ∀ (k : Nat) (ρ : q_H) (t : Nat), t ≤ s0 + k → s0 ≤ t → fr [50, 57] σ ρ → q_E ρ → CI t ρ → J ω m_Ci_cutBack d 0 0 0 0 0 [(0, .ref 50), (1, .int (zI (s0 : Int)))] [] ρ (q_kv K) := by
  intro k
  induction k with
  | zero =>
    intro ρ t hk h1 f hE hc
    have e : t = s0 := by omega
    subst e
    have h2 := hc.2.1
    refine b_Ci_cutBack_0 hE ?_
    rw [hc.1]
    exact ⟨⟨by omega, by omega⟩, fun c => ⟨rfl, kk ρ f hc⟩, fun c => absurd c (by omega)⟩
  | succ k ih =>
    intro ρ t hk ht f hE hc
    obtain ⟨hs, hv⟩ := id hc
    have h1 := hv.1
    refine b_Ci_cutBack_0 hE ?_
    rw [hs]
    refine ⟨⟨by omega, by omega⟩, fun c => ⟨rfl, kk ρ f ((show t = s0 by omega) ▸ hc)⟩, fun c => ⟨fun c1 => absurd c1 (by omega), fun c1 => ?_⟩⟩
    obtain ⟨t, rfl⟩ : ∃ u, t = u + 1 := ⟨t - 1, by omega⟩
    rw [show ((t + 1 : Nat) : Int) - 1 = (t : Int) by omega, Int.toNat_natCast]
    refine ⟨⟨by omega, by omega⟩, fun c0 => ?_, fun c0 => ?_⟩
    · refine ih _ t (by omega) (by omega) (fr_s f (by simp)) (zs_E hE) ⟨z_s ⟨by omega, by omega⟩, ?_⟩
      rw [z_oF (by decide), z_oF (by decide), z_oF (by decide), z_oF (by decide), z_oF (by decide), z_oF (by decide), z_oF (by decide)]
      exact CIv_pop0 hv (by omega) c0
    · have q := (hv.2.2 t (by omega) (by omega)).2 c0
      refine ⟨q.2.2.2.2.2.2.1, ih _ t (by omega) (by omega) (fr_s (fr_s f (by simp)) (by simp)) (zs_E (zs_E hE)) ⟨?_, ?_⟩⟩
      · rw [z_o (by decide)]; exact z_s ⟨by omega, by omega⟩
      · rw [z_oF (by decide), z_oF (by decide), z_oF (by decide), z_oF (by decide), z_oF (by decide), z_oF (by decide), z_oF (by decide), z_oF (by decide), z_oF (by decide), z_oF (by decide), z_oF (by decide), z_oF (by decide), z_up (z_R _ _ _), z_oF (by decide)]
        exact CIv_pop hv (by omega) c0
/-- the circuit has grown or shrunk to t, the words are the same -/
theorem QS_ci {t : Nat} {S : List Nat} {τ : q_H} (hp : p = 16 ∨ p = 29) (h : QS p s0 s σ) (f : fr S σ τ) (hS : ∀ a ∈ S, a ∈ [47, 50, 51, 52, 53, 54, 55, 56, 57]) (hc : CI t τ) (ht : s0 ≤ t) : QS p s0 t τ := by
  obtain ⟨⟨hE, r1, r2⟩, gp, -, hs, h7, h62, h63, h4, h6, hI⟩ := h
  have e : ∀ a, a ∉ [47, 50, 51, 52, 53, 54, 55, 56, 57] → z τ a = z σ a := fun a q => fr_zF f (fun c => q (hS a c))
  refine ⟨⟨fr_E f hE, by rw [fr_r f]; exact r1, by rw [fr_r f]; exact r2⟩, GP_cong gp (fun o _ _ => e o (by simp; omega)), hc, ⟨hs.1, ht⟩, ?_, ?_, ?_, ?_, ?_, INP_cong hI (e 61 (by decide)) (e p (by simp; omega)) (e (p + 1) (by simp; omega))⟩
  · rw [e 48 (by decide)]; exact h7
  · rw [e 62 (by decide)]; exact h62
  · rw [e 63 (by decide)]; exact h63
  · rw [e 48 (by decide)]; exact h4
  · rw [e 48 (by decide)]; exact h6
theorem i_open {K : q_H → Prop} (hd : 2 ≤ d) (hp : p = 16 ∨ p = 29) (h : QS p s0 s σ) (h84 : ∀ g, z σ 84 g = 0) (kk : ∀ τ, IS p s0 s0 σ τ → K τ) : J ω m_In_open d 0 0 0 0 0 [(0, .ref 47)] [] σ (q_kv K) := by
  obtain ⟨d, rfl⟩ : ∃ k, d = k + 1 := ⟨d - 1, by omega⟩
  obtain ⟨d, rfl⟩ : ∃ k, d = k + 1 := ⟨d - 1, by omega⟩
  obtain ⟨⟨hE, r1, r2⟩, gp, hc, hs, h7, -⟩ := id h
  refine b_In_open_0 hp r1 hE (b_En_dropQuestion_0 hp r2 hE ?_)
  rw [h7]
  refine c_Ci_cutTo (σ := σ) hs.1 (fun τ f hc2 => ?_) s σ s (by omega) hs.2 fr_refl hE hc
  have Eτ := fr_E f hE
  refine b_En_dropQuestion_14 hp (by rw [fr_r f]; exact r2) Eτ ⟨rfl, b_In_open_7 hp (by rw [fr_r f]; exact r1) Eτ ⟨rfl, ?_⟩⟩
  have F : fr [47, 50, 57] σ (zs (zs τ 47 7 0) 47 8 0) := fr_s (fr_s (fr_mono f (by simp)) (by simp)) (by simp)
  have u : ∀ a, a ≠ 47 → z (zs (zs τ 47 7 0) 47 8 0) a = z τ a := fun a q => by rw [z_oF q, z_oF q]
  refine kk _ ⟨QS_ci hp h F (by simp) ?_ (Nat.le_refl _), fun g => by rw [u 84 (by decide), fr_zF f (by decide)]; exact h84 g, ⟨0, 0, ?_, by decide, z_s ⟨by decide, by decide⟩, by decide, fun i hi => absurd hi (by omega)⟩, fq_of (fr_mono F (by unfold SQ; simp))⟩
  · unfold CI; rw [u 50 (by decide), u 51 (by decide), u 52 (by decide), u 53 (by decide), u 54 (by decide), u 55 (by decide), u 56 (by decide), u 57 (by decide)]; exact hc2
  · rw [z_k (by decide)]; exact z_s ⟨by decide, by decide⟩
theorem i_concern {K : q_H → Prop} {x : Int} (hp : p = 16 ∨ p = 29) (h : IS p s0 s σ0 σ) (lx : lit s x) (kk : ∀ τ, IS p s0 s σ0 τ → K τ) : J ω m_In_concern d 0 0 0 0 0 [(0, .ref 47), (1, .int (zI x))] [] σ (q_kv K) := by
  obtain ⟨hQ, h84, ⟨rc, dm, e1, e2, e3, e4, e5⟩, f⟩ := id h
  have hs := hQ.2.2.1.2.1.2
  refine b_In_concern_0 hp hQ.1.2.1 hQ.1.1 ?_
  rw [e1, Int.toNat_natCast]
  refine ⟨fun _ => ⟨rfl, kk σ h⟩, fun c => ⟨⟨by omega, by omega⟩, rfl, ?_⟩⟩
  have F : fr [47, 92] σ (zs (zs σ 92 rc x) 47 7 ((rc : Int) + 1)) := fr_s (fr_s fr_refl (by simp)) (by simp)
  refine kk _ ⟨QS_fq hp hQ (fq_of (fr_mono F (by unfold SIn; simp))), fun g => by rw [fr_zF F (by decide)]; exact h84 g, ⟨rc + 1, dm, ?_, by omega, ?_, by omega, fun i hi => ?_⟩, fq_trans f (fq_of (fr_mono F (by unfold SQ; simp)))⟩
  · rw [z_s ⟨by omega, by omega⟩]; rfl
  · rw [z_k (by decide), z_o (by decide)]; exact e3
  · rw [z_o (by decide), z_up (lit_R hs lx)]
    by_cases q : i = rc
    · rw [q, up_s]; exact lx
    · rw [up_n q]; exact e5 i (by omega)
theorem i_demand {K : q_H → Prop} {x : Int} (hd : 1 ≤ d) (hp : p = 16 ∨ p = 29) (h : IS p s0 s σ0 σ) (lx : lit s x) (kk : ∀ τ, IS p s0 s σ0 τ → K τ) : J ω m_In_demand d 0 0 0 0 0 [(0, .ref 47), (1, .int (zI x))] [] σ (q_kv K) := by
  obtain ⟨d, rfl⟩ : ∃ k, d = k + 1 := ⟨d - 1, by omega⟩
  refine b_In_demand_0 hp h.1.1.2.1 h.1.1.1 (i_concern hp h lx (fun τ hτ => ?_))
  obtain ⟨hQ, h84, ⟨rc, dm, e1, e2, e3, e4, e5⟩, f⟩ := id hτ
  refine b_In_demand_5 hp hQ.1.2.1 hQ.1.1 ⟨rfl, ?_⟩
  rw [e1]
  have F : fr [47] τ (zs τ 47 8 (rc : Int)) := fr_s fr_refl (by simp)
  exact kk _ ⟨QS_fq hp hQ (fq_of (fr_mono F (by unfold SIn; simp))), fun g => by rw [fr_zF F (by decide)]; exact h84 g, ⟨rc, rc, by rw [z_k (by decide)]; exact e1, e2, z_s ⟨by omega, by omega⟩, Nat.le_refl _, fun i hi => by rw [z_o (by decide)]; exact e5 i hi⟩, fq_trans f (fq_of (fr_mono F (by unfold SQ; simp)))⟩
/-- the question is put: WISHES, and what is required -/
def PSt (p s0 s wc rq : Nat) (σ0 σ : q_H) : Prop := IS p s0 s σ0 σ ∧ ∃ (ts dn top : Nat) (cs : List Nat) (Ws : Nat → List Nat) (F : List Nat), SC s ts dn wc rq top cs Ws F σ
/-- and a model was found -/
def LSt (p s0 s wc rq : Nat) (σ0 σ : q_H) : Prop := IS p s0 s σ0 σ ∧ ∃ (ts lv top : Nat) (cs : List Nat) (Ws : Nat → List Nat) (F : List Nat), SI s ts lv ts wc rq top cs Ws F σ
theorem RS_fr {S : List Nat} {τ : q_H} (h : RS s σ) (f : fq S σ τ) (h1 : 47 ∉ S) (h2 : 92 ∉ S) : RS s τ := by
  unfold RS; rw [fq_z f h1, fq_z f h2]; exact h
theorem i_require {K : q_H → Prop} {wc rq sz : Nat} (hd : 4 ≤ d) (hp : p = 16 ∨ p = 29) (h : PSt p s0 s wc rq σ0 σ ∨ LSt p s0 s wc rq σ0 σ) (hrq : rq ≤ 28000) (hsz : sz ≤ 12) (hl : ∀ i, i < sz → lit s (z σ 93 i)) (kk : ∀ τ, PSt p s0 s wc (rq + 3 + sz) σ0 τ → fr [70, 71, 72, 73, 78, 79, 80, 81, 93] σ τ → K τ) : J ω m_So_require d 0 0 0 0 0 [(0, .ref 70), (1, .ref 93), (2, .int (zI (sz : Int)))] [] σ (q_kv K) := by
  have go : ∀ (ts lv dn top : Nat) (cs : List Nat) (Ws : Nat → List Nat) (F : List Nat), IS p s0 s σ0 σ → (SC s ts dn wc rq top cs Ws F σ ∨ SI s ts lv ts wc rq top cs Ws F σ) → J ω m_So_require d 0 0 0 0 0 [(0, .ref 70), (1, .ref 93), (2, .int (zI (sz : Int)))] [] σ (q_kv K) := fun ts lv dn top cs Ws F hI hS => by
    obtain ⟨hQ, h84, hR, f⟩ := id hI
    have hroom : top + 3 + sz ≤ 360000 := by
      rcases hS with q | q
      · have := FM_len q.2.2.2.2.2.1.2.1 q.2.2.2.2.2.2.2.1
        have := q.2.2.2.2.2.2.2.2.1
        omega
      · have := FM_len q.2.2.2.2.2.2.2.1.2.1 q.2.2.2.2.2.2.2.2.2.2.1
        have := q.2.2.2.2.2.2.2.2.2.2.2.1
        omega
    refine s_require hd hQ.1.1 hQ.2.2.1.2.1.2 hS hsz hl hroom (fun τ ts' dn' top' cs' Ws' g1 g2 _ _ _ => ?_)
    exact kk τ ⟨⟨QS_fq hp hQ (fq_of (fr_mono g1 (by unfold SIn; simp))), g2.2.2.2.2.1, RS_fr hR (fq_of g1) (by decide) (by decide), fq_trans f (fq_of (fr_mono g1 (by unfold SQ; simp)))⟩, ts', dn', top', cs', Ws', F, g2⟩ g1
  rcases h with ⟨hI, ts, dn, top, cs, Ws, F, hS⟩ | ⟨hI, ts, lv, top, cs, Ws, F, hS⟩
  · exact go ts 0 dn top cs Ws F hI (Or.inl hS)
  · exact go ts lv 0 top cs Ws F hI (Or.inr hS)
theorem i_worth {K : Int → q_H → Prop} {b i : Nat} {x3 : Int} (hd : 1 ≤ d) (hp : p = 16 ∨ p = 29) (hb : b = 61 ∨ b = 62) (hE : q_E σ) (r1 : q_r σ 47 2 = p) (hs : s ≤ 10240) (hi : i < 12) (h3 : x3 = 0 ∨ x3 = 1) (hl : ∀ j, j < 96 → lit s (z σ b j)) (kk : ∀ v, inR v → K v σ) : J ω m_In_worth d 0 0 0 0 0 [(0, .ref 47), (1, .ref b), (2, .int (zI (i : Int))), (3, .int (zI x3))] [] σ (q_ki K) := by
  obtain ⟨d, rfl⟩ : ∃ k, d = k + 1 := ⟨d - 1, by omega⟩
  have l : ∀ (m n : Nat) (x4 : Int), 8 ≤ n + m → n ≤ 8 → inR x4 → J ω m_In_worth (d + 1) 0 0 0 0 6 [(0, .ref 47), (1, .ref b), (2, .int (zI (i : Int))), (3, .int (zI x3)), (4, .int (zI x4)), (5, .int (zI (n : Int)))] [] σ (q_ki K) := by
    intro m
    induction m with
    | zero =>
      intro n x4 a1 a2 a3
      exact b_In_worth_6 hp r1 hb hE ⟨⟨by omega, by omega⟩, fun _ => ⟨x4, a3, rfl, kk x4 a3⟩, fun c => absurd c (by omega)⟩
    | succ m ih =>
      intro n x4 a1 a2 a3
      refine b_In_worth_6 hp r1 hb hE ⟨⟨by omega, by omega⟩, fun _ => ⟨x4, a3, rfl, kk x4 a3⟩, fun c => ⟨⟨by omega, by omega⟩, ?_⟩⟩
      have lx := lit_b hs (hl ((i : Int) * 8 + (n : Int)).toNat (by omega)) h3
      have lx2 := lx.2
      have e : (n : Int) + 1 = ((n + 1 : Nat) : Int) := by omega
      refine b_So_holds_0 hE ⟨⟨lx.1, by omega⟩, fun _ => ⟨0, ⟨by decide, by decide⟩, rfl, b_In_worth_31 hp r1 hb hE ⟨⟨by decide, by decide⟩, fun _ => ?_, fun q => absurd rfl q⟩⟩, fun _ => ⟨1, ⟨by decide, by decide⟩, rfl, b_In_worth_31 hp r1 hb hE ⟨⟨by decide, by decide⟩, fun q => absurd q (by decide), fun _ => ?_⟩⟩⟩
      · rw [e]; exact ih (n + 1) x4 (by omega) (by omega) a3
      · rw [e]; exact ih (n + 1) _ (by omega) (by omega) (inR_of _)
  exact b_In_worth_0 hp r1 hb hE (l 8 0 0 (by decide) (by decide) ⟨by decide, by decide⟩)
end InJ
