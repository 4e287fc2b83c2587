/-! INQUIRY: the question is put -/
section QzP
variable {s ts lv dn wc rq top : Nat} {cs cs0 F : List Nat} {Ws : Nat → List Nat} {M0 : Nat → Int} {Gm D D' : (Nat → Bool) → Prop} {Rel : Nat → Prop} {σ τ : q_H}
theorem SC_z (h : SC s ts dn wc rq top cs Ws F σ) (e : ∀ a ∈ [51, 52, 53, 54, 70, 71, 72, 73, 74, 76, 78, 79, 80, 81, 82, 83, 84], z τ a = z σ a) : SC s ts dn wc rq top cs Ws F τ := by
  unfold SC CX TX WI at h ⊢
  rw [e 70 (by simp), e 71 (by simp), e 72 (by simp), e 73 (by simp), e 78 (by simp), e 79 (by simp), e 80 (by simp), e 81 (by simp), e 82 (by simp), e 83 (by simp), e 84 (by simp)]
  exact h
theorem SI_z (h : SI s ts lv dn wc rq top cs Ws F σ) (e : ∀ a ∈ [51, 52, 53, 54, 70, 71, 72, 73, 74, 76, 78, 79, 80, 81, 82, 83, 84], z τ a = z σ a) : SI s ts lv dn wc rq top cs Ws F τ := by
  unfold SI CX TX WI at h ⊢
  rw [e 70 (by simp), e 71 (by simp), e 72 (by simp), e 73 (by simp), e 78 (by simp), e 79 (by simp), e 80 (by simp), e 81 (by simp), e 82 (by simp), e 83 (by simp), e 84 (by simp)]
  exact h
theorem SXn_z (h : SXn Gm Rel M0 cs0 ts cs σ) (e : ∀ a ∈ [51, 52, 53, 54, 70, 71, 72, 73, 74, 76, 78, 79, 80, 81, 82, 83, 84], z τ a = z σ a) : SXn Gm Rel M0 cs0 ts cs τ := by
  unfold SXn at h ⊢
  rw [e 70 (by simp), e 72 (by simp), e 76 (by simp), e 79 (by simp), e 80 (by simp), e 81 (by simp)]
  exact h
theorem SXm_z (h : SXm Gm Rel M0 cs0 ts lv cs σ) (e : ∀ a ∈ [51, 52, 53, 54, 70, 71, 72, 73, 74, 76, 78, 79, 80, 81, 82, 83, 84], z τ a = z σ a) : SXm Gm Rel M0 cs0 ts lv cs τ := by
  unfold SXm at h ⊢
  rw [e 70 (by simp), e 72 (by simp), e 76 (by simp), e 79 (by simp), e 80 (by simp), e 81 (by simp), e 82 (by simp)]
  exact h
theorem QP_z (h : QP s wc rq D σ) (e : ∀ a ∈ [51, 52, 53, 54, 70, 71, 72, 73, 74, 76, 78, 79, 80, 81, 82, 83, 84], z τ a = z σ a) : QP s wc rq D τ := by
  obtain ⟨Gm, M0, cs0, hb, hS⟩ := h
  refine ⟨Gm, M0, cs0, QPb_cg hb (e 74 (by simp)) (e 83 (by simp)) (e 51 (by simp)) (e 52 (by simp)) (e 53 (by simp)) (e 54 (by simp)), ?_⟩
  rw [e 74 (by simp), e 83 (by simp)]
  rcases hS with ⟨ts, dn, top, cs, Ws, F, h1, h2⟩ | ⟨ts, lv, top, cs, Ws, F, h1, h2⟩
  · exact Or.inl ⟨ts, dn, top, cs, Ws, F, SC_z h1 e, SXn_z h2 e⟩
  · exact Or.inr ⟨ts, lv, top, cs, Ws, F, SI_z h1 e, SXm_z h2 e⟩
theorem QP_D (h : QP s wc rq D σ) (hd : ∀ v, CSv s σ v → (D v ↔ D' v)) : QP s wc rq D' σ := by
  obtain ⟨Gm, M0, cs0, ⟨b1, b2, b3, b4⟩, hS⟩ := h
  refine ⟨Gm, M0, cs0, ⟨b1, b2, fun v cv dv => b3 v cv ((hd v cv).mpr dv), fun v gv => ?_⟩, hS⟩
  obtain ⟨u, u1, u2, u3⟩ := b4 v gv
  exact ⟨u, u1, (hd u u1).mp u2, u3⟩
theorem QP_rq {rq' : Nat} (h : QP s wc rq D σ) (hr : rq ≤ rq') : QP s wc rq' D σ := by
  obtain ⟨Gm, M0, cs0, hb, hS⟩ := h
  refine ⟨Gm, M0, cs0, hb, ?_⟩
  rcases hS with ⟨ts, dn, top, cs, Ws, F, ⟨a1, a2, a3, a4, a5, a6, a7, a8, a9, a10⟩, h2⟩ | ⟨ts, lv, top, cs, Ws, F, ⟨a1, a2, a3, a4, a5, a6, a7, a8, a9, a10, a11, a12, a13⟩, h2⟩
  · exact Or.inl ⟨ts, dn, top, cs, Ws, F, ⟨a1, a2, a3, a4, a5, a6, a7, a8, by omega, a10⟩, h2⟩
  · exact Or.inr ⟨ts, lv, top, cs, Ws, F, ⟨a1, a2, a3, a4, a5, a6, a7, a8, a9, a10, a11, by omega, a13⟩, h2⟩
theorem SXn_w (h : SXn Gm Rel M0 cs0 ts cs σ) (f : fr [70, 83] σ τ) (fk : ∀ k, k ≠ 12 → z τ 70 k = z σ 70 k) : SXn Gm Rel M0 cs0 ts cs τ := by
  unfold SXn at h ⊢
  rw [fk 8 (by decide), fk 13 (by decide), fr_zF f (show (72 : Nat) ∉ [70, 83] by decide), fr_zF f (show (76 : Nat) ∉ [70, 83] by decide), fr_zF f (show (79 : Nat) ∉ [70, 83] by decide), fr_zF f (show (80 : Nat) ∉ [70, 83] by decide), fr_zF f (show (81 : Nat) ∉ [70, 83] by decide)]
  exact h
end QzP
/-- behind begin -/
def BGs (rc s : Nat) (cs : List Nat) (σ ρ : q_H) : Prop :=
  (∀ i, i < rc → z ρ 74 (gt (z σ 92 i)) = 1) ∧ MKc 0 s σ ρ ∧ WC (z ρ 72) cs (gls (z σ 51) (z σ 52) (z σ 53) (z σ 54) (z ρ 74) s) ∧ z ρ 71 4 = z σ 71 4 ∧ ∀ wc w, SXn (Gm0 s (z σ 51) (z σ 52) (z σ 53) (z σ 54) (z ρ 74)) (RLv (z ρ 74) wc w) (z ρ 72) cs 1 cs ρ
theorem BGs_w {rc s : Nat} {cs : List Nat} {σ ρ τ : q_H} (h : BGs rc s cs σ ρ) (f : fr [70, 83] ρ τ) (fk : ∀ k, k ≠ 12 → z τ 70 k = z ρ 70 k) : BGs rc s cs σ τ := by
  obtain ⟨h1, h2, h3, h4, h5⟩ := h
  have e74 : z τ 74 = z ρ 74 := fr_zF f (by decide)
  have e72 : z τ 72 = z ρ 72 := fr_zF f (by decide)
  unfold BGs MKc
  rw [e74, e72, fr_zF f (show (71 : Nat) ∉ [70, 83] by decide)]
  exact ⟨h1, h2, h3, h4, fun wc w => SXn_w (h5 wc w) f fk⟩
/-- a question that stands, with all that goes with it -/
def QQ (p s0 s V : Nat) (WI : Nat → Int) (S : List q_St) (rc : Nat) (R : Nat → Int) (wc rq : Nat) (D : (Nat → Bool) → Prop) (σ0 σ : q_H) : Prop :=
  IS p s0 s σ0 σ ∧ EXq p s0 s V WI S σ ∧ MKq σ0 σ ∧ QP s wc rq D σ ∧ WSH p wc σ ∧ ∀ i, i < rc → z σ 74 (gt (R i)) = 1
/-- the gates and the literals of INPUTS are the same -/
def gsm (σ τ : q_H) : Prop := ∀ a, (51 ≤ a ∧ a ≤ 54) ∨ a = 61 → z τ a = z σ a
section I3J
variable {ω : q_W} {d p s0 s V rc dm : Nat} {WI R : Nat → Int} {S : List q_St} {σ σ0 : q_H}
theorem QP_bg {wc top : Nat} {cs : List Nat} {Ws : Nat → List Nat} {ρ : q_H} (hci : CI s σ) (hhi : HI s σ) (gp : GP p σ) (hin : INP p σ s0) (hlf : ∀ j : Nat, j < 96 → 2 ≤ z σ 61 j → z σ 51 (gt (z σ 61 j)) = 0) (e51 : z ρ 51 = z σ 51) (e52 : z ρ 52 = z σ 52) (e53 : z ρ 53 = z σ 53) (e54 : z ρ 54 = z σ 54) (e61 : z ρ 61 = z σ 61) (e0 : z ρ p = z σ p) (e1 : z ρ (p + 1) = z σ (p + 1)) (hS : SC s 1 0 wc 0 top cs Ws [] ρ) (hB : BGs rc s cs σ ρ) (hW : WSH p wc ρ) : QP s wc 0 (fun _ => True) ρ := by
  obtain ⟨h1, h2, h3, h4, h5⟩ := hB
  have iw : iW p ρ = iW p σ := by unfold iW; rw [e1]
  have inn : iN p ρ = iN p σ := by unfold iN; rw [e0]
  obtain ⟨hw1, hw2⟩ := hW
  rw [iw, inn] at hw1 hw2
  rw [e61] at hw2
  have bb := iW_b gp
  have hl := hS.2.2.2.2.2.1.2.2.1
  have leaf : ∀ g : Nat, 1 ≤ g → g < s → z σ 51 g = 0 → ∃ i, i < wc ∧ gt (z ρ 83 i) = g := fun g g1 g2 g3 => by
    obtain ⟨j, j1, j2⟩ := hhi.2.2.2 g g1 g2 g3
    have ej : j = 8 * (j / 8) + j % 8 := by omega
    have inr : j / 8 < iN p σ ∧ j % 8 < iW p σ (j / 8) := by
      apply Decidable.byContradiction
      intro q
      have := INP_no hin (by omega) (by omega) q
      rw [← ej, j2] at this
      omega
    have wb := bb.2.1 _ inr.1
    have sb := smn_mono (w := iW p σ) (iN p σ - (j / 8 + 1)) (j / 8 + 1)
    rw [show j / 8 + 1 + (iN p σ - (j / 8 + 1)) = iN p σ by omega] at sb
    have se : smn (iW p σ) (j / 8 + 1) = smn (iW p σ) (j / 8) + iW p σ (j / 8) := rfl
    refine ⟨smn (iW p σ) (j / 8) + (iW p σ (j / 8) - 1 - j % 8), by omega, ?_⟩
    rw [hw2 _ _ inr.1 inr.2, ← ej, gt_ng, j2]
    unfold gt; omega
  have lz : ∀ i, i < wc → z σ 51 (gt (z ρ 83 i)) = 0 := fun k hk => by
    obtain ⟨i, b, i1, i2, i3⟩ := smn_at (w := iW p σ) (iN p σ) k (by omega)
    have wb := bb.2.1 _ i1
    rw [i3, hw2 i b i1 i2, gt_ng]
    exact hlf _ (by omega) (by rw [INP_at gp hin i1 i2]; omega)
  refine ⟨Gm0 s (z σ 51) (z σ 52) (z σ 53) (z σ 54) (z ρ 74), z ρ 72, cs, ⟨fun v v0 hv => ⟨v0, fun l hl => ?_⟩, TTo_w hci h2 hl leaf h3, fun v cv _ => Gm0_of hci (CSv_z e51 e52 e53 e54 cv), fun v gv => ?_⟩, Or.inl ⟨1, 0, top, cs, Ws, [], hS, h5 wc (z ρ 83)⟩⟩
  · obtain ⟨c, hc, e⟩ := h3.1 l hl
    obtain ⟨x, xi, xv⟩ := hv c hc
    exact ⟨x, (e x).mp xi, xv⟩
  · obtain ⟨u, u1, u2⟩ := Gm0_ex hci h2 lz gv
    exact ⟨u, CSv_z e51.symm e52.symm e53.symm e54.symm u1, trivial, u2⟩
theorem i_pose2 {K : q_H → Prop} (hd : 7 ≤ d) (hp : p = 16 ∨ p = 29) (hA : IA p s0 s V WI S rc dm R σ0 σ) (kk : ∀ τ wc rq, QQ p s0 s V WI S rc R wc rq (fun v => ∀ i, i < dm → lvb v (R i) = true) σ0 τ → rq ≤ 64 → z τ 47 = z σ 47 → gsm σ τ → K τ) : J ω m_In_pose d 0 0 0 0 0 [(0, .ref 47)] [] σ (q_kv K) := by
  obtain ⟨d, rfl⟩ : ∃ k, d = k + 1 := ⟨d - 1, by omega⟩
  obtain ⟨h, hX, hM, ⟨e1, e3, e4, e2⟩, eR, e91⟩ := id hA
  obtain ⟨hQ, h84, ⟨rc', dm', e1', e2', e3', e4', e5'⟩, f⟩ := id h
  have e5 : ∀ i, i < rc → lit s (z σ 92 i) := fun i hi => e5' i (by omega)
  obtain ⟨⟨hE, r1, r2⟩, gp, hci, hs0, h7, -, -, -, -, hI⟩ := id hQ
  have hs := hci.2.1.2
  generalize hw : z σ (p + 1) = w
  generalize hn : z σ p 0 = n
  obtain ⟨⟨w1, w2, w3, w4⟩, ⟨b1, b2, b3⟩, -⟩ := id gp
  rw [hn] at b1 b3 w1
  rw [hw] at b3
  have wpos : ∀ i : Nat, (i : Int) < n → 1 ≤ w i ∧ w i ≤ 8 := fun i hi => by have := w3 i (by omega); rw [hw] at this; exact this
  have nn : ∀ i, i < n.toNat → 0 ≤ w i := fun i hi => by have := wpos i (by omega); omega
  have smb : ∀ i : Nat, (i : Int) < n → 0 ≤ sm w i ∧ sm w i + w i ≤ 12 := fun i hi => by
    have g1 := sm_le (f := w) (n := n.toNat) nn (n.toNat - (i + 1)) (i + 1) (by omega)
    rw [show i + 1 + (n.toNat - (i + 1)) = n.toNat by omega] at g1
    have g2 : sm w (i + 1) = sm w i + w i := rfl
    have g3 := sm_le (f := w) (n := n.toNat) nn i 0 (by omega)
    rw [Nat.zero_add] at g3
    have g4 : sm w 0 = 0 := rfl
    omega
  have bb := iW_b gp
  have bI : z σ 91 = z σ 91 := rfl
  -- what is demanded
  have g88 : ∀ (m i : Nat) (ρ : q_H) (wc rq : Nat), dm ≤ i + m → i ≤ dm → QQ p s0 s V WI S rc R wc rq (fun v => ∀ j, j < i → lvb v (R j) = true) σ0 ρ → rq ≤ 4 * i → z ρ 47 = z σ 47 → z ρ 92 = z σ 92 → gsm σ ρ → J ω m_In_pose (d + 1) 0 0 0 0 88 [(0, .ref 47), (1, .int (zI (i : Int)))] [] ρ (q_kv K) := by
    intro m
    induction m with
    | zero =>
      intro i ρ wc rq a1 a2 a3 a4 a5 a6 a7
      refine b_In_pose_88 hp a3.1.1.1.2.1 a3.1.1.1.1 ?_
      rw [a5, e3]
      refine ⟨⟨by omega, by omega⟩, fun _ => ⟨rfl, kk ρ wc rq ?_ (by omega) a5 a7⟩, fun c => absurd c (by omega)⟩
      rw [show i = dm by omega] at a3; exact a3
    | succ m ih =>
      intro i ρ wc rq a1 a2 a3 a4 a5 a6 a7
      refine b_In_pose_88 hp a3.1.1.1.2.1 a3.1.1.1.1 ?_
      rw [a5, e3, a6, Int.toNat_natCast]
      refine ⟨⟨by omega, by omega⟩, fun c => ⟨rfl, kk ρ wc rq (by rw [show i = dm by omega] at a3; exact a3) (by omega) a5 a7⟩, fun c => ⟨⟨by omega, by omega⟩, ?_⟩⟩
      have lx := e5 i (by omega)
      have F : fr [93] ρ (zs ρ 93 0 (z σ 92 i)) := fr_s fr_refl (by simp)
      obtain ⟨q1, q2, q3, q4, q5, q6⟩ := id a3
      have I1 := IS_fr hp q1 (fq_of F) (by simp)
      have v93 : z (zs ρ 93 0 (z σ 92 i)) 93 0 = z σ 92 i := z_s (lit_R hs lx)
      refine q_require (s := s) (sz := 1) (by omega) I1.1.1.1 hs (QP_z q4 (fun a ha => fr_zF F (by simp at ha ⊢; omega))) (by omega) (by decide) (fun j hj => by rw [show j = 0 by omega, v93]; exact lx) (fun j hj => ?_) (fun τ hτ ft fm f84 => ?_)
      · rw [show j = 0 by omega, v93, fr_zF F (show (74 : Nat) ∉ [93] by decide), eR i (by omega)]
        exact Or.inr (Or.inl (q6 i (by omega)))
      · have G : fr [70, 71, 72, 73, 78, 79, 80, 81, 93] ρ τ := fr_trans (fr_mono F (by simp)) ft
        have I2 := IS_fr hp q1 (fq_of G) (by simp)
        refine b_In_pose_120 hp I2.1.1.2.1 I2.1.1.1 ?_
        rw [show (i : Int) + 1 = ((i + 1 : Nat) : Int) by omega]
        refine ih (i + 1) τ wc (rq + 3 + 1) (by omega) (by omega) ⟨I2, EXq_fq hp q2 (fq_of G) (by simp) (by rw [fr_zF G (by decide)]; exact q2.2.2.2.2.2), MKq_tr q3 ⟨by rw [fr_zF G (by decide)], by rw [fr_zF G (by decide)], MSs_tr ⟨by rw [fr_zF F (by decide)], by rw [fr_zF F (by decide)]⟩ fm⟩, QP_D hτ (fun v _ => ?_), ?_, by rw [fr_zF G (by decide)]; exact q6⟩ (by omega) (by rw [fr_zF G (by decide)]; exact a5) (by rw [fr_zF G (by decide)]; exact a6) (fun a ha => by rw [fr_zF G (by simp; omega)]; exact a7 a ha)
        · constructor
          · rintro ⟨k1, j, j1, j2⟩ j' hj'
            by_cases c' : j' = i
            · rw [show j = 0 by omega, v93, eR i (by omega)] at j2
              rw [c']; exact j2
            · exact k1 j' (by omega)
          · intro k1
            exact ⟨fun j hj => k1 j (by omega), 0, by decide, by rw [v93, eR i (by omega)]; exact k1 i (by omega)⟩
        · unfold WSH iW iN at q5 ⊢
          rw [fr_zF G (show (83 : Nat) ∉ _ by decide), fr_zF G (show (61 : Nat) ∉ _ by decide), fr_zF G (show p ∉ _ by simp; omega), fr_zF G (show p + 1 ∉ _ by simp; omega)]
          exact q5
  -- the wishes
  have g24 : ∀ (m i : Nat) (ρ : q_H) (wc top : Nat) (cs : List Nat) (Ws : Nat → List Nat), 12 ≤ i + m → (i : Int) ≤ n → fq [70, 71, 72, 73, 74, 76, 78, 79, 80, 81, 83] σ ρ → SC s 1 0 wc 0 top cs Ws [] ρ → (wc : Int) = sm w i → (∀ k, k < wc → (gt (z ρ 83 k) : Int) < 1 + sm w i) → BGs rc s cs σ ρ → (∀ i' b' : Nat, i' < i → (b' : Int) < w i' → z ρ 83 (sm w i' + (w i' - 1 - (b' : Int))).toNat = ng (z σ 61 (8 * i' + b'))) → J ω m_In_pose (d + 1) 0 0 0 0 24 [(0, .ref 47), (1, .int (zI (i : Int)))] [] ρ (q_kv K) := by
    intro m
    have done : ∀ (i : Nat) (ρ : q_H) (wc top : Nat) (cs : List Nat) (Ws : Nat → List Nat), n ≤ (i : Int) → (i : Int) ≤ n → fq [70, 71, 72, 73, 74, 76, 78, 79, 80, 81, 83] σ ρ → SC s 1 0 wc 0 top cs Ws [] ρ → (wc : Int) = sm w i → BGs rc s cs σ ρ → (∀ i' b' : Nat, i' < i → (b' : Int) < w i' → z ρ 83 (sm w i' + (w i' - 1 - (b' : Int))).toNat = ng (z σ 61 (8 * i' + b'))) → J ω m_In_pose (d + 1) 0 0 0 0 88 [(0, .ref 47), (1, .int (zI 0))] [] ρ (q_kv K) := fun i ρ wc top cs Ws hni hin a1 a2 a3 a4 a5 => by
      have ep : z ρ p = z σ p := fq_z a1 (by simp; omega)
      have ep1 : z ρ (p + 1) = z σ (p + 1) := fq_z a1 (by simp; omega)
      have e61 : z ρ 61 = z σ 61 := fq_z a1 (by decide)
      have nI : iN p σ = i := by unfold iN; omega
      have hW : WSH p wc ρ := by
        unfold WSH
        rw [show iW p ρ = iW p σ by unfold iW; rw [ep1], show iN p ρ = iN p σ by unfold iN; rw [ep], e61]
        have e2 := bb.2.2 (iN p σ) (Nat.le_refl _)
        rw [hw, nI] at e2
        rw [nI]
        refine ⟨by omega, fun i' b' h1 h2 => ?_⟩
        have e3 := bb.2.2 i' (by omega)
        rw [hw] at e3
        have wb := wpos i' (by omega)
        have h2' : b' < (w i').toNat := by unfold iW at h2; rw [hw] at h2; exact h2
        have := a5 i' b' h1 (by omega)
        rw [← this]
        congr 1
        unfold iW
        unfold iW at e3
        rw [hw] at e3 ⊢
        omega
      have q := QP_bg hci hX.1 gp hI hX.2.1.1.2 (fq_z a1 (by decide)) (fq_z a1 (by decide)) (fq_z a1 (by decide)) (fq_z a1 (by decide)) e61 ep ep1 a2 a4 hW
      have e91' : z ρ 91 = z σ 91 := fq_z a1 (by decide)
      exact g88 dm 0 ρ wc 0 (by omega) (by omega) ⟨IS_fr hp h a1 (by simp), EXq_fq hp hX a1 (by simp) (by rw [e91']; exact hX.2.2.2.2.2), MKq_tr hM ⟨by rw [fq_z a1 (by decide)], by rw [fq_z a1 (by decide)], by rw [fq_z a1 (by decide)], a4.2.2.2.1⟩, QP_D q (fun v _ => ⟨fun _ j hj => absurd hj (by omega), fun _ => trivial⟩), hW, fun i hi => by rw [← eR i hi]; exact a4.1 i hi⟩ (by omega) (fq_z a1 (by decide)) (fq_z a1 (by decide)) (fun a ha => fq_z a1 (by simp; omega))
    induction m with
    | zero =>
      intro i ρ wc top cs Ws a1 a2 a3 a4 a5 a6 a7 a8
      have Q := (IS_fr hp h a3 (by simp)).1.1
      refine b_In_pose_24 hp Q.2.1 Q.1 ?_
      rw [fq_z a3 (show p ∉ _ by simp; omega), hn]
      exact ⟨⟨by omega, by omega⟩, fun c => done i ρ wc top cs Ws (by omega) (by omega) a3 a4 a5 a7 a8, fun c => absurd c (by omega)⟩
    | succ m ih =>
      intro i ρ wc top cs Ws a1 a2 a3 a4 a5 a6 a7 a8
      have Q := (IS_fr hp h a3 (by simp)).1.1
      refine b_In_pose_24 hp Q.2.1 Q.1 ?_
      rw [fq_z a3 (show p ∉ _ by simp; omega), hn, fq_z a3 (show p + 1 ∉ _ by simp; omega), hw, Int.toNat_natCast]
      refine ⟨⟨by omega, by omega⟩, fun c => done i ρ wc top cs Ws (by omega) (by omega) a3 a4 a5 a7 a8, fun c => ⟨⟨by omega, by omega⟩, ?_⟩⟩
      have wp := wpos i (by omega)
      have sb := smb i (by omega)
      have l : ∀ (k : Nat) (x2 : Int) (ρ : q_H) (wc : Nat), x2 + 1 ≤ (k : Int) → -1 ≤ x2 → x2 < w i → fq [70, 71, 72, 73, 74, 76, 78, 79, 80, 81, 83] σ ρ → SC s 1 0 wc 0 top cs Ws [] ρ → (wc : Int) = sm w i + (w i - 1 - x2) → (∀ k, k < wc → (gt (z ρ 83 k) : Int) < 1 + sm w i ∨ (1 + sm w i + x2 < (gt (z ρ 83 k) : Int) ∧ (gt (z ρ 83 k) : Int) < 1 + sm w i + w i)) →BGs rc s cs σ ρ → (∀ i' b' : Nat, (i' < i ∨ (i' = i ∧ x2 < (b' : Int))) → (b' : Int) < w i' → z ρ 83 (sm w i' + (w i' - 1 - (b' : Int))).toNat = ng (z σ 61 (8 * i' + b'))) → J ω m_In_pose (d + 1) 0 0 0 0 47 [(0, .ref 47), (1, .int (zI (i : Int))), (2, .int (zI x2))] [] ρ (q_kv K) := by
        intro k
        have out : ∀ (x2 : Int) (ρ : q_H) (wc : Nat), x2 < 0 → -1 ≤ x2 → fq [70, 71, 72, 73, 74, 76, 78, 79, 80, 81, 83] σ ρ → SC s 1 0 wc 0 top cs Ws [] ρ → (wc : Int) = sm w i + (w i - 1 - x2) → (∀ k, k < wc → (gt (z ρ 83 k) : Int) < 1 + sm w i ∨ (1 + sm w i + x2 < (gt (z ρ 83 k) : Int) ∧ (gt (z ρ 83 k) : Int) < 1 + sm w i + w i)) →BGs rc s cs σ ρ → (∀ i' b' : Nat, (i' < i ∨ (i' = i ∧ x2 < (b' : Int))) → (b' : Int) < w i' → z ρ 83 (sm w i' + (w i' - 1 - (b' : Int))).toNat = ng (z σ 61 (8 * i' + b'))) → J ω m_In_pose (d + 1) 0 0 0 0 24 [(0, .ref 47), (1, .int (zI ((i : Int) + 1)))] [] ρ (q_kv K) := fun x2 ρ wc b1 b2 b3 b4 b5 b6 b7 b8 => by
          rw [show (i : Int) + 1 = ((i + 1 : Nat) : Int) by omega]
          have g2 : sm w (i + 1) = sm w i + w i := rfl
          exact ih (i + 1) ρ wc top cs Ws (by omega) (by omega) b3 b4 (by omega) (fun k hk => by have := b6 k hk; omega) b7 (fun i' b' h1 h2 => b8 i' b' (by omega) h2)
        induction k with
        | zero =>
          intro x2 ρ wc b0 b1 b2 b3 b4 b5 b6 b7 b8
          have Q := (IS_fr hp h b3 (by simp)).1.1
          exact b_In_pose_47 hp Q.2.1 Q.1 ⟨⟨by omega, by omega⟩, fun _ => out x2 ρ wc (by omega) b1 b3 b4 b5 b6 b7 b8, fun c => absurd c (by omega)⟩
        | succ k ih2 =>
          intro x2 ρ wc b0 b1 b2 b3 b4 b5 b6 b7 b8
          have Q := (IS_fr hp h b3 (by simp)).1.1
          refine b_In_pose_47 hp Q.2.1 Q.1 ⟨⟨by omega, by omega⟩, fun c0 => out x2 ρ wc c0 b1 b3 b4 b5 b6 b7 b8, fun c0 => ⟨⟨by omega, by omega⟩, ?_⟩⟩
          have e61 : z ρ 61 ((i : Int) * 8 + x2).toNat = 2 * (1 + sm w i + x2) := by
            rw [fq_z b3 (by decide)]
            have := hI.2.1 i x2.toNat (by omega) (by rw [hw]; omega)
            rw [hw] at this
            rw [show ((i : Int) * 8 + x2).toNat = 8 * i + x2.toNat by omega, this]
            omega
          have ll : lit s (z ρ 61 ((i : Int) * 8 + x2).toNat) := by
            rw [fq_z b3 (by decide)]; exact lit_m (hI.1 _ (by omega)) hs0.2
          rw [zX_ng hs ll]
          have ln := ng_lit ll
          have eg : (gt (ng (z ρ 61 ((i : Int) * 8 + x2).toNat)) : Int) = 1 + sm w i + x2 := by
            rw [gt_ng, e61]; unfold gt; omega
          refine s_wish Q.1 hs b4 (by omega) ln (fun k hk => ?_) (fun τ ft hS e83 fk12 => ?_)
          · have := b6 k hk
            intro e
            rw [← e] at eg
            omega
          · have b3' := fq_trans b3 (fq_of (fr_mono ft (by simp) : fr [70, 71, 72, 73, 74, 76, 78, 79, 80, 81, 83] ρ τ))
            have Q2 := (IS_fr hp h b3' (by simp)).1.1
            refine b_In_pose_74 hp Q2.2.1 Q2.1 (ih2 (x2 - 1) τ (wc + 1) (by omega) (by omega) (by omega) b3' hS (by omega) (fun k hk => ?_) (BGs_w b7 ft fk12) (fun i' b' h1 h2 => ?_))
            · rw [e83]
              by_cases q : k = wc
              · rw [q, up_s]; omega
              · rw [up_n q]; have := b6 k (by omega); omega
            · rw [e83]
              by_cases q : i' = i ∧ (b' : Int) = x2
              · obtain ⟨q1, q2⟩ := q
                subst q1
                rw [show (sm w i' + (w i' - 1 - (b' : Int))).toNat = wc by omega, up_s, fq_z b3 (show (61 : Nat) ∉ _ by decide), show ((i' : Int) * 8 + x2).toNat = 8 * i' + b' by omega]
              · have hlt : sm w i' + (w i' - 1 - (b' : Int)) < (wc : Int) ∧ 0 ≤ sm w i' + (w i' - 1 - (b' : Int)) := by
                  rcases h1 with h1 | ⟨h1, h1'⟩
                  · have g1 := sm_le (f := w) (n := n.toNat) nn (i - (i' + 1)) (i' + 1) (by omega)
                    rw [show i' + 1 + (i - (i' + 1)) = i by omega] at g1
                    have g2 : sm w (i' + 1) = sm w i' + w i' := rfl
                    have g3 := smb i' (by omega)
                    omega
                  · subst h1
                    omega
                rw [up_n (by omega)]
                exact b8 i' b' (by omega) h2
      exact l 8 (w i - 1) ρ wc (by omega) (by omega) (by omega) a3 a4 (by omega) (fun k hk => Or.inl (a6 k hk)) a7 (fun i' b' h1 h2 => by
        rcases h1 with h1 | ⟨h1, h1'⟩
        · exact a8 i' b' h1 h2
        · subst h1; omega)
  refine b_In_pose_0 hp r1 hE (b_En_circuit_0 hp r2 hE ⟨50, rfl, rfl, b_In_pose_11 hp r1 hE ?_⟩)
  rw [e1]
  refine s_begin2 (by omega) hE hci e2 e5 h84 (fun τ top cs Ws ft hS k1 k2 k3 k4 k5 k6 => ?_)
  have F : fq [70, 71, 72, 73, 74, 76, 78, 79, 80, 81, 83] σ τ := fq_of (fr_mono ft (by simp))
  have Q := (IS_fr hp h F (by simp)).1.1
  exact b_In_pose_22 hp Q.2.1 Q.1 (g24 12 0 τ 0 top cs Ws (by decide) (by omega) F hS rfl (fun k hk => absurd hk (by omega)) ⟨k1, k2, k3, k4, k6⟩ (fun i' b' h1 _ => absurd h1 (by omega)))
end I3J
