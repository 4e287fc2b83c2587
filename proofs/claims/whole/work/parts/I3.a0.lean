/-! THE INVARIANT, whole -/
def PGb (p s : Nat) (D : q_Ds) (S : List q_St) (w as s0 s1 : Nat) (Nt : Nat → q_It) (σ : q_H) : Prop :=
  ((D.1.length ≤ bts D.1 ∧ bts D.1 ≤ 12) ∧ D.2.1.length ≤ 12 ∧ (∀ e, e ∈ D.1 ∨ e ∈ D.2.1 → 1 ≤ e.2 ∧ e.2 ≤ 8)) ∧ QS p s0 s1 σ ∧ PS2 p (wI6 D (z σ (p + 1))) D.2.1.length S σ ∧
  ((z σ p 0 = (D.1.length : Int) ∧ z σ 94 26 = (D.1.length : Int)) ∧ (z σ p 4 = (D.2.1.length : Int) ∧ z σ 94 27 = (D.2.1.length : Int)) ∧ (z σ p 1 = (bts D.1 : Int) ∧ z σ 94 29 = (bts D.1 : Int)) ∧ (z σ p 7 = (as : Int) ∧ z σ 94 28 = (as : Int)) ∧ (z σ p 8 = (w : Int) ∧ z σ 94 30 = (w : Int) ∧ w ≤ 1500)) ∧
  (∀ j e, D.1[j]? = some e → z σ (p + 1) j = (e.2 : Int) ∧ z σ 106 j = (e.2 : Int)) ∧ (∀ j e, D.2.1[j]? = some e → z σ (p + 3) j = (e.2 : Int) ∧ z σ 107 j = (e.2 : Int)) ∧
  ND2 Nt D.2.1.length s σ S w ∧ (∀ t v w, Nt t = (25, v, w) → cI (wI6 D (z σ (p + 1))) (z σ (p + 3)) D.2.1.length (25, v, w)) ∧
  ((∀ j, j < 16 → 0 ≤ z σ 126 j) ∧ (∀ j, j < D.1.length → z σ 126 j < 2 ^ (z σ (p + 1) j).toNat)) ∧ (-1 ≤ z σ 94 62 ∧ z σ 94 62 < 2 ^ (bts D.1)) ∧
  TS D.2.1.length (fun e => PE (cI (wI6 D (z σ (p + 1))) (z σ (p + 3)) D.2.1.length) e ∧ hB e.1 0 = some 1) true 0 0 0 0 S w as ∧ HI s1 σ ∧ ENs D.2.1.length (z σ (p + 3)) S σ s0 ∧ TBq p D.2.1.length S σ
theorem PG_b {p s : Nat} {σ : q_H} : PG p s σ ↔ ∃ (D : q_Ds) (S : List q_St) (w as s0 s1 : Nat) (Nt : Nat → q_It), PGb p s D S w as s0 s1 Nt σ := Iff.rfl
/-- what goes with it -/
def Ex1 (p : Nat) (σ : q_H) : Prop :=
  (b256 (z σ 91) ∧ n16 (z σ 125) ∧ b256 (z σ 42)) ∧ (z σ 47 10 = 0 ∧ z σ 75 3 = 0 ∧ z σ 71 4 = 0 ∧ z σ 50 8 = 0) ∧ z σ 43 1 = z σ 94 63 ∧ (∀ j, j < 12 → z σ 42 j = z σ 126 j) ∧ (∀ j : Nat, j < 12 → (j : Int) < z σ p 4 → z σ 44 j = z σ 129 j) ∧
  ((z σ 47 5 = 0 ∧ z σ 94 62 = -1) ∨ (z σ 47 5 = 1 ∧ ∃ t : Nat, z σ 94 62 = (t : Int) ∧ ∀ i, i < iN p σ → z σ 91 i = ((spr (iW p σ) (iN p σ) t i : Nat) : Int)))
def Inv (n : Nat) (σ : q_H) : Prop := ∃ p q s u m, Bas n p q s u m σ ∧ Ex1 p σ
section PbP
variable {ω : q_W} {n n' m m' p q s u w as s0 s1 s' : Nat} {D : q_Ds} {S : List q_St} {Nt : Nat → q_It} {σ ρ τ : q_H} {x y : Int}
theorem rnT_z (e0 : z τ p = z σ p) (e1 : z τ (p + 1) = z σ (p + 1)) (e3 : z τ (p + 3) = z σ (p + 3)) : rnT p S τ = rnT p S σ := funext fun t => by
  unfold rnT
  rw [iW_z e1, iN_z e0, e3]
theorem PGb_to (hs : s = 110 ∨ s = 116) (hp : p = 16 ∨ p = 29) (h : PGb p s D S w as s0 s1 Nt σ) (hQ : QS p s0 s' τ) (hH : HI s' τ) (hEN : ENs D.2.1.length (z τ (p + 3)) S τ s0) (hz : ∀ o, p ≤ o → o ≤ p + 12 → z τ o = z σ o) (hn : ∀ o, (o = s ∨ o = s + 1 ∨ o = s + 2 ∨ o = s + 3 ∨ o = s + 4 ∨ o = s + 5) → z τ o = z σ o) (h6 : z τ 106 = z σ 106) (h7 : z τ 107 = z σ 107) (h94 : ∀ k, k ∈ [26, 27, 28, 29, 30, 45] → z τ 94 k = z σ 94 k) (hno : (∀ j, j < 16 → 0 ≤ z τ 126 j) ∧ (∀ j, j < D.1.length → z τ 126 j < 2 ^ (z τ (p + 1) j).toNat)) (hwi : -1 ≤ z τ 94 62 ∧ z τ 94 62 < 2 ^ (bts D.1)) (hT : TBq p D.2.1.length S τ) : PGb p s D S w as s0 s' Nt τ := by
  obtain ⟨hD, -, hP, hN, hi, hv, hd, ht, -, -, hts, -, -, -⟩ := h
  have p1 := hz (p + 1) (by omega) (by omega)
  have p3 := hz (p + 3) (by omega) (by omega)
  refine ⟨hD, hQ, ?_, ?_, ?_, ?_, ND2_cong hd hn (h94 45 (by simp)), ?_, hno, hwi, ?_, hH, hEN, hT⟩
  · rw [p1]; exact PS2_cong hP hz
  · rw [hz p (by omega) (by omega), h94 26 (by simp), h94 27 (by simp), h94 28 (by simp), h94 29 (by simp), h94 30 (by simp)]; exact hN
  · rw [p1, h6]; exact hi
  · rw [p3, h7]; exact hv
  · rw [p1, p3]; exact ht
  · rw [p1, p3]; exact hts
theorem PGb_L (h : PGb p s D S w as s0 s1 Nt σ) : S.length ≤ 1638 ∧ w ≤ 1500 ∧ iN p σ = D.1.length ∧ iN p σ ≤ 12 ∧ (∀ i, i < D.1.length → ∃ e : Nat, z σ (p + 1) i = (e : Int) ∧ z σ 106 i = (e : Int) ∧ 1 ≤ e ∧ e ≤ 8) := by
  obtain ⟨hD, hQ, hP, hN, hi, -⟩ := h
  have h11 := hP.2.1
  have g11 := hQ.2.1.2.2.2.1.2.1
  refine ⟨by omega, hN.2.2.2.2.2.2, ?_, ?_, fun i hi' => ?_⟩
  · unfold iN; omega
  · unfold iN; omega
  · have e := List.getElem?_eq_getElem hi'
    obtain ⟨a, b⟩ := hi i _ e
    have := hD.2.2 _ (Or.inl (List.getElem_mem hi'))
    exact ⟨_, a, b, this⟩
theorem PGb_run (h : PGb p s D S w as s0 s1 Nt σ) (I : Nat → Nat) : ((runF S (z σ (p + 3)) I).1 = 0 ∧ (runF S (z σ (p + 3)) I).2.1 = -1 ∧ uO (z σ (p + 3)) (runF S (z σ (p + 3)) I).2.2 ∨ vf 0 as (runF S (z σ (p + 3)) I).1 (runF S (z σ (p + 3)) I).2.1) ∧ ∀ R, mIt S (z σ (p + 3)) I 999999 (0, fun _ => 0, R) = .inr (runF S (z σ (p + 3)) I) := by
  have L := PGb_L h
  exact T_whole (fun i => Nat.two_pow_pos _) h.2.2.2.2.2.2.2.2.2.2.1 L.1 L.2.1
theorem PGb_WI (h : PGb p s D S w as s0 s1 Nt σ) : ∀ i : Nat, i < 12 → ((i : Int) < z σ p 0 ∧ wI6 D (z σ (p + 1)) i = z σ (p + 1) i) ∨ 31 ≤ wI6 D (z σ (p + 1)) i := fun i _ => by
  have e := h.2.2.2.1.1.1
  unfold wI6
  by_cases c : i < D.1.length
  · rw [if_pos c]; exact Or.inl ⟨by omega, rfl⟩
  · rw [if_neg c]; exact Or.inr (by decide)
theorem PGb_EX (h : PGb p s D S w as s0 s1 Nt σ) (hb : b256 (z σ 91)) : EXq p s0 s1 D.2.1.length (wI6 D (z σ (p + 1))) S σ :=
  ⟨h.2.2.2.2.2.2.2.2.2.2.2.1, h.2.2.2.2.2.2.2.2.2.2.2.2.1, h.2.2.1, fun I R => (PGb_run h I).2 R, fun i hi => (PGb_WI h i hi).imp id (fun q => by omega), hb⟩
theorem PGb_RWd (h : PGb p s D S w as s0 s1 Nt σ) : RWd p σ := by
  obtain ⟨-, -, L3, L4, L5⟩ := PGb_L h
  have gp := h.2.1.2.1
  have bb := (iW_b gp).2.2 (iN p σ) (Nat.le_refl _)
  have g3 := gp.2.1.2.2
  have g3' : sm (z σ (p + 1)) (iN p σ) = z σ p 1 := g3
  have g2 := gp.2.1.2.1
  obtain ⟨-, -, -, ⟨⟨n1, n2⟩, -, ⟨n3, n4⟩, -⟩, -⟩ := h
  refine ⟨by rw [n2, L3], L4, fun i hi => ?_, by omega, by omega⟩
  obtain ⟨e, e1, e2, e3⟩ := L5 i (by omega)
  unfold iW
  rw [e1, e2]
  exact ⟨by omega, by omega, by omega⟩
theorem PGb_RF (h : PGb p s D S w as s0 s1 Nt σ) (hR : RQ s σ) (h65 : z σ 94 65 = 0) (h31 : z σ 94 31 = 1) (hn : n16 (z σ 125)) : RF p s D.2.1.length (wI6 D (z σ (p + 1))) Nt S w σ := by
  have L := PGb_L h
  have R := PGb_RWd h
  have ps := h.2.2.1
  have g17 := h.2.1.2.1.2.2.1.2.1
  have e17 := ps.2.2.2.1.1
  refine ⟨⟨hR, h65, h.2.2.2.2.2.2.2.1, h.2.2.2.2.2.2.1, ⟨fun x hx => ⟨(ps.2.2.2.2 x hx).1, ?_⟩, L.1, L.2.1⟩, fun I => ⟨fun e => ?_, (PGb_run h I).2⟩, PGb_WI h, hn, R, h.1.2.1, fun v hv => ?_⟩, by omega, h.2.2.2.1.2.1.2, h.2.2.2.2.2.2.2.2.2.2.2.2.2⟩
  · have := itF_len S x hx
    omega
  · rcases (PGb_run h I).1 with q | q
    · exact q.2.2
    · unfold vf at q; omega
  · have e := List.getElem?_eq_getElem hv
    have a := (h.2.2.2.2.2.1 v _ e).1
    have := h.1.2.2 _ (Or.inr (List.getElem_mem hv))
    omega
/-- what carries Bas on -/
theorem Bas_to (h : Bas n p q s u m σ) (hE : q_E τ) (hn : q_n τ ≤ 132 + n') (r12 : q_r τ 1 2 = q_r σ 1 2) (r13 : q_r τ 1 3 = q_r σ 1 3) (r94 : q_r τ 94 = q_r σ 94) (l7 : q_l τ 7 = q_l σ 7) (hz : ∀ o, o = 1 ∨ (16 ≤ o ∧ o ≤ 41) → z τ o = z σ o) (h84 : ∀ g, z τ 84 g = 0) (h47 : z τ 47 5 = 0 ∨ z τ 47 5 = 1) (hTX : TXe m' τ) (k94 : ∀ k, k ∈ [31, 50, 51, 65] → z τ 94 k = z σ 94 k) (hb : (z σ 1 4 = 0 → PN σ → PN τ) ∧ (z σ 1 4 = 1 → PG p s σ → PG p s τ)) : Bas n' p q s u m' τ := by
  obtain ⟨-, ⟨b12, b13, hpq⟩, bw, ⟨bw1, bw2⟩, -, -, -, bV, b65, ⟨bf1, bf2⟩, bt⟩ := h
  have e1 := hz 1 (by omega)
  refine ⟨⟨hE, hn⟩, ⟨by rw [r12]; exact b12, by rw [r13]; exact b13, hpq⟩, by rw [l7]; exact bw, ⟨?_, ?_⟩, h84, h47, hTX, RV_c bV r94 hE, by rw [k94 65 (by simp)]; exact b65, ⟨?_, ?_⟩, ?_⟩
  · unfold WD at bw1 ⊢; rw [hz 19 (by omega)]; exact bw1
  · unfold WD at bw2 ⊢; rw [hz 32 (by omega)]; exact bw2
  · rw [e1, k94 50 (by simp)]; exact bf1
  · rw [e1, k94 51 (by simp)]; exact bf2
  · rw [e1, k94 31 (by simp)]
    rcases bt with ⟨a, b, c⟩ | ⟨a, b, c⟩
    · exact Or.inl ⟨a, b, hb.1 a c⟩
    · exact Or.inr ⟨a, b, hb.2 a c⟩
theorem TXe_z (h : TXe m σ) (e2 : z τ 2 2 = z σ 2 2) (e94 : z τ 94 2 = z σ 94 2) (e3 : z τ 3 = z σ 3) (e95 : z τ 95 = z σ 95) : TXe m τ := by
  unfold TXe at h ⊢
  rw [e2, e94, e3, e95]
  exact h
/-- the rest stays, where its cells do -/
theorem Ex1_z (h : Ex1 p σ) (hp : p = 16 ∨ p = 29) (e : ∀ o, o ∈ [42, 43, 44, 47, 50, 71, 75, 91, 125, 126, 129, p, p + 1] → z τ o = z σ o) (k : ∀ k, k ∈ [62, 63] → z τ 94 k = z σ 94 k) : Ex1 p τ := by
  unfold Ex1 iN iW at h ⊢
  rw [e 91 (by simp), e 125 (by simp), e 42 (by simp), e 47 (by simp), e 75 (by simp), e 71 (by simp), e 50 (by simp), e 43 (by simp), e 126 (by simp), e 44 (by simp), e 129 (by simp), e p (by simp), e (p + 1) (by simp), k 62 (by simp), k 63 (by simp)]
  exact h
/-- a call that throws, and nothing else: only the reference's word of it -/
theorem Inv_x {t : Nat × Nat} (hB : Bas n p q s u m σ) (hX : Ex1 p σ) (f : fr [94] (q_add σ t) τ) (hk : ∀ k, k ≠ 0 → z τ 94 k = z σ 94 k) : Inv (n + 1) τ := by
  have hE := hB.1.1
  have hpq := hB.2.1.2.2
  have hp : p = 16 ∨ p = 29 := by omega
  have E1 : q_E (q_add σ t) := q_E_ex hE
  have ez : ∀ o, o ≤ 132 → o ≠ 94 → z τ o = z σ o := fun o ho h4 => by rw [fr_zF f (by simpa using h4), ex_z hE t ho]
  have er : ∀ o, o ≤ 132 → q_r τ o = q_r σ o := fun o ho => funext fun k => by rw [fr_r f, ex_r hE t ho]
  have hs := hB.2.2.2.2.2.2.2.1.1.1.1
  refine ⟨p, q, s, u, m, Bas_to hB (fr_E f E1) ?_ (by rw [er 1 (by decide)]) (by rw [er 1 (by decide)]) (er 94 (by decide)) ?_ (fun o ho => ez o (by omega) (by omega)) (fun g => by rw [ez 84 (by decide) (by decide)]; exact hB.2.2.2.2.1 g) (by rw [ez 47 (by decide) (by decide)]; exact hB.2.2.2.2.2.1) (TXe_z hB.2.2.2.2.2.2.1 (by rw [ez 2 (by decide) (by decide)]) (hk 2 (by decide)) (ez 3 (by decide) (by decide)) (ez 95 (by decide) (by decide))) (fun k h => hk k (by rintro rfl; simp at h)) ⟨fun _ h => ?_, fun _ h => ?_⟩, Ex1_z hX hp (fun o ho => ?_) (fun k h => hk k (by rintro rfl; simp at h))⟩
  · rw [f.1]
    show q_n σ + 1 ≤ _
    have := hB.1.2
    omega
  · rw [(f.2.2.2 7 (by decide)).2, ex_l hE t (by decide)]
  · unfold PN at h ⊢
    rw [hk 26 (by decide), hk 27 (by decide), hk 28 (by decide), hk 30 (by decide), hk 62 (by decide), ez 47 (by decide) (by decide)]
    exact h
  · exact PG_cong hs hp h (fr_E f E1) (by rw [er 47 (by decide)]) (by rw [er 48 (by decide)]) (fun o a b => ez o (by omega) (by omega)) (fun o a b => ez o (by omega) (by omega)) (fun o ho => ez o (by omega) (by omega)) (ez 106 (by decide) (by decide)) (ez 107 (by decide) (by decide)) (ez 126 (by decide) (by decide)) (fun k h => hk k (by rintro rfl; simp at h)) (fun o ho => ez o (by simp at ho; omega) (by simp at ho; omega))
  · simp only [List.mem_cons, List.not_mem_nil, or_false] at ho
    exact ez o (by omega) (by omega)
/-- behind a question that the reference has answered too -/
theorem Inv_q (hB : Bas n p q s u m σ) (hX : Ex1 p σ) (h14 : z σ 1 4 = 1) (hG : PGb p s D S w as s0 s1 Nt σ) (hIQ : QS p s0 s' ρ) (hI84 : ∀ g, z ρ 84 g = 0) (hIf : fq SQ σ ρ) (hXq : EXq p s0 s' D.2.1.length (wI6 D (z σ (p + 1))) S ρ) (hM : MKq σ ρ) {π : q_H} (hn : q_n π ≤ 132 + (n + 1)) (hE : q_E π) (er : ∀ o, o ≤ 132 → q_r π o = q_r ρ o) (el : q_l π 7 = q_l ρ 7) (ez : ∀ o, o ≤ 132 → z π o = z ρ o) (hQ : MQa p D.2.1.length S y x π τ) (hw : (z ρ 47 5 = 0 ∧ x = -1) ∨ (z ρ 47 5 = 1 ∧ ∃ t : Nat, x = (t : Int) ∧ t < 2 ^ smn (iW p σ) (iN p σ) ∧ ∀ i, i < iN p σ → z ρ 91 i = ((spr (iW p σ) (iN p σ) t i : Nat) : Int))) : Inv (n + 1) τ := by
  obtain ⟨f, hk, h0, h62, h55, h125, hT⟩ := hQ
  have hpq := hB.2.1.2.2
  have hp : p = 16 ∨ p = 29 := by omega
  have hs := hB.2.2.2.2.2.2.2.1.1.1.1
  have e : ∀ a, a ∉ SQ → z ρ a = z σ a := fun a ha => fq_z hIf ha
  have eρ : ∀ a, a ≤ 132 → a ∉ [94, 122, 123, 124, 125, 128, 130, 131] → z τ a = z ρ a := fun a h1 h2 => by rw [fr_zF f h2, ez a h1]
  have eσ : ∀ a, a ≤ 132 → a ∉ [94, 122, 123, 124, 125, 128, 130, 131] → a ∉ SQ → z τ a = z σ a := fun a h1 h2 h3 => by rw [eρ a h1 h2, e a h3]
  have kk : ∀ k, k ∉ [0, 55, 61, 62] → z τ 94 k = z σ 94 k := fun k hk' => by rw [hk k hk', ez 94 (by decide), e 94 (by decide)]
  have pz : ∀ o, p ≤ o → o ≤ p + 12 → z τ o = z σ o := fun o a b => eσ o (by omega) (by simp; omega) (by unfold SQ; simp; omega)
  have Eτ := fr_E f hE
  have er' : ∀ o k, o ≤ 132 → o ≠ 87 → q_r τ o k = q_r σ o k := fun o k h1 ho => by rw [fr_r f, er o h1]; exact frE_r hIf (by simp; omega)
  have eR : rnT p S π = rnT p S τ := (rnT_z (by rw [ez p (by omega), eρ p (by omega) (by simp; omega)]) (by rw [ez (p + 1) (by omega), eρ (p + 1) (by omega) (by simp; omega)]) (by rw [ez (p + 3) (by omega), eρ (p + 3) (by omega) (by simp; omega)]))
  have eW : iW p π = iW p τ := iW_z (by rw [ez (p + 1) (by omega), eρ (p + 1) (by omega) (by simp; omega)])
  have eN : iN p π = iN p τ := iN_z (by rw [ez p (by omega), eρ p (by omega) (by simp; omega)])
  have eWσ : iW p τ = iW p σ := iW_z (pz (p + 1) (by omega) (by omega))
  have eNσ : iN p τ = iN p σ := iN_z (pz p (by omega) (by omega))
  have hRW := PGb_RWd hG
  have b62 : -1 ≤ x ∧ x < 2 ^ (bts D.1) := by
    have w4 := hRW.2.2.2.1
    have n4 := hG.2.2.2.1.2.2.1.2
    have eb : smn (iW p σ) (iN p σ) = bts D.1 := by omega
    have p2 := Nat.two_pow_pos (bts D.1)
    have ep : ((2 ^ bts D.1 : Nat) : Int) = (2 : Int) ^ bts D.1 := by simp
    rcases hw with ⟨-, a⟩ | ⟨-, t, a, b, -⟩
    · omega
    · rw [eb] at b; omega
  have hP : PG p s τ := PG_b.mpr ⟨D, S, w, as, s0, s', Nt, PGb_to hs hp hG (QS_cong hp hIQ Eτ (by rw [fr_r f, er 47 (by decide)]) (by rw [fr_r f, er 48 (by decide)]) (fun o a b => eρ o (by omega) (by simp; omega)) (fun o a b => eρ o (by omega) (by simp; omega))) (HI_z (fun o a b => eρ o (by omega) (by simp; omega)) hXq.1) ?_ pz (fun o ho => eσ o (by omega) (by simp; omega) (by unfold SQ; simp; omega)) (eσ 106 (by decide) (by decide) (by decide)) (eσ 107 (by decide) (by decide) (by decide)) (fun k hk' => kk k (by simp at hk' ⊢; omega)) ?_ (by rw [h62]; exact b62) (Or.inr ⟨h55, ?_⟩)⟩
  · refine ⟨p, q, s, u, m, Bas_to hB Eτ (by rw [f.1]; exact hn) (er' 1 2 (by decide) (by decide)) (er' 1 3 (by decide) (by decide)) (funext fun k => er' 94 k (by decide) (by decide)) ?_ (fun o ho => eσ o (by omega) (by simp; omega) (by unfold SQ; simp; omega)) (fun g => by rw [eρ 84 (by decide) (by decide)]; exact hI84 g) ?_ (TXe_z hB.2.2.2.2.2.2.1 (by rw [eσ 2 (by decide) (by decide) (by decide)]) (kk 2 (by decide)) (eσ 3 (by decide) (by decide) (by decide)) (eσ 95 (by decide) (by decide) (by decide))) (fun k hk' => kk k (by simp at hk' ⊢; omega)) ⟨fun c => absurd c (by omega), fun _ _ => hP⟩, ?_⟩
    · rw [(f.2.2.2 7 (by decide)).2, el]; exact (hIf.2.2.2 7 (by decide)).2
    · rw [eρ 47 (by decide) (by decide)]
      rcases hw with ⟨a, -⟩ | ⟨a, -⟩
      · exact Or.inl a
      · exact Or.inr a
    · obtain ⟨⟨x1, x2, x3⟩, ⟨y1, y2, y3, y4⟩, x4, x5, x6, x7⟩ := hX
      refine ⟨⟨by rw [eρ 91 (by decide) (by decide)]; exact hXq.2.2.2.2.2, h125, by rw [eσ 42 (by decide) (by decide) (by decide)]; exact x3⟩, ⟨?_, ?_, ?_, ?_⟩, ?_, ?_, ?_, ?_⟩
      · rw [eρ 47 (by decide) (by decide), hM.2.1]; exact y1
      · rw [eρ 75 (by decide) (by decide), hM.2.2.1]; exact y2
      · rw [eρ 71 (by decide) (by decide), hM.2.2.2]; exact y3
      · rw [eρ 50 (by decide) (by decide), hM.1]; exact y4
      · rw [eσ 43 (by decide) (by decide) (by decide), kk 63 (by decide)]; exact x4
      · rw [eσ 42 (by decide) (by decide) (by decide), eσ 126 (by decide) (by decide) (by decide)]; exact x5
      · rw [eσ 44 (by decide) (by decide) (by decide), eσ 129 (by decide) (by decide) (by decide), pz p (by omega) (by omega)]; exact x6
      · rw [eρ 47 (by decide) (by decide), eρ 91 (by decide) (by decide), h62, eWσ, eNσ]
        rcases hw with a | ⟨a, t, b, -, c⟩
        · exact Or.inl a
        · exact Or.inr ⟨a, t, b, c⟩
  · have q := hXq.2.1
    rw [eρ (p + 3) (by omega) (by simp; omega)]
    exact ENs_cong q (eρ 48 (by decide) (by decide)) (eρ 51 (by decide) (by decide)) (eρ 52 (by decide) (by decide)) (eρ 53 (by decide) (by decide)) (eρ 54 (by decide) (by decide)) (eρ 61 (by decide) (by decide)) (eρ 62 (by decide) (by decide)) (eρ 63 (by decide) (by decide))
  · rw [eσ 126 (by decide) (by decide) (by decide), pz (p + 1) (by omega) (by omega)]; exact hG.2.2.2.2.2.2.2.2.1
  · unfold TB1 at hT
    rw [eR, eW, eN] at hT
    exact hT
end PbP
