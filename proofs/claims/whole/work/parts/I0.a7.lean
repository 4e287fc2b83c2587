/-! THE SOLVER: a clause is required; what stands of models -/
def SXn (Gm : (Nat → Bool) → Prop) (Rel : Nat → Prop) (M0 : Nat → Int) (cs0 : List Nat) (ts : Nat) (cs : List Nat) (ρ : q_H) : Prop :=
  SND Gm (z ρ 72) cs ∧ U0 Gm ts (z ρ 79) (z ρ 80) (z ρ 81) ∧ (∀ i, i < ts → z ρ 79 (gt (z ρ 81 i)) = 0 → z ρ 80 (gt (z ρ 81 i)) = 0 → z ρ 76 (z ρ 81 i).toNat = 1) ∧ (∀ i : Nat, (i : Int) < z ρ 70 8 → i < ts → z ρ 76 (z ρ 81 i).toNat = 1) ∧
  (∀ c ∈ cs, ∀ x, inC (z ρ 72) c x → Rel (gt x)) ∧ (∀ i, i < ts → Rel (gt (z ρ 81 i))) ∧ (z ρ 70 13 = 0 → ∀ c ∈ cs, 1 ≤ z ρ 72 c ∧ (z ρ 72 c = 1 → ∃ i, i < ts ∧ z ρ 81 i = z ρ 72 (c + 3) ∧ z ρ 79 (gt (z ρ 81 i)) = 0)) ∧ CS0 M0 cs0 (z ρ 72) cs ∧ 0 < ts ∧ z ρ 81 0 = 0
/-- what keeps the clauses is a model -/
def CMP (Gm : (Nat → Bool) → Prop) (M0 : Nat → Int) (cs0 : List Nat) : Prop := ∀ v : Nat → Bool, v 0 = true → (∀ c ∈ cs0, sC M0 c v) → Gm v
/-- the clauses asked for have become more -/
def QXm (M0 : Nat → Int) (cs0 : List Nat) (M1 : Nat → Int) (cs1 : List Nat) : Prop := ∀ c ∈ cs0, c ∈ cs1 ∧ ∀ x, inC M1 c x ↔ inC M0 c x
def GmR (Gm : (Nat → Bool) → Prop) (f : Nat → Int) (n : Nat) (v : Nat → Bool) : Prop := Gm v ∧ ∃ i, i < n ∧ lvb v (f i) = true
section RsP
variable {s ts lv wc rq top : Nat} {cs cs0 cs1 : List Nat} {M0 M1 : Nat → Int} {Gm Gm' : (Nat → Bool) → Prop} {Rel : Nat → Prop} {ρ τ : q_H}
theorem SXn_m (h : SXn Gm Rel M0 cs0 ts cs ρ) (h13 : z ρ 70 13 = 0) : SXm Gm Rel M0 cs0 ts 0 cs ρ := by
  obtain ⟨a1, a2, a3, a4, a5, a6, a7, a8, a9⟩ := h
  exact ⟨a1, a2, a3, a4, fun q => absurd q (by omega), a5, a6, a7 h13, a8, a9⟩
theorem SXm_n (h : SXm Gm Rel M0 cs0 ts 0 cs ρ) : SXn Gm Rel M0 cs0 ts cs ρ := by
  obtain ⟨a1, a2, a3, a4, -, a5, a6, a7, a8, a9⟩ := h
  exact ⟨a1, a2, a3, a4, a5, a6, fun _ => a7, a8, a9⟩
theorem SXn_mono (h : SXn Gm Rel M0 cs0 ts cs ρ) (hg : ∀ v, Gm' v → Gm v) : SXn Gm' Rel M0 cs0 ts cs ρ := by
  obtain ⟨a1, a2, a3⟩ := h
  exact ⟨fun v hv => a1 v (hg v hv), fun v hv => a2 v (hg v hv), a3⟩
theorem SXn_fr {S : List Nat} (h : SXn Gm Rel M0 cs0 ts cs ρ) (f : fr S ρ τ) (hS : ∀ a ∈ [70, 72, 76, 79, 80, 81], a ∉ S) : SXn Gm Rel M0 cs0 ts cs τ := by
  unfold SXn at h ⊢
  rw [fr_zF f (hS 70 (by simp)), fr_zF f (hS 72 (by simp)), fr_zF f (hS 76 (by simp)), fr_zF f (hS 79 (by simp)), fr_zF f (hS 80 (by simp)), fr_zF f (hS 81 (by simp))]
  exact h
theorem QXm_refl : QXm M0 cs0 M0 cs0 := fun c hc => ⟨hc, fun _ => Iff.rfl⟩
theorem TTo_q {w : Nat → Int} (h : TTo s wc M0 cs0 Rel w) (q : QXm M0 cs0 M1 cs1) : TTo s wc M1 cs1 Rel w := fun V ht hu v0 hw => h V ht (fun c hc y yi ho => hu c (q c hc).1 y (((q c hc).2 y).mpr yi) (fun x xi ne => ho x (((q c hc).2 x).mp xi) ne)) v0 hw
/-- the clause is in the row -/
theorem SX_add {k : Nat} {σ1 τ2 : q_H} (hcl : CLp (z σ1 72) top s cs) (F2 : fr [71, 72, 73] σ1 τ2) (hM : ∀ j, j < top → z τ2 72 j = z σ1 72 j) (inn : ∀ x, inC (z τ2 72) top x ↔ ∃ i, i < k ∧ z σ1 93 i = x) (h : SXn Gm Rel M0 cs0 ts cs σ1) (hg : ∀ v, Gm' v → Gm v ∧ ∃ i, i < k ∧ lvb v (z σ1 93 i) = true) (hr : ∀ i, i < k → Rel (gt (z σ1 93 i))) :
    (SND Gm' (z τ2 72) (top :: cs) ∧ U0 Gm' ts (z τ2 79) (z τ2 80) (z τ2 81) ∧ (∀ i, i < ts → z τ2 79 (gt (z τ2 81 i)) = 0 → z τ2 80 (gt (z τ2 81 i)) = 0 → z τ2 76 (z τ2 81 i).toNat = 1) ∧ (∀ i : Nat, (i : Int) < z τ2 70 8 → i < ts → z τ2 76 (z τ2 81 i).toNat = 1)) ∧
    ((∀ c ∈ top :: cs, ∀ x, inC (z τ2 72) c x → Rel (gt x)) ∧ (∀ i, i < ts → Rel (gt (z τ2 81 i))) ∧ (z τ2 70 13 = 0 → ∀ c ∈ cs, 1 ≤ z τ2 72 c ∧ (z τ2 72 c = 1 → ∃ i, i < ts ∧ z τ2 81 i = z τ2 72 (c + 3) ∧ z τ2 79 (gt (z τ2 81 i)) = 0))) ∧ CS0 (z τ2 72) (top :: cs0) (z τ2 72) (top :: cs) ∧ 0 < ts ∧ z τ2 81 0 = 0 := by
  obtain ⟨a1, a2, a3, a4, a5, a6, a7, a8, a9, a10⟩ := h
  have sub := cl_sub (cs' := top :: cs) hcl hM (fun c m => List.mem_cons_of_mem _ m)
  have e : ∀ {a}, a ∉ [71, 72, 73] → z τ2 a = z σ1 a := fun q => fr_zF F2 q
  rw [e (show (79 : Nat) ∉ [71, 72, 73] by decide), e (show (80 : Nat) ∉ [71, 72, 73] by decide), e (show (81 : Nat) ∉ [71, 72, 73] by decide), e (show (76 : Nat) ∉ [71, 72, 73] by decide), e (show (70 : Nat) ∉ [71, 72, 73] by decide)]
  refine ⟨⟨fun v hv c hc => ?_, fun v hv => a2 v (hg v hv).1, a3, a4⟩, ⟨fun c hc x xi => ?_, a6, fun h13 c hc => ?_⟩, fun c hc => ⟨?_, rfl, fun _ => Iff.rfl⟩, a9, a10⟩
  · rcases List.mem_cons.mp hc with q | q
    · subst q
      obtain ⟨g1, i, hi, g2⟩ := hg v hv
      exact ⟨_, (inn _).mpr ⟨i, hi, rfl⟩, g2⟩
    · obtain ⟨x, xi, xv⟩ := a1 v (hg v hv).1 c q
      exact ⟨x, ((sub c q).2.2 x).mpr xi, xv⟩
  · rcases List.mem_cons.mp hc with q | q
    · subst q
      obtain ⟨i, hi, ei⟩ := (inn x).mp xi
      rw [← ei]; exact hr i hi
    · exact a5 c q x (((sub c q).2.2 x).mp xi)
  · obtain ⟨b1, b2⟩ := a7 h13 c hc
    obtain ⟨-, -, c3, -⟩ := hcl.1 c hc
    rw [(sub c hc).2.1]
    refine ⟨b1, fun q => ?_⟩
    rw [hM (c + 3) (by omega)]
    exact b2 q
  · rcases List.mem_cons.mp hc with q | q
    · rw [q]; exact List.mem_cons_self ..
    · exact List.mem_cons_of_mem _ (a8 c q).1
theorem CMP_add {k : Nat} {σ1 τ2 : q_H} (hcl : CLp (z σ1 72) top s cs) (hM : ∀ j, j < top → z τ2 72 j = z σ1 72 j) (h0 : CS0 M0 cs0 (z σ1 72) cs) : QXm M0 cs0 (z τ2 72) (top :: cs0) := fun c hc => by
  obtain ⟨a1, a2, a3⟩ := h0 c hc
  have sub := cl_sub (cs' := top :: cs) hcl hM (fun c m => List.mem_cons_of_mem _ m)
  exact ⟨List.mem_cons_of_mem _ hc, fun x => ((sub c a1).2.2 x).trans (a3 x)⟩
end RsP
section RtJ
variable {ω : q_W} {d s : Nat} {σ : q_H} {Gm Gm' : (Nat → Bool) → Prop} {Rel : Nat → Prop} {M0 : Nat → Int} {cs0 : List Nat}
theorem s_back02 {K : q_H → Prop} {ts lv wc rq top : Nat} {cs : List Nat} {Ws : Nat → List Nat} {F : List Nat} (hE : q_E σ) (hs : s ≤ 10240) (h : SI s ts lv ts wc rq top cs Ws F σ) (hS : SXm Gm Rel M0 cs0 ts lv cs σ)
    (kk : ∀ (τ : q_H) (ts' : Nat), fr [70, 78] σ τ → (∀ k, k ≠ 6 → k ≠ 7 → k ≠ 10 → z τ 70 k = z σ 70 k) → SC s ts' ts' wc rq top cs Ws F τ → SXn Gm Rel M0 cs0 ts' cs τ → K τ) : J ω m_So_backTo d 0 0 0 0 0 [(0, .ref 70), (1, .int (zI 0))] [] σ (q_kv K) := by
  refine s_backTo (k0 := 0) hE hs h.2.1 ⟨by decide, by decide⟩ (fun l0 => ?_) (fun l0 τ ts' e1 e2 f hX' t7 fk fv fv2 => ?_)
  · have l00 : lv = 0 := by omega
    subst l00
    exact kk σ ts fr_refl (fun _ _ _ _ => rfl) (SI_SC h) (SXm_n hS)
  · obtain ⟨hx, hX, h7, hdn, hlv, hq, hz, hw, ⟨nt, n1, n2, n3⟩, hD, hF, ht, h1, h13⟩ := id h
    have e : ∀ {a}, a ∉ [70, 78] → z τ a = z σ a := fun q => fr_zF f q
    have c13 : z τ 70 13 = 0 := by rw [fk 13 (by decide) (by decide) (by decide)]; exact h13
    obtain ⟨g1, g2, g3⟩ := hX.2.2.2.2.2.2.2.1 1 (by omega) (by omega)
    rw [Nat.zero_add] at e1
    refine kk τ ts' f fk ⟨?_, hX', t7, Nat.le_refl _, fun g => by rw [e (by decide)]; exact hz g, ?_, ⟨nt, by rw [fk 8 (by decide) (by decide) (by decide)]; exact n1, ?_⟩, ?_, ht, by omega, Or.inl ⟨c13, ?_⟩⟩ ?_
    · unfold CX; rw [e (by decide), e (by decide), e (by decide)]; exact hx
    · obtain ⟨a, b, c⟩ := hw
      exact ⟨by rw [fk 12 (by decide) (by decide) (by decide)]; exact a, b, by rw [e (by decide)]; exact c⟩
    · have := n3 (by omega); omega
    · rw [e (by decide), e (by decide)]; exact hF
    · rw [e (show (72 : Nat) ∉ [70, 78] by decide), e (show (79 : Nat) ∉ [70, 78] by decide), e (show (81 : Nat) ∉ [70, 78] by decide)]
      exact WQ_back hX.2.2.2 hx.2.2.1 (by omega) (by rw [Nat.zero_add]; exact e1) (by omega) hq fv
    · obtain ⟨x1, x2, x3, x4, x5, x6, x7, x8, x9, xa, xb⟩ := hS
      unfold SXn
      rw [e (show (72 : Nat) ∉ [70, 78] by decide), e (show (79 : Nat) ∉ [70, 78] by decide), e (show (80 : Nat) ∉ [70, 78] by decide), e (show (81 : Nat) ∉ [70, 78] by decide), e (show (76 : Nat) ∉ [70, 78] by decide), fk 8 (by decide) (by decide) (by decide)]
      refine ⟨x1, fun v hv i hi => x2 v hv i (by omega), fun i hi => x3 i (by omega), fun i a b => x4 i a (by omega), x6, fun i hi => x7 i (by omega), fun _ c hc => ⟨(x8 c hc).1, fun q => ?_⟩, x9, by omega, xb⟩
      obtain ⟨i, i1, i2, i3⟩ := (x8 c hc).2 q
      refine ⟨i, ?_, i2, i3⟩
      apply Decidable.byContradiction
      intro q2
      have := (g3 i i1).mpr (by omega)
      omega
theorem s_put2 {K : q_H → Prop} {ts dn wc rq top k sz : Nat} {cs : List Nat} {Ws : Nat → List Nat} {F : List Nat} {ρ : q_H} (hd : 3 ≤ d) (hE : q_E ρ) (hs : s ≤ 10240) (h : SC s ts dn wc rq top cs Ws F ρ) (hS : SXn Gm Rel M0 cs0 ts cs ρ) (hgm : ∀ v, Gm' v → Gm v ∧ ∃ i, i < k ∧ lvb v (z ρ 93 i) = true) (hrl : ∀ i, i < k → Rel (gt (z ρ 93 i))) (hk : k ≤ sz) (hsz : sz ≤ 12) (hroom : top + 3 + sz ≤ 360000) (hl : ∀ i, i < k → lit s (z ρ 93 i)) (hv : ∀ i, i < k → z ρ 78 (z ρ 93 i).toNat ≠ 1) (hdi : ∀ a b, a < k → b < k → a ≠ b → z ρ 93 a ≠ z ρ 93 b)
    (kk : ∀ (τ : q_H) (ts' dn' top' : Nat) (cs' : List Nat) (Ws' : Nat → List Nat), fr [70, 71, 72, 73, 78, 79, 80, 81, 93] ρ τ → SC s ts' dn' wc (rq + 3 + sz) top' cs' Ws' F τ → top ≤ top' → top' ≤ top + 3 + sz → (∀ k, k ≠ 6 → k ≠ 7 → k ≠ 10 → k ≠ 13 → z τ 70 k = z ρ 70 k) → z τ 71 4 = z ρ 71 4 → (∀ M1 : Nat → Int, M1 = z τ 72 → SXn Gm' Rel M1 (top :: cs0) ts' cs' τ ∧ QXm M0 cs0 M1 (top :: cs0) ∧ ∀ x, inC M1 top x ↔ ∃ i, i < k ∧ z ρ 93 i = x) → K τ) :
    J ω m_So_freeFirst d 0 0 0 0 0 [(0, .ref 70), (1, .ref 93), (2, .int (zI (k : Int)))] [] ρ (q_ki (fun v τ => J ω m_So_require (d + 1) 0 0 0 0 76 [(0, .ref 70), (1, .ref 93), (3, .int (zI (k : Int)))] [.int (zI v)] τ (q_kv K))) := by
  refine s_freeFirst hE hs (by omega) hl hdi (fun τ1 f F1 hf h0 h1 h2 h3 => b_So_require_76 (fr_E F1 hE) ?_)
  have E1 := fr_E F1 hE
  have h' := SC_fr h F1 (by decide)
  have hS1 := SXn_fr hS F1 (by decide)
  obtain ⟨hx, hX, h7, hdn, hz, hw, ⟨nt, n1, n2⟩, hF, ht, ht1, hc⟩ := h'
  obtain ⟨x6, x10, x12, hT⟩ := id hX
  have e78 : z τ1 78 = z ρ 78 := fr_zF F1 (by decide)
  rw [← e78] at h0 h1
  have l1 : ∀ i, i < k → lit s (z τ1 93 i) := fun i hi => by
    obtain ⟨j, hj, e⟩ := (h3 (z τ1 93 i)).mp ⟨i, hi, rfl⟩
    rw [← e]; exact hl j hj
  have v1 : ∀ i, i < k → z τ1 78 (z τ1 93 i).toNat ≠ 1 := fun i hi => by
    obtain ⟨j, hj, e⟩ := (h3 (z τ1 93 i)).mp ⟨i, hi, rfl⟩
    rw [← e, e78]; exact hv j hj
  refine c_add2 (by omega) E1 (tg_93 E1) (q_okE E1 (by decide)) (by decide) (by decide) hs hx (show k ≤ 12 by omega) (by omega) l1 (fun i j a b => h2 i j (by omega) b (by omega)) (fun τ2 Ws' F2 CX2 hM hk2 hel h714 => ?_)
  have E2 := fr_E F2 E1
  have F12 : fr [70, 71, 72, 73, 78, 79, 80, 81, 93] ρ τ2 := fr_trans (fr_mono F1 (by simp)) (fr_mono F2 (by simp))
  have e : ∀ {a}, a ∉ [71, 72, 73] → z τ2 a = z τ1 a := fun q => fr_zF F2 q
  have sub := cl_sub (cs' := top :: cs) hx.2.2.1 hM (fun c m => List.mem_cons_of_mem _ m)
  have hT2 : TRp s ts 0 (z τ2 72) (top :: cs) (z τ2 78) (z τ2 79) (z τ2 80) (z τ2 81) (z τ2 82) := by
    rw [e (show (78 : Nat) ∉ [71, 72, 73] by decide), e (show (79 : Nat) ∉ [71, 72, 73] by decide), e (show (80 : Nat) ∉ [71, 72, 73] by decide), e (show (81 : Nat) ∉ [71, 72, 73] by decide), e (show (82 : Nat) ∉ [71, 72, 73] by decide)]
    exact TR_cl hT (fun c m => ⟨(sub c m).1, (sub c m).2.2⟩)
  have hF2 : FM wc (z τ2 83) (z τ2 72) (top :: cs) F := by rw [e (show (83 : Nat) ∉ [71, 72, 73] by decide)]; exact FM_keep hF sub
  have hz2 : ∀ g, z τ2 84 g = 0 := fun g => by rw [e (by decide)]; exact hz g
  have inn : ∀ x, inC (z τ2 72) top x ↔ ∃ i, i < k ∧ z τ1 93 i = x := fun x => by
    unfold inC
    rw [hk2]
    constructor
    · rintro ⟨i, hi, ei⟩; exact ⟨i, by omega, by rw [← hel i (by omega)]; exact ei⟩
    · rintro ⟨i, hi, ei⟩; exact ⟨i, by omega, by rw [hel i hi]; exact ei⟩
  have innr : ∀ x, inC (z τ2 72) top x ↔ ∃ i, i < k ∧ z ρ 93 i = x := fun x => (inn x).trans (h3 x)
  have qx := CMP_add (k := k) (M0 := M0) (cs0 := cs0) hx.2.2.1 hM hS1.2.2.2.2.2.2.2.1
  obtain ⟨⟨sa1, sa2, sa3, sa4⟩, ⟨sa5, sa6, sa7⟩, sa8, sa9, sa10⟩ := SX_add (Gm' := Gm') hx.2.2.1 F2 hM inn hS1 (fun v hv => ⟨(hgm v hv).1, by
    obtain ⟨i, hi, ei⟩ := (hgm v hv).2
    obtain ⟨j, hj, ej⟩ := (h3 (z ρ 93 i)).mpr ⟨i, hi, rfl⟩
    exact ⟨j, hj, by rw [ej]; exact ei⟩⟩) (fun i hi => by
    obtain ⟨j, hj, ej⟩ := (h3 (z τ1 93 i)).mp ⟨i, hi, rfl⟩
    rw [← ej]; exact hrl j hj)
  have m14 : z τ2 71 4 = z ρ 71 4 := by rw [h714, fr_zF F1 (by decide)]
  have w70 : ∀ k, z τ2 70 k = z ρ 70 k := fun k => by rw [fr_zF F2 (by decide), fr_zF F1 (by decide)]
  have i93 : ∀ i, i < k → z τ2 93 i = z τ1 93 i := fun i _ => by rw [e (by decide)]
  have cl' : (∃ c ∈ cs, z τ1 70 13 = ((c : Nat) : Int) ∧ ∀ x, inC (z τ1 72) c x → z τ1 78 x.toNat = -1) → ∃ c ∈ top :: cs, z τ2 70 13 = ((c : Nat) : Int) ∧ ∀ x, inC (z τ2 72) c x → z τ2 78 x.toNat = -1 := fun ⟨c, m, e1, e2⟩ => ⟨c, (sub c m).1, by rw [e (by decide)]; exact e1, fun x hx => by rw [e (by decide)]; exact e2 x (((sub c m).2.2 x).mp hx)⟩
  refine b_So_require_87 E2 ⟨⟨by omega, by omega⟩, fun c0 => ⟨fun c1 => ?_, fun c1 => ?_⟩, fun c0 => ?_⟩
  · -- two are free
    refine ⟨rfl, kk τ2 ts dn (top + 3 + k) (top :: cs) Ws' F12 ⟨CX2, ⟨by rw [e (by decide)]; exact x6, by rw [e (by decide)]; exact x10, x12, hT2⟩, by rw [e (by decide)]; exact h7, hdn, hz2, ?_, ⟨nt, by rw [e (by decide)]; exact n1, n2⟩, hF2, by omega, ht1, ?_⟩ (by omega) (by omega) (fun k _ _ _ _ => w70 k) m14 (fun M1 hM1 => by
      subst hM1
      refine ⟨⟨sa1, sa2, sa3, sa4, sa5, sa6, fun h13 c hc => ?_, sa8, sa9, sa10⟩, qx, innr⟩
      rcases List.mem_cons.mp hc with q | q
      · rw [q, hk2]; exact ⟨by omega, fun q => by omega⟩
      · exact sa7 h13 c q)⟩
    · obtain ⟨a, b, c⟩ := hw
      exact ⟨by rw [e (by decide)]; exact a, b, by rw [e (by decide)]; exact c⟩
    · rcases hc with ⟨q1, q2⟩ | q
      · refine Or.inl ⟨by rw [e (by decide)]; exact q1, ?_⟩
        rw [e (show (78 : Nat) ∉ [71, 72, 73] by decide), e (show (79 : Nat) ∉ [71, 72, 73] by decide), e (show (81 : Nat) ∉ [71, 72, 73] by decide)]
        refine WQ_cons hx.2.2.1 hM q2 (fun _ a ha i hi ei => ?_)
        exfalso
        rw [hel a (by omega)] at ei
        have v := (hT.1 i (by omega)).2.2
        rw [ei, ng_ng, h0 a (by omega)] at v
        exact absurd v (by decide)
      · exact Or.inr (cl' q)
  · -- one is free
    have f1 : f = 1 := by omega
    have la := l1 0 (by omega)
    have va := h0 0 (by omega)
    have hlt : ts < s := by
      have := TR_room hT la va (TR_fr hT la va); exact this
    rw [i93 0 (by omega)]
    refine s_assign E2 hs la ⟨by omega, by omega⟩ (by rw [e (by decide)]; exact x6) (by omega) (fun μ fa t78 t79 t80 t81 t6 tk => b_So_require_118 (fr_E fa E2) ⟨rfl, ?_⟩)
    have w : ∀ {a}, a ∉ [70, 78, 79, 80, 81] → z μ a = z τ2 a := fun q => fr_zF fa q
    have va2 : z τ2 78 (z τ1 93 0).toNat = 0 := by rw [e (by decide)]; exact va
    have hTn := TR_assign (r := (top : Int)) hT2 la va2 (fun _ _ _ => Or.inr trivial) (Or.inr ⟨top, List.mem_cons_self .., rfl, hx.2.1.1, (inn _).mpr ⟨0, by omega, rfl⟩, fun y hy hne => by
      obtain ⟨i, hi, ei⟩ := (inn y).mp hy
      have i1 : 1 ≤ i := by
        rcases Nat.eq_zero_or_pos i with q | q
        · subst q; exact absurd ei.symm hne
        · exact q
      rw [← ei]
      refine ⟨l1 i hi, ?_⟩
      have a1 := h1 i (by omega) hi
      have a2 := v1 i hi
      have a3 := TR_V hT (l1 i hi)
      rw [e (by decide)]
      omega, fun q => absurd q (by omega)⟩) (fun q => absurd q (by omega))
    have ao : ∀ x, lit s x → z τ2 78 x.toNat ≠ 0 → z μ 78 x.toNat = z τ2 78 x.toNat := fun x lx vx => by
      rw [t78]; exact (AS_o hT2 la va2 lx vx).2
    have t10 : z τ2 70 10 = 0 := by rw [e (by decide)]; exact x10
    rw [t10] at t79
    refine kk μ (ts + 1) dn (top + 3 + k) (top :: cs) Ws' (fr_trans F12 (fr_mono fa (by simp))) ⟨?_, ⟨by rw [t6]; rfl, by rw [tk 10 (by decide)]; exact t10, x12, ?_⟩, by rw [tk 7 (by decide), e (by decide)]; exact h7, by omega, fun g => by rw [w (by decide)]; exact hz2 g, ?_, ⟨nt, by rw [tk 8 (by decide), e (by decide)]; exact n1, by omega⟩, by rw [w (show (83 : Nat) ∉ [70, 78, 79, 80, 81] by decide), w (show (72 : Nat) ∉ [70, 78, 79, 80, 81] by decide)]; exact hF2, by omega, by omega, ?_⟩ (by omega) (by omega) (fun k a _ _ _ => by rw [tk k a]; exact w70 k) (by rw [w (by decide)]; exact m14) (fun M1 hM1 => by
      subst hM1
      have g80 : z μ 80 = up (z τ2 80) (gt (z τ1 93 0)) (top : Int) := t80
      have top1 := hx.2.1.1
      have tT : ∀ i, i < ts → z μ 81 i = z τ2 81 i ∧ z μ 79 (gt (z τ2 81 i)) = z τ2 79 (gt (z τ2 81 i)) ∧ z μ 80 (gt (z τ2 81 i)) = z τ2 80 (gt (z τ2 81 i)) := fun i hi => by
        have hti := hT2.1 i hi
        have g := (AS_o hT2 la va2 hti.1 (by rw [hti.2.1]; decide)).1
        rw [t79, g80, t81, up_n (by omega), up_n g, up_n g]
        exact ⟨rfl, rfl, rfl⟩
      have rts : z μ 80 (gt (z μ 81 ts)) ≠ 0 := by rw [t81, up_s, g80, up_s]; omega
      have Tts : z μ 81 ts = z τ1 93 0 := by rw [t81, up_s]
      have m72 : z μ 72 = z τ2 72 := w (by decide)
      have m76 : z μ 76 = z τ2 76 := w (by decide)
      rw [m72]
      refine ⟨⟨by rw [m72]; exact sa1, fun v hv i hi l0 r0 => ?_, fun i hi l0 r0 => ?_, fun i h1 h2 => ?_, by rw [m72]; exact sa5, fun i hi => ?_, fun h13 c hc => ?_, by rw [m72]; exact sa8, by omega, by rw [(tT 0 sa9).1]; exact sa10⟩, qx, innr⟩
      · by_cases q : i = ts
        · rw [q] at r0; exact absurd r0 rts
        · obtain ⟨q1, q2, q3⟩ := tT i (by omega)
          rw [q1] at l0 r0 ⊢
          rw [q2] at l0
          rw [q3] at r0
          exact sa2 v hv i (by omega) l0 r0
      · by_cases q : i = ts
        · rw [q] at r0; exact absurd r0 rts
        · obtain ⟨q1, q2, q3⟩ := tT i (by omega)
          rw [q1] at l0 r0 ⊢
          rw [q2] at l0
          rw [q3] at r0
          rw [m76]; exact sa3 i (by omega) l0 r0
      · rw [tk 8 (by decide)] at h1
        have n1' : z τ2 70 8 = (nt : Int) := by rw [e (by decide)]; exact n1
        have i2 : i < ts := by omega
        rw [(tT i i2).1, m76]
        exact sa4 i h1 i2
      · by_cases q : i = ts
        · rw [q, Tts]
          obtain ⟨j, hj, ej⟩ := (h3 (z τ1 93 0)).mp ⟨0, by omega, rfl⟩
          rw [← ej]; exact hrl j hj
        · rw [(tT i (by omega)).1]; exact sa6 i (by omega)
      · rw [tk 13 (by decide)] at h13
        rw [m72]
        rcases List.mem_cons.mp hc with q | q
        · rw [q, hk2]
          refine ⟨by omega, fun _ => ⟨ts, by omega, ?_, ?_⟩⟩
          · rw [Tts]; exact (hel 0 (by omega)).symm
          · rw [Tts, t79, up_s]
        · obtain ⟨b1, b2⟩ := sa7 h13 c q
          refine ⟨b1, fun q => ?_⟩
          obtain ⟨i, i1, i2, i3⟩ := b2 q
          obtain ⟨q1, q2, -⟩ := tT i i1
          exact ⟨i, by omega, by rw [q1]; exact i2, by rw [q1, q2]; exact i3⟩)
    · unfold CX; rw [w (by decide), w (by decide), w (by decide)]; exact CX2
    · rw [w (show (72 : Nat) ∉ [70, 78, 79, 80, 81] by decide), w (show (82 : Nat) ∉ [70, 78, 79, 80, 81] by decide), t78, t79, t80, t81]; exact hTn
    · obtain ⟨a, b, c⟩ := hw
      exact ⟨by rw [tk 12 (by decide), e (by decide)]; exact a, b, by rw [w (by decide), e (by decide)]; exact c⟩
    · rcases hc with ⟨q1, q2⟩ | q
      · refine Or.inl ⟨by rw [tk 13 (by decide), e (by decide)]; exact q1, ?_⟩
        rw [w (show (72 : Nat) ∉ [70, 78, 79, 80, 81] by decide), t78, t79, t81]
        have q3 : WQ (z τ1 72) (up (up (z τ2 78) (z τ1 93 0).toNat 1) (ng (z τ1 93 0)).toNat (-1)) (up (z τ2 79) (gt (z τ1 93 0)) 0) (up (z τ2 81) ts (z τ1 93 0)) cs dn := by
          rw [e (show (78 : Nat) ∉ [71, 72, 73] by decide), e (show (79 : Nat) ∉ [71, 72, 73] by decide), e (show (81 : Nat) ∉ [71, 72, 73] by decide)]
          exact WQ_any hT hx.2.2.1 la va hdn q2
        refine WQ_cons hx.2.2.1 hM q3 (fun hk3 a ha i hi ei => ?_)
        rw [up_n (by omega), e (by decide)] at ei
        have v := (hT.1 i (by omega)).2.2
        rw [hk2] at hk3
        have a1 : a = 1 := by
          rcases Nat.eq_zero_or_pos a with q | q
          · exfalso
            subst q
            rw [hel 0 (by omega)] at ei
            rw [ei, ng_ng, va] at v
            exact absurd v (by decide)
          · omega
        subst a1
        have e0 : z τ2 72 (top + 3 + (1 - 1)) = z τ1 93 0 := hel 0 (by omega)
        have e1 : z τ2 72 (top + 3 + 1) = z τ1 93 1 := hel 1 (by omega)
        rw [e0, e1, up_s]
        have lb := l1 1 (by omega)
        have vb := h1 1 (by omega) (by omega)
        have g := AS_o hT la va lb vb
        have h5 := (ng_lit la).1
        have h6 := la.1
        have h7' := ng_ne (z τ1 93 0)
        refine ⟨by rw [up_n (by omega), up_s], ?_⟩
        rw [up_n g.1]
        obtain ⟨p, hp, ep⟩ := TR_on hT lb vb
        have := (hT.2.2.2.1 p hp).1
        rw [ep] at this
        rw [e (by decide)]
        exact this
      · obtain ⟨c, m, q1, q2⟩ := cl' q
        refine Or.inr ⟨c, m, by rw [tk 13 (by decide)]; exact q1, fun x hx2 => ?_⟩
        rw [w (show (72 : Nat) ∉ [70, 78, 79, 80, 81] by decide)] at hx2
        have v := q2 x hx2
        have lx : lit s x := by
          obtain ⟨i, hi, ei⟩ := hx2
          rw [← ei]; exact (CX2.2.2.1.1 c m).2.2.2.1 i hi
        rw [ao x lx (by rw [v]; decide)]; exact v
  · -- none is free
    have f0 : f = 0 := by omega
    subst f0
    have F3 : fr [70, 71, 72, 73, 78, 79, 80, 81, 93] ρ (zs τ2 70 13 (top : Int)) := fr_s F12 (by simp)
    have u : ∀ {a}, a ≠ 70 → z (zs τ2 70 13 (top : Int)) a = z τ2 a := fun q => z_oF q
    have u70 : ∀ k, k ≠ 13 → z (zs τ2 70 13 (top : Int)) 70 k = z τ2 70 k := fun k q => z_k q
    refine ⟨rfl, kk _ ts dn (top + 3 + k) (top :: cs) Ws' F3 ⟨?_, ⟨by rw [u70 6 (by decide), e (by decide)]; exact x6, by rw [u70 10 (by decide), e (by decide)]; exact x10, x12, ?_⟩, by rw [u70 7 (by decide), e (by decide)]; exact h7, hdn, fun g => by rw [u (by decide)]; exact hz2 g, ?_, ⟨nt, by rw [u70 8 (by decide), e (by decide)]; exact n1, n2⟩, ?_, by omega, ht1, Or.inr ⟨top, List.mem_cons_self .., z_s ⟨by omega, by omega⟩, fun x hx2 => ?_⟩⟩ (by omega) (by omega) (fun k _ _ _ q => by rw [u70 k q]; exact w70 k) (by rw [u (by decide)]; exact m14) (fun M1 hM1 => by
      subst hM1
      have u72 : z (zs τ2 70 13 (top : Int)) 72 = z τ2 72 := u (by decide)
      have u76 : z (zs τ2 70 13 (top : Int)) 76 = z τ2 76 := u (by decide)
      have u79 : z (zs τ2 70 13 (top : Int)) 79 = z τ2 79 := u (by decide)
      have u80 : z (zs τ2 70 13 (top : Int)) 80 = z τ2 80 := u (by decide)
      have u81 : z (zs τ2 70 13 (top : Int)) 81 = z τ2 81 := u (by decide)
      have top1 := hx.2.1
      unfold SXn
      rw [u72, u76, u79, u80, u81, u70 8 (by decide), z_s (show inR (top : Int) from ⟨by omega, by omega⟩)]
      exact ⟨⟨sa1, sa2, sa3, sa4, sa5, sa6, fun h13 => absurd h13 (by omega), sa8, sa9, sa10⟩, qx, innr⟩)⟩
    · unfold CX; rw [u (by decide), u (by decide), u (by decide)]; exact CX2
    · rw [u (by decide), u (by decide), u (by decide), u (by decide), u (by decide), u (by decide)]; exact hT2
    · obtain ⟨a, b, c⟩ := hw
      exact ⟨by rw [u70 12 (by decide), e (by decide)]; exact a, b, by rw [u (by decide), e (by decide)]; exact c⟩
    · rw [u (by decide), u (by decide)]; exact hF2
    · rw [u (by decide)] at hx2
      rw [u (by decide), e (by decide)]
      obtain ⟨i, hi, ei⟩ := (inn x).mp hx2
      rw [← ei]
      have a1 := h1 i (by omega) hi
      have a2 := v1 i hi
      have a3 := TR_V hT (l1 i hi)
      omega
theorem s_require2 {K : q_H → Prop} {ts lv dn wc rq top sz : Nat} {cs : List Nat} {Ws : Nat → List Nat} {F : List Nat} (hd : 4 ≤ d) (hE : q_E σ) (hs : s ≤ 10240) (h : (SC s ts dn wc rq top cs Ws F σ ∧ SXn Gm Rel M0 cs0 ts cs σ) ∨ (SI s ts lv ts wc rq top cs Ws F σ ∧ SXm Gm Rel M0 cs0 ts lv cs σ)) (hcm : CMP Gm M0 cs0) (hrl : ∀ i, i < sz → Rel (gt (z σ 93 i))) (hsz : sz ≤ 12) (hl : ∀ i, i < sz → lit s (z σ 93 i)) (hroom : top + 3 + sz ≤ 360000)
    (kk : ∀ (τ : q_H) (ts' dn' top' : Nat) (cs' : List Nat) (Ws' : Nat → List Nat), fr [70, 71, 72, 73, 78, 79, 80, 81, 93] σ τ → SC s ts' dn' wc (rq + 3 + sz) top' cs' Ws' F τ → top ≤ top' → top' ≤ top + 3 + sz → (∀ k, k ≠ 6 → k ≠ 7 → k ≠ 10 → k ≠ 13 → z τ 70 k = z σ 70 k) → z τ 71 4 = z σ 71 4 → (∃ (M1 : Nat → Int) (cs1 : List Nat), SXn (GmR Gm (z σ 93) sz) Rel M1 cs1 ts' cs' τ ∧ QXm M0 cs0 M1 cs1 ∧ CMP (GmR Gm (z σ 93) sz) M1 cs1) → K τ) :
    J ω m_So_require d 0 0 0 0 0 [(0, .ref 70), (1, .ref 93), (2, .int (zI (sz : Int)))] [] σ (q_kv K) := by
  obtain ⟨d, rfl⟩ : ∃ k, d = k + 1 := ⟨d - 1, by omega⟩
  have main : ∀ (ρ0 : q_H) (ts dn : Nat), fr [70, 78] σ ρ0 → (∀ k, k ≠ 6 → k ≠ 7 → k ≠ 10 → z ρ0 70 k = z σ 70 k) → SC s ts dn wc rq top cs Ws F ρ0 → SXn Gm Rel M0 cs0 ts cs ρ0 → J ω m_So_require (d + 1) 0 0 0 0 5 [(0, .ref 70), (1, .ref 93), (2, .int (zI (sz : Int)))] [] ρ0 (q_kv K) := by
    intro ρ0 ts dn f0 fk hC hSx
    have e93 : z ρ0 93 = z σ 93 := fr_zF f0 (by decide)
    have E0 := fr_E f0 hE
    have up' : ∀ ρ, fr [93] ρ0 ρ → SC s ts dn wc rq top cs Ws F ρ := fun ρ g => SC_fr hC g (by decide)
    have wk' : ∀ {ρ : q_H}, SC s ts dn wc rq top cs Ws F ρ → SC s ts dn wc (rq + 3 + sz) top cs Ws F ρ := fun {ρ} q => by
      obtain ⟨a1, a2, a3, a4, a5, a6, a7, a8, a9, a10⟩ := q
      exact ⟨a1, a2, a3, a4, a5, a6, a7, a8, by omega, a10⟩
    have early : ∀ ρ, fr [93] ρ0 ρ → (∀ v, Gm v → ∃ i, i < sz ∧ lvb v (z σ 93 i) = true) → q_kv K (.inl none) ρ := fun ρ g hgv => ⟨rfl, kk ρ ts dn top cs Ws (fr_trans (fr_mono f0 (by simp)) (fr_mono g (by simp))) (wk' (up' ρ g)) (Nat.le_refl _) (by omega) (fun k a b c _ => by rw [fr_zF g (by decide)]; exact fk k a b c) (by rw [fr_zF g (by decide), fr_zF f0 (by decide)]) ⟨M0, cs0, SXn_fr (SXn_mono hSx (fun v hv => hv.1)) g (by decide), QXm_refl, fun v v0 hv => ⟨hcm v v0 hv, hgv v (hcm v v0 hv)⟩⟩⟩
    have l : ∀ (m i k : Nat) (ρ : q_H), sz ≤ i + m → i ≤ sz → k ≤ i → fr [93] ρ0 ρ → (∀ j, j < k → lit s (z ρ 93 j)) → (∀ j, j < k → z ρ 78 (z ρ 93 j).toNat ≠ 1) → (∀ a b, a < k → b < k → a ≠ b → z ρ 93 a ≠ z ρ 93 b) → (∀ j, i ≤ j → j < sz → z ρ 93 j = z σ 93 j) → (∀ x, (∃ j, j < i ∧ z σ 93 j = x) ↔ ∃ j, j < k ∧ z ρ 93 j = x) → J ω m_So_require (d + 1) 0 0 0 0 10 [(0, .ref 70), (1, .ref 93), (2, .int (zI (sz : Int))), (3, .int (zI (k : Int))), (4, .int (zI (i : Int)))] [] ρ (q_kv K) := by
      intro m
      have out : ∀ (k : Nat) (ρ : q_H), k ≤ sz → fr [93] ρ0 ρ → (∀ j, j < k → lit s (z ρ 93 j)) → (∀ j, j < k → z ρ 78 (z ρ 93 j).toNat ≠ 1) → (∀ a b, a < k → b < k → a ≠ b → z ρ 93 a ≠ z ρ 93 b) → (∀ x, (∃ j, j < sz ∧ z σ 93 j = x) ↔ ∃ j, j < k ∧ z ρ 93 j = x) → J ω m_So_freeFirst d 0 0 0 0 0 [(0, .ref 70), (1, .ref 93), (2, .int (zI (k : Int)))] [] ρ (q_ki (fun v τ => J ω m_So_require (d + 1) 0 0 0 0 76 [(0, .ref 70), (1, .ref 93), (3, .int (zI (k : Int)))] [.int (zI v)] τ (q_kv K))) := fun k ρ a g b1 b2 b3 b5 =>
        s_put2 (Gm' := GmR Gm (z σ 93) sz) (by omega) (fr_E g E0) hs (up' ρ g) (SXn_fr hSx g (by decide)) (fun v hv => ⟨hv.1, by
          obtain ⟨i, hi, ei⟩ := hv.2
          obtain ⟨j, hj, ej⟩ := (b5 (z σ 93 i)).mp ⟨i, hi, rfl⟩
          exact ⟨j, hj, by rw [ej]; exact ei⟩⟩) (fun i hi => by
          obtain ⟨j, hj, ej⟩ := (b5 (z ρ 93 i)).mpr ⟨i, hi, rfl⟩
          rw [← ej]; exact hrl j hj) a hsz hroom b1 b2 b3 (fun τ ts' dn' top' cs' Ws' g1 g2 g3 g4 g5 g6 g7 => kk τ ts' dn' top' cs' Ws' (fr_trans (fr_trans (fr_mono f0 (by simp)) (fr_mono g (by simp))) g1) g2 g3 g4 (fun k a b c e => by rw [g5 k a b c e, fr_zF g (by decide)]; exact fk k a b c) (by rw [g6, fr_zF g (by decide), fr_zF f0 (by decide)]) (by
          obtain ⟨q1, q2, q3⟩ := g7 _ rfl
          refine ⟨_, _, q1, q2, fun v v0 hv => ⟨hcm v v0 (fun c hc => ?_), ?_⟩⟩
          · obtain ⟨x, xi, xv⟩ := hv c (q2 c hc).1
            exact ⟨x, ((q2 c hc).2 x).mp xi, xv⟩
          · obtain ⟨x, xi, xv⟩ := hv top (List.mem_cons_self ..)
            obtain ⟨i, hi, ei⟩ := (b5 x).mpr ((q3 x).mp xi)
            exact ⟨i, hi, by rw [ei]; exact xv⟩))
      induction m with
      | zero =>
        intro i k ρ a b c g b1 b2 b3 b4 b5
        exact b_So_require_10 (fr_E g E0) ⟨⟨by omega, by omega⟩, ⟨by omega, by omega⟩, fun _ => out k ρ (by omega) g b1 b2 b3 (by rw [show sz = i by omega]; exact b5), fun c => absurd c (by omega)⟩
      | succ m ih =>
        intro i k ρ a b c g b1 b2 b3 b4 b5
        refine b_So_require_10 (fr_E g E0) ⟨⟨by omega, by omega⟩, ⟨by omega, by omega⟩, fun _ => out k ρ (by omega) g b1 b2 b3 (by rw [show sz = i by omega]; exact b5), fun ci => ?_⟩
        rw [Int.toNat_natCast]
        have li : lit s (z ρ 93 i) := by rw [b4 i (Nat.le_refl _) (by omega)]; exact hl i (by omega)
        have li1 := li.2
        have ln := ng_lit li
        refine ⟨⟨by omega, by omega⟩, ⟨li.1, by omega⟩, fun hv => early ρ g (fun v gv => ⟨i, by omega, ?_⟩), fun hv => ?_⟩
        · rw [← b4 i (Nat.le_refl _) (by omega)]
          have hC' := up' ρ g
          obtain ⟨o, ho, eo⟩ := TR_pos hC'.2.1.2.2.2 li hv
          have lo := hC'.2.1.2.2.2.2.2.2.1 o ho
          have hSg := SXn_fr hSx g (by decide)
          have := TR_fact hC'.2.1.2.2.2 (fun c hm x ⟨i, hi, ei⟩ => by rw [← ei]; exact (hC'.1.2.2.1.1 c hm).2.2.2.1 i hi) hSg.1 hSg.2.1 gv ho (by omega)
          rw [← eo]; exact this
        rw [zX_ng hs li]
        refine s_has (fr_E g E0) (by omega) (lit_R hs ln) (fun j hj ej => b_So_require_42 (fr_E g E0) ⟨⟨by decide, by decide⟩, fun q => absurd q (by decide), fun _ => early ρ g (fun v _ => ?_)⟩) (fun hno => b_So_require_42 (fr_E g E0) ⟨⟨by decide, by decide⟩, fun _ => ?_, fun q => absurd rfl q⟩)
        · obtain ⟨j', hj', ej'⟩ := (b5 (ng (z ρ 93 i))).mpr ⟨j, hj, ej⟩
          cases hl' : lvb v (z ρ 93 i) with
          | true => exact ⟨i, by omega, by rw [← b4 i (Nat.le_refl _) (by omega)]; exact hl'⟩
          | false => exact ⟨j', by omega, by rw [ej', lvb_ng li.1, hl']; rfl⟩
        refine s_has (fr_E g E0) (by omega) (lit_R hs li) (fun j hj ej => b_So_require_53 (fr_E g E0) ⟨⟨by decide, by decide⟩, fun _ => ?_, fun q => absurd q (by decide)⟩) (fun hno2 => b_So_require_53 (fr_E g E0) ⟨⟨by decide, by decide⟩, fun q => absurd rfl q, fun _ => ⟨⟨by omega, by omega⟩, ?_⟩⟩)
        · rw [show (i : Int) + 1 = ((i + 1 : Nat) : Int) by omega]
          refine ih (i + 1) k ρ (by omega) (by omega) (by omega) g b1 b2 b3 (fun j p q => b4 j (by omega) q) (fun x => ⟨fun ⟨j', p, q⟩ => ?_, fun q => ?_⟩)
          · by_cases q2 : j' = i
            · exact ⟨j, hj, by rw [ej, ← q, q2, b4 i (Nat.le_refl _) (by omega)]⟩
            · exact (b5 x).mp ⟨j', by omega, q⟩
          · obtain ⟨j', p, q2⟩ := (b5 x).mpr q
            exact ⟨j', by omega, q2⟩
        · rw [show (i : Int) + 1 = ((i + 1 : Nat) : Int) by omega, show (k : Int) + 1 = ((k + 1 : Nat) : Int) by omega, Int.toNat_natCast]
          have G : z (zs ρ 93 k (z ρ 93 i)) 93 = up (z ρ 93) k (z ρ 93 i) := z_up (z_R _ _ _)
          have e78 : z (zs ρ 93 k (z ρ 93 i)) 78 = z ρ 78 := z_oF (by decide)
          refine ih (i + 1) (k + 1) _ (by omega) (by omega) (by omega) (fr_s g (by simp)) ?_ ?_ ?_ ?_ (fun x => ?_)
          · intro j hj
            rw [G]
            by_cases q : j = k
            · rw [q, up_s]; exact li
            · rw [up_n q]; exact b1 j (by omega)
          · intro j hj
            rw [G, e78]
            by_cases q : j = k
            · rw [q, up_s]; exact hv
            · rw [up_n q]; exact b2 j (by omega)
          · intro x y hx hy hxy
            rw [G]
            by_cases q : x = k
            · rw [q, up_s, up_n (by omega)]; exact fun e => hno2 y (by omega) e.symm
            · by_cases q2 : y = k
              · rw [q2, up_s, up_n q]; exact hno2 x (by omega)
              · rw [up_n q, up_n q2]; exact b3 x y (by omega) (by omega) hxy
          · intro j p q
            rw [G, up_n (by omega)]; exact b4 j (by omega) q
          · rw [G]
            constructor
            · rintro ⟨j', p, q⟩
              by_cases q2 : j' = i
              · exact ⟨k, by omega, by rw [up_s, b4 i (Nat.le_refl _) (by omega), ← q2]; exact q⟩
              · obtain ⟨j2, p2, q3⟩ := (b5 x).mp ⟨j', by omega, q⟩
                exact ⟨j2, by omega, by rw [up_n (by omega)]; exact q3⟩
            · rintro ⟨j', p, q⟩
              by_cases q2 : j' = k
              · rw [q2, up_s] at q
                exact ⟨i, by omega, by rw [← b4 i (Nat.le_refl _) (by omega)]; exact q⟩
              · rw [up_n q2] at q
                obtain ⟨j2, p2, q3⟩ := (b5 x).mpr ⟨j', by omega, q⟩
                exact ⟨j2, by omega, q3⟩
    exact b_So_require_5 E0 (l sz 0 0 ρ0 (by omega) (by omega) (by omega) fr_refl (fun j hj => absurd hj (by omega)) (fun j hj => absurd hj (by omega)) (fun a b ha => absurd ha (by omega)) (fun j _ _ => by rw [fr_zF f0 (by decide)]) (fun x => ⟨fun ⟨j, hj, _⟩ => absurd hj (by omega), fun ⟨j, hj, _⟩ => absurd hj (by omega)⟩))
  refine b_So_require_0 hE ?_
  rcases h with ⟨h, hS⟩ | ⟨h, hS⟩
  · exact s_backTo (k0 := 0) hE hs h.2.1 ⟨by decide, by decide⟩ (fun _ => main σ ts dn fr_refl (fun _ _ _ _ => rfl) h hS) (fun q => absurd q (by omega))
  · exact s_back02 hE hs h hS (fun τ ts' f fk hC hSn => main τ ts' ts' f fk hC hSn)
end RtJ
