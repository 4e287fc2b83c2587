/-! THE SOLVER: what stands while it searches, of models -/
def CS0 (M0 : Nat → Int) (cs0 : List Nat) (M : Nat → Int) (cs : List Nat) : Prop := ∀ c ∈ cs0, c ∈ cs ∧ M c = M0 c ∧ ∀ x, inC M c x ↔ inC M0 c x
def SXm (Gm : (Nat → Bool) → Prop) (Rel : Nat → Prop) (M0 : Nat → Int) (cs0 : List Nat) (ts lv : Nat) (cs : List Nat) (ρ : q_H) : Prop :=
  SND Gm (z ρ 72) cs ∧ U0 Gm ts (z ρ 79) (z ρ 80) (z ρ 81) ∧ (∀ i, i < ts → z ρ 79 (gt (z ρ 81 i)) = 0 → z ρ 80 (gt (z ρ 81 i)) = 0 → z ρ 76 (z ρ 81 i).toNat = 1) ∧ (∀ i : Nat, (i : Int) < z ρ 70 8 → i < ts → z ρ 76 (z ρ 81 i).toNat = 1) ∧ (1 ≤ lv → z ρ 70 8 = z ρ 82 1) ∧
  (∀ c ∈ cs, ∀ x, inC (z ρ 72) c x → Rel (gt x)) ∧ (∀ i, i < ts → Rel (gt (z ρ 81 i))) ∧ (∀ c ∈ cs, 1 ≤ z ρ 72 c ∧ (z ρ 72 c = 1 → ∃ i, i < ts ∧ z ρ 81 i = z ρ 72 (c + 3) ∧ z ρ 79 (gt (z ρ 81 i)) = 0)) ∧ CS0 M0 cs0 (z ρ 72) cs ∧ 0 < ts ∧ z ρ 81 0 = 0
section SxP
variable {ω : q_W} {d s wc rq ts ts' lv top : Nat} {cs cs0 : List Nat} {M0 : Nat → Int} {Gm : (Nat → Bool) → Prop} {Rel : Nat → Prop} {ρ τ π μ : q_H}
theorem SXm_prop (hX : TX s ts' lv cs τ) (hv : VP cs ts ts' lv ρ τ) (hn : z ρ 70 8 ≤ (ts : Int)) (h : SXm Gm Rel M0 cs0 ts lv cs ρ) : SXm Gm Rel M0 cs0 ts' lv cs τ := by
  obtain ⟨x1, x2, x3, x4, x5, x6, x7, x8, x9, xa, xb⟩ := h
  obtain ⟨vf, vk, vts, vT, vL, vN, vC⟩ := hv
  have hT := hX.2.2.2
  have e76 : z τ 76 = z ρ 76 := fr_zF vf (by decide)
  have e82 : z τ 82 = z ρ 82 := fr_zF vf (by decide)
  have e8 : z τ 70 8 = z ρ 70 8 := vk 8 (by decide) (by decide)
  refine ⟨fun v hv c hc => ?_, fun v hv i hi l0 r0 => ?_, fun i hi l0 r0 => ?_, fun i h1 h2 => ?_, fun q => by rw [e8, e82]; exact x5 q, fun c hc x xi => x6 c hc x (((vC c hc).2 x).mp xi), fun i hi => ?_, fun c hc => ?_, fun c hc => ?_, by omega, by rw [vT 0 xa]; exact xb⟩
  · obtain ⟨x, xi, xv⟩ := x1 v hv c hc
    exact ⟨x, ((vC c hc).2 x).mpr xi, xv⟩
  · by_cases q : i < ts
    · rw [vT i q] at l0 r0 ⊢
      rw [(vL i q).1] at l0
      rw [(vL i q).2] at r0
      exact x2 v hv i q l0 r0
    · exact absurd r0 (vN i (by omega) hi).2
  · by_cases q : i < ts
    · rw [vT i q] at l0 r0 ⊢
      rw [(vL i q).1] at l0
      rw [(vL i q).2] at r0
      rw [e76]; exact x3 i q l0 r0
    · exact absurd r0 (vN i (by omega) hi).2
  · rw [e8] at h1
    have q : i < ts := by omega
    rw [e76, vT i q]; exact x4 i h1 q
  · by_cases q : i < ts
    · rw [vT i q]; exact x7 i q
    · rcases hT.2.2.2.2.2.2.1 i hi with r | ⟨c, hc, -, ci, -⟩
      · exact absurd r (vN i (by omega) hi).2
      · exact x6 c hc _ (((vC c hc).2 _).mp ci)
  · obtain ⟨a, b⟩ := x8 c hc
    obtain ⟨m1, m2⟩ := vC c hc
    rw [m1]
    refine ⟨a, fun q => ?_⟩
    obtain ⟨i, i1, i2, i3⟩ := b q
    have e3 : z τ 72 (c + 3) = z ρ 72 (c + 3) := by
      obtain ⟨k, k1, k2⟩ := (m2 (z τ 72 (c + 3))).mp ⟨0, by rw [m1, q]; decide, rfl⟩
      rw [q] at k1
      rw [show k = 0 by omega] at k2
      exact k2.symm
    exact ⟨i, by omega, by rw [vT i i1, e3]; exact i2, by rw [vT i i1, (vL i i1).1]; exact i3⟩
  · obtain ⟨a, b, e⟩ := x9 c hc
    obtain ⟨m1, m2⟩ := vC c a
    exact ⟨a, m1.trans b, fun x => (m2 x).trans (e x)⟩
theorem SXm_note (f : fr [70, 75, 76, 77, 84, 85, 86] τ π) (h76 : ∀ x, z τ 76 x = 1 → z π 76 x = 1) (h8 : (lv = 0 ∧ ∀ i, i < ts → z π 76 (z τ 81 i).toNat = 1) ∨ z π 70 8 = z τ 70 8) (h : SXm Gm Rel M0 cs0 ts lv cs τ) : SXm Gm Rel M0 cs0 ts lv cs π := by
  obtain ⟨x1, x2, x3, x4, x5, x6, x7, x8, x9, xa, xb⟩ := h
  have e : ∀ {a}, a ∉ [70, 75, 76, 77, 84, 85, 86] → z π a = z τ a := fun h => fr_zF f h
  unfold SXm
  rw [e (show (72 : Nat) ∉ [70, 75, 76, 77, 84, 85, 86] by decide), e (show (79 : Nat) ∉ [70, 75, 76, 77, 84, 85, 86] by decide), e (show (80 : Nat) ∉ [70, 75, 76, 77, 84, 85, 86] by decide), e (show (81 : Nat) ∉ [70, 75, 76, 77, 84, 85, 86] by decide), e (show (82 : Nat) ∉ [70, 75, 76, 77, 84, 85, 86] by decide)]
  refine ⟨x1, x2, fun i hi a b => h76 _ (x3 i hi a b), fun i a b => ?_, fun q => ?_, x6, x7, x8, x9, xa, xb⟩
  · rcases h8 with ⟨-, q⟩ | q
    · exact q i b
    · rw [q] at a; exact h76 _ (x4 i a b)
  · rcases h8 with ⟨q0, -⟩ | q0
    · omega
    · rw [q0]; exact x5 q
theorem SXm_learn {k0 top' : Nat} {cs' : List Nat} {Ws Ws' : Nat → List Nat} (hx : CX s top cs Ws π) (hX : TX s ts lv cs π) (l1 : 1 ≤ lv) (hL : LR s ts lv top cs π μ k0 ts' top' cs' Ws') (hX2 : LX Gm ts top cs π μ ts' cs') (h : SXm Gm Rel M0 cs0 ts lv cs π) : SXm Gm Rel M0 cs0 (ts' + 1) k0 cs' μ := by
  obtain ⟨x1, x2, x3, x4, x5, x6, x7, x8, x9, xa, xb⟩ := h
  obtain ⟨f, CX', TX', hk, hlt, ht', h7, fk, hQ, hLv, -, hz, hp, hM, alt⟩ := hL
  obtain ⟨y1, y2, y3, ⟨p, p1, p2⟩, y5⟩ := hX2
  have hT := hX.2.2.2
  obtain ⟨f1, f2, f3⟩ := hT.2.2.2.2.1 (k0 + 1) (by omega) (by omega)
  have e82 : z μ 82 = z π 82 := fr_zF f (by decide)
  have e8 : z μ 70 8 = z π 70 8 := fk 8 (by decide) (by decide) (by decide) (by decide) (by decide)
  have low : ∀ i, i < ts → z π 79 (gt (z π 81 i)) = 0 → i < ts' := fun i hi l0 => by
    by_cases q : i < ts'
    · exact q
    · have := (f3 i hi).mpr (by omega); omega
  have St1 : z π 82 1 ≤ (ts' : Int) := by
    have := St_le hT (a := 1) (b := k0 + 1) (by omega) (by omega) (by omega)
    omega
  have sub : ∀ c ∈ cs, c ∈ cs' ∧ z μ 72 c = z π 72 c ∧ ∀ x, inC (z μ 72) c x ↔ inC (z π 72) c x := fun c hc => by
    obtain ⟨a1, a2, a3, -⟩ := hx.2.2.1.1 c hc
    refine ⟨?_, hM c (by omega), fun x => ?_⟩
    · rcases alt with ⟨-, -, q⟩ | ⟨ls, -, -, q, -⟩
      · rw [q]; exact hc
      · rw [q]; exact List.mem_cons_of_mem _ hc
    · unfold inC
      rw [hM c (by omega)]
      constructor
      · rintro ⟨i, hi, ei⟩; exact ⟨i, hi, by rw [← hM _ (by omega)]; exact ei⟩
      · rintro ⟨i, hi, ei⟩; exact ⟨i, hi, by rw [hM _ (by omega)]; exact ei⟩
  have old : ∀ c ∈ cs', c ∈ cs ∨ (cs' = top :: cs ∧ c = top) := fun c hc => by
    rcases y5 with ⟨q, -⟩ | ⟨q, -⟩
    · rw [q] at hc; exact Or.inl hc
    · rw [q] at hc
      rcases List.mem_cons.mp hc with e | e
      · exact Or.inr ⟨q, e⟩
      · exact Or.inl e
  have lst : ∀ i, i < ts' + 1 → i ≠ ts' → i < ts' := fun i a b => by omega
  have ntop : cs' = top :: cs → cs' ≠ cs := fun q q2 => by
    rw [q] at q2
    have := congrArg List.length q2
    simp at this
  refine ⟨fun v hv c hc => ?_, fun v hv i hi l0 r0 => ?_, fun i hi l0 r0 => ?_, fun i h1 h2 => ?_, fun q => by rw [e8, e82]; exact x5 l1, fun c hc x xi => ?_, fun i hi => ?_, fun c hc => ?_, fun c hc => ?_, by omega, by rw [(hp 0 (by omega)).1]; exact xb⟩
  · rcases old c hc with q | ⟨q1, q2⟩
    · obtain ⟨x, xi, xv⟩ := x1 v hv c q
      exact ⟨x, ((sub c q).2.2 x).mpr xi, xv⟩
    · rcases y5 with ⟨q, -⟩ | ⟨-, -, -, q⟩
      · exact absurd q (ntop q1)
      · rw [q2]; exact q v hv
  · by_cases e : i = ts'
    · subst e
      rcases y5 with ⟨-, -, -, q⟩ | ⟨-, q, -⟩
      · exact q v hv
      · exact absurd r0 q
    · have hi2 := lst i hi e
      obtain ⟨q1, q2, q3⟩ := hp i hi2
      rw [q1] at l0 r0 ⊢
      rw [q2] at l0
      rw [q3] at r0
      exact x2 v hv i (by omega) l0 r0
  · by_cases e : i = ts'
    · subst e
      rcases y5 with ⟨-, q, -⟩ | ⟨-, q, -⟩
      · exact q
      · exact absurd r0 q
    · have hi2 := lst i hi e
      obtain ⟨q1, q2, q3⟩ := hp i hi2
      rw [q1] at l0 r0 ⊢
      rw [q2] at l0
      rw [q3] at r0
      exact y3 _ (x3 i (by omega) l0 r0)
  · rw [e8] at h1
    have := x5 l1
    have hi2 : i < ts' := by omega
    rw [(hp i hi2).1]
    exact y3 _ (x4 i h1 (by omega))
  · rcases old c hc with q | ⟨q1, q2⟩
    · exact x6 c q x (((sub c q).2.2 x).mp xi)
    · rcases y5 with ⟨q, -⟩ | ⟨-, -, q, -⟩
      · exact absurd q (ntop q1)
      · rw [q2] at xi
        obtain ⟨o, o1, o2⟩ := q x xi
        rw [o2, gt_ng]; exact x7 o o1
  · by_cases e : i = ts'
    · subst e
      rw [p2, gt_ng]; exact x7 p p1
    · have hi2 := lst i hi e
      rw [(hp i hi2).1]; exact x7 i (by omega)
  · rcases old c hc with q | ⟨q1, q2⟩
    · obtain ⟨a, b⟩ := x8 c q
      obtain ⟨-, m1, -⟩ := sub c q
      obtain ⟨-, -, a3, -⟩ := hx.2.2.1.1 c q
      rw [m1]
      refine ⟨a, fun qq => ?_⟩
      obtain ⟨i, i1, i2, i3⟩ := b qq
      have il := low i i1 i3
      obtain ⟨h1, h2, -⟩ := hp i il
      exact ⟨i, by omega, by rw [h1, hM (c + 3) (by omega)]; exact i2, by rw [h1, h2]; exact i3⟩
    · rcases alt with ⟨-, -, q⟩ | ⟨ls, g1, -, -, g2, -⟩
      · exact absurd q (ntop q1)
      · rw [q2, g2]
        exact ⟨by omega, fun q => by omega⟩
  · obtain ⟨a, b, e⟩ := x9 c hc
    obtain ⟨m0, m1, m2⟩ := sub c a
    exact ⟨m0, m1.trans b, fun x => (m2 x).trans (e x)⟩
/-- a decision -/
theorem s_decide2 {K : q_H → Prop} {ts lv top i : Nat} {cs : List Nat} {Ws : Nat → List Nat} {F : List Nat} {π : q_H} (hE : q_E π) (hs : s ≤ 10240) (h : SI s ts lv ts wc rq top cs Ws F π) (hi : i < wc) (hv : z π 78 (z π 83 i).toNat = 0) (hlt : ∀ j, j < i → z π 78 (z π 83 j).toNat ≠ 0)
    (kk : ∀ μ, fr [70, 78, 79, 80, 81, 82] π μ → (∀ k, k ≠ 6 → k ≠ 10 → z μ 70 k = z π 70 k) → SI s (ts + 1) (lv + 1) ts wc rq top cs Ws F μ → (lv = 0 → z μ 82 1 = (ts : Int)) → (1 ≤ lv → z μ 82 1 = z π 82 1) → (∀ j, j < ts → z μ 81 j = z π 81 j ∧ z μ 79 (gt (z π 81 j)) = z π 79 (gt (z π 81 j)) ∧ z μ 80 (gt (z π 81 j)) = z π 80 (gt (z π 81 j))) → z μ 81 ts = z π 83 i → z μ 79 (gt (z π 83 i)) = (lv : Int) + 1 → K μ) :
    (0 ≤ (lv : Int) + 1 ∧ (lv : Int) + 1 < 14) ∧ J ω m_So_assign d 0 0 0 0 0 [(0, .ref 70), (1, .int (zI (z π 83 i))), (2, .int (zI 0))] [] (zs (zs π 70 10 ((lv : Int) + 1)) 82 (lv + 1) (ts : Int)) (q_kv K) := by
  obtain ⟨hx, ⟨x1, x2, x3, hT⟩, h7, hdn, hlv, hq, hz, ⟨w1, w2, w3, w4⟩, ⟨nt, n1, n2, n3⟩, hD, hFM, htop, hts, h13⟩ := h
  have lx := w3 i hi
  have room := DW_room hT w3 hD hi hv
  have hlen := TR_room hT lx hv (TR_fr hT lx hv)
  refine ⟨⟨by omega, by omega⟩, ?_⟩
  have F0 : fr [70, 78, 79, 80, 81, 82] π (zs (zs π 70 10 ((lv : Int) + 1)) 82 (lv + 1) (ts : Int)) := fr_s (fr_s fr_refl (by simp)) (by simp)
  have o : ∀ a, a ≠ 70 → a ≠ 82 → z (zs (zs π 70 10 ((lv : Int) + 1)) 82 (lv + 1) (ts : Int)) a = z π a := fun a h1 h2 => by rw [z_oF h2, z_oF h1]
  have o70 : ∀ k, k ≠ 10 → z (zs (zs π 70 10 ((lv : Int) + 1)) 82 (lv + 1) (ts : Int)) 70 k = z π 70 k := fun k h1 => by rw [z_o (by decide), z_k h1]
  have o10 : z (zs (zs π 70 10 ((lv : Int) + 1)) 82 (lv + 1) (ts : Int)) 70 10 = (lv : Int) + 1 := by rw [z_o (by decide), z_s ⟨by omega, by omega⟩]
  have o82 : z (zs (zs π 70 10 ((lv : Int) + 1)) 82 (lv + 1) (ts : Int)) 82 = up (z π 82) (lv + 1) (ts : Int) := by rw [z_up ⟨by omega, by omega⟩, z_oF (by decide)]
  refine s_assign (fr_E F0 hE) hs lx ⟨by decide, by decide⟩ (by rw [o70 6 (by decide)]; exact x1) (by omega) (fun μ fa t78 t79 t80 t81 tt6 tk => ?_)
  rw [o 78 (by decide) (by decide)] at t78
  rw [o 79 (by decide) (by decide), o10] at t79
  rw [o 80 (by decide) (by decide)] at t80
  rw [o 81 (by decide) (by decide)] at t81
  have F1 : fr [70, 78, 79, 80, 81, 82] π μ := fr_trans F0 (fr_mono fa (by simp))
  have u82 : z μ 82 = up (z π 82) (lv + 1) (ts : Int) := (fr_zF fa (by decide)).trans o82
  have u70 : ∀ k, k ≠ 6 → k ≠ 10 → z μ 70 k = z π 70 k := fun k a b => by rw [tk k a, o70 k b]
  have e : ∀ {a}, a ∉ [70, 78, 79, 80, 81, 82] → z μ a = z π a := fun h => fr_zF F1 h
  have hTR := TR_decide hT lx hv hts
  have e1 : lv = 0 → z μ 82 1 = (ts : Int) := fun q => by subst q; rw [u82, up_s]
  have e2 : 1 ≤ lv → z μ 82 1 = z π 82 1 := fun q => by rw [u82, up_n (by omega)]
  refine kk μ F1 u70 ⟨?_, ⟨by rw [tt6]; omega, by rw [tk 10 (by decide), o10]; omega, by omega, ?_⟩, by rw [u70 7 (by decide) (by decide)]; exact h7, by omega, fun j h1 h2 => ?_, ?_, fun g => by rw [e (by decide)]; exact hz g, ⟨by rw [u70 12 (by decide) (by decide)]; exact w1, w2, by rw [e (by decide)]; exact ⟨w3, w4⟩⟩, ⟨nt, by rw [u70 8 (by decide) (by decide)]; exact n1, fun q => absurd q (by omega), fun _ => ?_⟩, ?_, ?_, htop, by omega, by rw [u70 13 (by decide) (by decide)]; exact h13⟩ e1 e2 (fun j hj => ?_) (by rw [t81, up_s]) (by rw [t79, up_s])
  · unfold CX; rw [e (by decide), e (by decide), e (by decide)]; exact hx
  · rw [e (by decide), t78, t79, t80, t81, u82]; exact hTR
  · rw [t79, t81, show j = ts by omega, up_s, up_s]; omega
  · rw [e (by decide), t78, t79, t81]
    exact WQ_any hT hx.2.2.1 lx hv (Nat.le_refl _) hq
  · by_cases q : lv = 0
    · rw [e1 q]; have := n2 q; omega
    · rw [e2 (by omega)]; exact n3 (by omega)
  · rw [e (show (83 : Nat) ∉ [70, 78, 79, 80, 81, 82] by decide), t78, t79, t81, u82]
    intro k h1 h2
    by_cases q : k = lv + 1
    · subst q
      refine ⟨i, hi, by rw [up_s, Int.toNat_natCast, up_s], fun j hj => ?_⟩
      obtain ⟨g1, g2⟩ := AS_o hT lx hv (w3 j (by omega)) (hlt j hj)
      obtain ⟨p, hp, ep⟩ := TR_on hT (w3 j (by omega)) (hlt j hj)
      have := (hT.2.2.2.1 p hp).2
      rw [ep] at this
      rw [g2, up_n g1]
      exact ⟨hlt j hj, by omega⟩
    · obtain ⟨i2, a, b, c⟩ := hD k h1 (by omega)
      have := (hT.2.2.2.2.1 k h1 (by omega)).2.1
      refine ⟨i2, a, by rw [up_n q, up_n (by omega)]; exact b, fun j hj => ?_⟩
      obtain ⟨c1, c2⟩ := c j hj
      obtain ⟨g1, g2⟩ := AS_o hT lx hv (w3 j (by omega)) c1
      rw [g2, up_n g1]
      exact ⟨c1, c2⟩
  · rw [e (show (83 : Nat) ∉ [70, 78, 79, 80, 81, 82] by decide), e (show (72 : Nat) ∉ [70, 78, 79, 80, 81, 82] by decide)]; exact hFM
  · have hti := hT.1 j hj
    have g := (AS_o hT lx hv hti.1 (by rw [hti.2.1]; decide)).1
    rw [t79, t80, t81, up_n (by omega), up_n g, up_n g]
    exact ⟨rfl, rfl, rfl⟩
theorem SXm_decide {i : Nat} (f : fr [70, 78, 79, 80, 81, 82] π μ) (k8 : z μ 70 8 = z π 70 8) (hn : lv = 0 → z π 70 8 = (ts : Int)) (u1 : lv = 0 → z μ 82 1 = (ts : Int)) (u2 : 1 ≤ lv → z μ 82 1 = z π 82 1) (hp : ∀ j, j < ts → z μ 81 j = z π 81 j ∧ z μ 79 (gt (z π 81 j)) = z π 79 (gt (z π 81 j)) ∧ z μ 80 (gt (z π 81 j)) = z π 80 (gt (z π 81 j))) (ht : z μ 81 ts = z π 83 i) (hl : z μ 79 (gt (z π 83 i)) = (lv : Int) + 1) (hr : Rel (gt (z π 83 i))) (hb : z π 70 8 ≤ (ts : Int)) (h : SXm Gm Rel M0 cs0 ts lv cs π) : SXm Gm Rel M0 cs0 (ts + 1) (lv + 1) cs μ := by
  obtain ⟨x1, x2, x3, x4, x5, x6, x7, x8, x9, xa, xb⟩ := h
  have e72 : z μ 72 = z π 72 := fr_zF f (by decide)
  have e76 : z μ 76 = z π 76 := fr_zF f (by decide)
  have lst : ∀ j, j < ts + 1 → j ≠ ts → j < ts := fun j a b => by omega
  have nz : ∀ j, j < ts + 1 → z μ 79 (gt (z μ 81 j)) = 0 → j < ts := fun j a b => by
    by_cases e : j = ts
    · rw [e, ht, hl] at b; omega
    · exact lst j a e
  refine ⟨by rw [e72]; exact x1, fun v hv j hj l0 r0 => ?_, fun j hj l0 r0 => ?_, fun j h1 h2 => ?_, fun _ => ?_, by rw [e72]; exact x6, fun j hj => ?_, fun c hc => ?_, by rw [e72]; exact x9, by omega, by rw [(hp 0 xa).1]; exact xb⟩
  · have hj2 := nz j hj l0
    obtain ⟨q1, q2, q3⟩ := hp j hj2
    rw [q1] at l0 r0 ⊢
    rw [q2] at l0
    rw [q3] at r0
    exact x2 v hv j hj2 l0 r0
  · have hj2 := nz j hj l0
    obtain ⟨q1, q2, q3⟩ := hp j hj2
    rw [q1] at l0 r0 ⊢
    rw [q2] at l0
    rw [q3] at r0
    rw [e76]; exact x3 j hj2 l0 r0
  · rw [k8] at h1
    have hj2 : j < ts := by omega
    rw [(hp j hj2).1, e76]; exact x4 j h1 hj2
  · rw [k8]
    by_cases q : lv = 0
    · rw [hn q, u1 q]
    · rw [u2 (by omega)]; exact x5 (by omega)
  · by_cases e : j = ts
    · rw [e, ht]; exact hr
    · rw [(hp j (lst j hj e)).1]; exact x7 j (lst j hj e)
  · obtain ⟨a, b⟩ := x8 c hc
    rw [e72]
    refine ⟨a, fun q => ?_⟩
    obtain ⟨j, j1, j2, j3⟩ := b q
    obtain ⟨h1, h2, -⟩ := hp j j1
    exact ⟨j, by omega, by rw [h1]; exact j2, by rw [h1, h2]; exact j3⟩
end SxP
