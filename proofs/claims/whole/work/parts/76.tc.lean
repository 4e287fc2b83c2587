/-! Solver.trace: what stands at a place of the trail, as functions -/
/-- a denied literal is accounted for, behind hint j -/
def cov (L S Lr Hi Rs : Nat → Int) (ls hc j : Nat) (x : Int) : Prop := L (gt x) = 0 ∨ S (gt x) ≠ 0 ∨ (∃ k, k < ls ∧ Lr k = x) ∨ ∃ k, j < k ∧ k < hc ∧ Hi k = Rs (gt x)
def TC (ts n ls0 ls hc0 hc : Nat) (M : Nat → Int) (cs : List Nat) (V L Rs T S Lr Hi : Nat → Int) : Prop :=
  (∀ g, S g ≠ 0 → ∃ i, i < n ∧ gt (T i) = g ∧ 1 ≤ L g) ∧
  (∀ j, ls0 ≤ j → j < ls → ∃ p, n ≤ p ∧ p < ts ∧ Lr j = ng (T p) ∧ 1 ≤ L (gt (T p))) ∧
  (∀ j k p q, ls0 ≤ j → j < k → k < ls → p < ts → q < ts → Lr j = ng (T p) → Lr k = ng (T q) → q < p) ∧
  (∀ j, j < hc → ∃ c ∈ cs, Hi j = ((c : Nat) : Int) ∧ ∀ x, inC M c x → V x.toNat = -1 → cov L S Lr Hi Rs ls hc j x) ∧
  (∀ j, hc0 ≤ j → j < hc → ∃ p, n ≤ p ∧ p < ts ∧ Hi j = Rs (gt (T p)) ∧ Rs (gt (T p)) ≠ 0 ∧ 1 ≤ L (gt (T p))) ∧
  (∀ j k p q, hc0 ≤ j → j < k → k < hc → p < ts → q < ts → Hi j = Rs (gt (T p)) → Hi k = Rs (gt (T q)) → q < p) ∧
  (ls0 ≤ ls ∧ ls + n ≤ ls0 + ts) ∧ (hc0 ≤ hc ∧ hc + n ≤ hc0 + ts)
/-- for what is learned: one literal of this level, the first -/
def TF (lv : Nat) (L T S Lr : Nat → Int) (n ls : Nat) : Prop :=
  (ls = 0 ∧ ∃ i, i < n ∧ S (gt (T i)) ≠ 0 ∧ L (gt (T i)) = (lv : Int)) ∨
  (1 ≤ ls ∧ L (gt (Lr 0)) = (lv : Int) ∧ (∀ g, S g ≠ 0 → L g ≠ (lv : Int)) ∧ ∀ j, 1 ≤ j → j < ls → L (gt (Lr j)) < (lv : Int))
section TcP
variable {s ts lv n ls0 ls hc0 hc : Nat} {M : Nat → Int} {cs : List Nat} {V L Rs T St S S' Lr Hi : Nat → Int}
theorem gt_ng (x : Int) : gt (ng x) = gt x := by unfold gt; rw [ng_2]
theorem TR_inj (h : TRp s ts lv M cs V L Rs T St) {p q : Nat} (hp : p < ts) (hq : q < ts) (e : gt (T p) = gt (T q)) : p = q := by
  obtain ⟨a, b, -⟩ := h
  have l1 := (a p hp).1.1
  have l2 := (a q hq).1.1
  unfold gt at e
  rcases Nat.lt_trichotomy p q with c | c | c
  · have := b p q c hq; omega
  · exact c
  · have := b q p c hp; omega
/-- a clause is the reason of one literal only -/
theorem TR_rs (h : TRp s ts lv M cs V L Rs T St) {p q : Nat} (hp : p < ts) (hq : q < ts) (e : Rs (gt (T p)) = Rs (gt (T q))) (h0 : Rs (gt (T p)) ≠ 0) : p = q := by
  obtain ⟨a, -, -, -, -, -, r, -⟩ := id h
  rcases r p hp with e1 | ⟨c1, -, e1, i1, o1, -⟩
  · exact absurd e1 h0
  · rcases r q hq with e2 | ⟨c2, -, e2, i2, o2, -⟩
    · exact absurd (e.trans e2) h0
    · have ec : c1 = c2 := by omega
      subst ec
      by_cases c : T p = T q
      · exact TR_inj h hp hq (by rw [c])
      · obtain ⟨j, hj, ej⟩ := o1 _ i2 (fun e3 => c e3.symm)
        have v1 := (a j (by omega)).2.1
        have v2 := (a q hq).2.2
        rw [ej] at v1
        rw [v1] at v2
        exact absurd v2 (by decide)
/-- later, of no lower level -/
theorem TR_mono (h : TRp s ts lv M cs V L Rs T St) {i j : Nat} (hij : i ≤ j) (hj : j < ts) : L (gt (T i)) ≤ L (gt (T j)) := by
  obtain ⟨-, -, -, e, f, -⟩ := h
  have e1 := e i (by omega)
  have e2 := e j hj
  by_cases c : 1 ≤ L (gt (T i))
  · have f3 := (f (L (gt (T i))).toNat (by omega) (by omega)).2.2
    have f1 := (f3 i (by omega)).mp (by omega)
    have f2 := (f3 j hj).mpr (by omega)
    omega
  · omega
theorem TC_skip (h : TC ts (n + 1) ls0 ls hc0 hc M cs V L Rs T S Lr Hi) (h0 : S (gt (T n)) = 0) : TC ts n ls0 ls hc0 hc M cs V L Rs T S Lr Hi := by
  obtain ⟨a, b, c, e, f, g, p, q⟩ := h
  refine ⟨fun k hk => ?_, fun j h1 h2 => ?_, c, e, fun j h1 h2 => ?_, g, ⟨p.1, by omega⟩, ⟨q.1, by omega⟩⟩
  · obtain ⟨i, hi, e1, e2⟩ := a k hk
    refine ⟨i, ?_, e1, e2⟩
    by_cases ci : i = n
    · subst ci; rw [e1] at h0; exact absurd h0 hk
    · omega
  · obtain ⟨p, h3, h4⟩ := b j h1 h2
    exact ⟨p, by omega, h4⟩
  · obtain ⟨p, h3, h4⟩ := f j h1 h2
    exact ⟨p, by omega, h4⟩
theorem TC_push (hT : TRp s ts lv M cs V L Rs T St) (hcl : ∀ c ∈ cs, ∀ x, inC M c x → lit s x) (h : TC ts (n + 1) ls0 ls hc0 hc M cs V L Rs T S Lr Hi) (hn : n < ts) (h0 : S (gt (T n)) ≠ 0) : TC ts n ls0 (ls + 1) hc0 hc M cs V L Rs T (up S (gt (T n)) 0) (up Lr ls (ng (T n))) Hi := by
  obtain ⟨a, b, c, e, f, g, p, q⟩ := h
  obtain ⟨-, -, -, hl1⟩ := a _ h0
  have htn := hT.1 n hn
  refine ⟨fun k hk => ?_, fun j h1 h2 => ?_, fun j k p1 q1 h1 h2 h3 h4 h5 e1 e2 => ?_, fun j hj => ?_, fun j h1 h2 => ?_, g, ⟨by omega, by omega⟩, ⟨q.1, by omega⟩⟩
  · by_cases ck : k = gt (T n)
    · rw [ck, up_s] at hk; exact absurd rfl hk
    · rw [up_n ck] at hk
      obtain ⟨i, hi, e1, e2⟩ := a k hk
      refine ⟨i, ?_, e1, e2⟩
      by_cases ci : i = n
      · subst ci; exact absurd e1.symm ck
      · omega
  · by_cases cj : j = ls
    · subst cj
      rw [up_s]
      exact ⟨n, Nat.le_refl _, hn, rfl, hl1⟩
    · rw [up_n cj]
      obtain ⟨p1, h3, h4⟩ := b j h1 (by omega)
      exact ⟨p1, by omega, h4⟩
  · rw [up_n (by omega)] at e1
    by_cases ck : k = ls
    · subst ck
      rw [up_s] at e2
      have : n = q1 := TR_inj hT hn h5 (by rw [← gt_ng (T n), ← gt_ng (T q1), e2])
      obtain ⟨p2, h6, h7, e3, -⟩ := b j h1 h2
      have : p1 = p2 := TR_inj hT h4 h7 (by rw [← gt_ng (T p1), ← gt_ng (T p2), ← e1, e3])
      omega
    · rw [up_n ck] at e2
      exact c j k p1 q1 h1 h2 (by omega) h4 h5 e1 e2
  · obtain ⟨c1, m1, e1, o1⟩ := e j hj
    refine ⟨c1, m1, e1, fun x hx hv => ?_⟩
    rcases o1 x hx hv with w | w | ⟨k, hk, w⟩ | w
    · exact Or.inl w
    · by_cases cx : gt x = gt (T n)
      · have lx := (hcl c1 m1 x hx).1
        have lt := htn.1.1
        have : x / 2 = T n / 2 := by unfold gt at cx; omega
        rcases ng_or this with e2 | e2
        · rw [e2, htn.2.1] at hv; exact absurd hv (by decide)
        · exact Or.inr (Or.inr (Or.inl ⟨ls, by omega, by rw [up_s, e2]⟩))
      · exact Or.inr (Or.inl (by rw [up_n cx]; exact w))
    · exact Or.inr (Or.inr (Or.inl ⟨k, by omega, by rw [up_n (by omega)]; exact w⟩))
    · exact Or.inr (Or.inr (Or.inr w))
  · obtain ⟨p1, h3, h4⟩ := f j h1 h2
    exact ⟨p1, by omega, h4⟩
theorem TC_gather {c : Nat} (hT : TRp s ts lv M cs V L Rs T St) (h : TC ts (n + 1) ls0 ls hc0 hc M cs V L Rs T S Lr Hi) (hn : n < ts) (h0 : S (gt (T n)) ≠ 0) (hc1 : c ∈ cs) (hce : Rs (gt (T n)) = (c : Int)) (hc0' : Rs (gt (T n)) ≠ 0) (hcl : ∀ x, inC M c x → lit s x)
    (hS : ∀ g, S' g ≠ 0 ↔ snC M V L (up S (gt (T n)) 0) c (M c).toNat g) : TC ts n ls0 ls hc0 (hc + 1) M cs V L Rs T S' Lr (up Hi hc (c : Int)) := by
  obtain ⟨a, b, c2, e, f, g, p, q⟩ := h
  obtain ⟨-, -, -, hl1⟩ := a _ h0
  have htn := hT.1 n hn
  have rs : ∀ x, inC M c x → V x.toNat = -1 → ∃ j, j < n ∧ T j = ng x := by
    intro x hx hv
    rcases hT.2.2.2.2.2.2.1 n hn with e1 | ⟨c1, -, e1, i1, o1, -⟩
    · exact absurd e1 hc0'
    · have ec : c1 = c := by omega
      subst ec
      exact o1 x hx (fun e2 => by rw [e2, htn.2.1] at hv; exact absurd hv (by decide))
  refine ⟨fun k hk => ?_, fun j h1 h2 => ?_, c2, fun j hj => ?_, fun j h1 h2 => ?_, fun j k p1 q1 h1 h2 h3 h4 h5 e1 e2 => ?_, ⟨p.1, by omega⟩, ⟨by omega, by omega⟩⟩
  · rcases (hS k).mp hk with w | ⟨i, hi, v1, v2, v3⟩
    · by_cases ck : k = gt (T n)
      · rw [ck, up_s] at w; exact absurd rfl w
      · rw [up_n ck] at w
        obtain ⟨i, hi, e1, e2⟩ := a k w
        refine ⟨i, ?_, e1, e2⟩
        by_cases ci : i = n
        · subst ci; exact absurd e1.symm ck
        · omega
    · obtain ⟨j, hj, ej⟩ := rs _ ⟨i, by omega, rfl⟩ v1
      exact ⟨j, hj, by rw [ej, gt_ng]; exact v3, by rw [← v3]; exact v2⟩
  · obtain ⟨p1, h3, h4⟩ := b j h1 h2
    exact ⟨p1, by omega, h4⟩
  · by_cases cj : j = hc
    · subst cj
      refine ⟨c, hc1, up_s, fun x hx hv => ?_⟩
      obtain ⟨k, hk, ek⟩ := rs x hx hv
      have hlx := (hT.2.2.2.1 k (by omega)).1
      rw [ek, gt_ng] at hlx
      by_cases cx : L (gt x) = 0
      · exact Or.inl cx
      · obtain ⟨i, hi, ei⟩ := hx
        exact Or.inr (Or.inl ((hS _).mpr (Or.inr ⟨i, by omega, by rw [ei]; exact hv, by rw [ei]; omega, by rw [ei]⟩)))
    · obtain ⟨c1, m1, e1, o1⟩ := e j (by omega)
      refine ⟨c1, m1, by rw [up_n cj]; exact e1, fun x hx hv => ?_⟩
      rcases o1 x hx hv with w | w | w | ⟨k, hk1, hk2, w⟩
      · exact Or.inl w
      · by_cases cx : gt x = gt (T n)
        · exact Or.inr (Or.inr (Or.inr ⟨hc, by omega, by omega, by rw [up_s, cx]; exact hce.symm⟩))
        · exact Or.inr (Or.inl ((hS _).mpr (Or.inl (by rw [up_n cx]; exact w))))
      · exact Or.inr (Or.inr (Or.inl w))
      · exact Or.inr (Or.inr (Or.inr ⟨k, hk1, by omega, by rw [up_n (by omega)]; exact w⟩))
  · by_cases cj : j = hc
    · subst cj
      exact ⟨n, Nat.le_refl _, hn, by rw [up_s]; exact hce.symm, hc0', hl1⟩
    · rw [up_n cj]
      obtain ⟨p1, h3, h4⟩ := f j h1 (by omega)
      exact ⟨p1, by omega, h4⟩
  · rw [up_n (by omega)] at e1
    by_cases ck : k = hc
    · subst ck
      rw [up_s] at e2
      have : n = q1 := TR_rs hT hn h5 (by rw [← e2]; exact hce) hc0'
      obtain ⟨p2, h6, h7, e3, e4, -⟩ := f j h1 h2
      have : p2 = p1 := TR_rs hT h7 h4 (by rw [← e3]; exact e1) e4
      omega
    · rw [up_n ck] at e2
      exact g j k p1 q1 h1 h2 (by omega) h4 h5 e1 e2
/-- nothing is seen any more, below the first decision -/
theorem TC_end (hT : TRp s ts lv M cs V L Rs T St) (hl : 1 ≤ lv) (h : TC ts n ls0 ls hc0 hc M cs V L Rs T S Lr Hi) (hn : (n : Int) ≤ St 1) : ∀ g, S g = 0 := by
  intro g
  by_cases c : S g = 0
  · exact c
  · obtain ⟨i, hi, e1, e2⟩ := h.1 g c
    obtain ⟨f1, f2, f3⟩ := hT.2.2.2.2.1 1 (by omega) hl
    have := (f3 i (by omega)).mp (by rw [e1]; exact e2)
    omega
theorem TF_skip (h : TF lv L T S Lr (n + 1) ls) (h0 : S (gt (T n)) = 0) : TF lv L T S Lr n ls := by
  rcases h with ⟨e, i, hi, a, b⟩ | h
  · refine Or.inl ⟨e, i, ?_, a, b⟩
    by_cases ci : i = n
    · subst ci; exact absurd h0 a
    · omega
  · exact Or.inr h
/-- nothing learned yet: what is seen here is of this level -/
theorem TF_here (hT : TRp s ts lv M cs V L Rs T St) (h : TF lv L T S Lr (n + 1) ls) (hn : n < ts) (h0 : S (gt (T n)) ≠ 0) : (ls = 0 ∧ L (gt (T n)) = (lv : Int)) ∨ (1 ≤ ls ∧ L (gt (T n)) < (lv : Int)) := by
  have e1 := (hT.2.2.2.1 n hn).2
  rcases h with ⟨e, i, hi, a, b⟩ | ⟨e, -, o, -⟩
  · have := TR_mono hT (show i ≤ n by omega) hn
    exact Or.inl ⟨e, by omega⟩
  · have := o _ h0
    exact Or.inr ⟨e, by omega⟩
theorem TF_push (hT : TRp s ts lv M cs V L Rs T St) (hl : 1 ≤ lv) (hC : TC ts (n + 1) ls0 ls hc0 hc M cs V L Rs T S Lr Hi) (h : TF lv L T S Lr (n + 1) ls) (hn : n < ts) (h0 : S (gt (T n)) ≠ 0) (hw : Rs (gt (T n)) = 0 ∨ L (gt (T n)) ≠ (lv : Int) ∨ ctn S L (lv : Int) s = 1) : TF lv L T (up S (gt (T n)) 0) (up Lr ls (ng (T n))) n (ls + 1) := by
  have hg := gt_lt (hT.1 n hn).1
  rcases TF_here hT h hn h0 with ⟨e, e1⟩ | ⟨e, e1⟩
  · refine Or.inr ⟨by omega, by rw [e, up_s, gt_ng]; exact e1, fun g hg2 e2 => ?_, fun j h1 h2 => absurd h2 (by omega)⟩
    by_cases cg : g = gt (T n)
    · rw [cg, up_s] at hg2; exact absurd rfl hg2
    · have hg3 := hg2
      rw [up_n cg] at hg3
      obtain ⟨i, hi, ei, -⟩ := hC.1 g hg3
      rcases hw with w | w | w
      · -- the decision of this level stands first
        obtain ⟨-, -, -, -, f, -, -, q⟩ := hT
        have q1 := (q n hn (by omega)).mp w
        rw [e1, Int.toNat_natCast] at q1
        have := ((f lv hl (Nat.le_refl _)).2.2 i (by omega)).mp (by rw [ei, e2]; omega)
        have : i = n := by omega
        subst this
        exact cg ei.symm
      · exact w e1
      · have c1 := ctn_1 (S := up S (gt (T n)) 0) (S' := S) (g0 := gt (T n)) up_s h0 e1 (fun k hk => (up_n hk).symm) s hg
        have hgs : g < s := by rw [← ei]; exact gt_lt (hT.1 i (by omega)).1
        have c2 := ctn_p (S := up S (gt (T n)) 0) hg2 e2 s hgs
        omega
  · rcases h with ⟨e2, -⟩ | ⟨-, a, b, c⟩
    · omega
    · refine Or.inr ⟨by omega, by rw [up_n (by omega)]; exact a, fun g hg2 => ?_, fun j h1 h2 => ?_⟩
      · by_cases cg : g = gt (T n)
        · rw [cg, up_s] at hg2; exact absurd rfl hg2
        · rw [up_n cg] at hg2; exact b g hg2
      · by_cases cj : j = ls
        · rw [cj, up_s, gt_ng]; exact e1
        · rw [up_n cj]; exact c j h1 (by omega)
theorem TF_gather {c : Nat} (hT : TRp s ts lv M cs V L Rs T St) (hl : 1 ≤ lv) (hcl : ∀ x, inC M c x → lit s x) (h : TF lv L T S Lr (n + 1) ls) (hn : n < ts) (h0 : S (gt (T n)) ≠ 0) (hce : Rs (gt (T n)) = (c : Int)) (hc0' : Rs (gt (T n)) ≠ 0)
    (hS : ∀ g, S' g ≠ 0 ↔ snC M V L (up S (gt (T n)) 0) c (M c).toNat g) : TF lv L T S' Lr n ls := by
  have htn := hT.1 n hn
  rcases hT.2.2.2.2.2.2.1 n hn with e1 | ⟨c1, -, e1, i1, o1, o2⟩
  · exact absurd e1 hc0'
  have ec : c1 = c := by omega
  subst ec
  rcases TF_here hT h hn h0 with ⟨e, e2⟩ | ⟨e, e2⟩
  · obtain ⟨y, hy, hyn, ey⟩ := o2 (by omega)
    obtain ⟨j, hj, ej⟩ := o1 y hy hyn
    have vy := (hT.1 j (by omega)).2.2
    rw [ej, ng_ng] at vy
    have gy : gt (T j) = gt y := by rw [ej, gt_ng]
    obtain ⟨i, hi, ei⟩ := hy
    have ly : L (gt y) = (lv : Int) := ey.trans e2
    exact Or.inl ⟨e, j, hj, (hS _).mpr (Or.inr ⟨i, by omega, by rw [ei]; exact vy, by rw [ei, ly]; omega, by rw [ei, gy]⟩), by rw [gy]; exact ly⟩
  · rcases h with ⟨e3, -⟩ | ⟨-, a, b, c⟩
    · omega
    · refine Or.inr ⟨e, a, fun g hg => ?_, c⟩
      rcases (hS g).mp hg with w | ⟨i, hi, v1, v2, v3⟩
      · by_cases cg : g = gt (T n)
        · rw [cg, up_s] at w; exact absurd rfl w
        · rw [up_n cg] at w; exact b g w
      · obtain ⟨j, hj, ej⟩ := o1 _ ⟨i, by omega, rfl⟩ (fun e4 => by rw [e4, htn.2.1] at v1; exact absurd v1 (by decide))
        have := TR_mono hT (show j ≤ n by omega) hn
        rw [ej, gt_ng, v3] at this
        omega
end TcP
