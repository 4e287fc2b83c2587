/-! THE TRAIL, as functions -/
/-- no more different numbers below s than s -/
theorem pigeon : ∀ (s t : Nat) (f : Nat → Nat), (∀ i, i < t → f i < s) → (∀ i j, i < j → j < t → f i ≠ f j) → t ≤ s
  | 0, t, f, h, _ => by
    rcases Nat.eq_zero_or_pos t with e | e
    · omega
    · exact absurd (h 0 e) (Nat.not_lt_zero _)
  | s + 1, t, f, h, g => by
    rcases Nat.eq_zero_or_pos t with e | e
    · omega
    · obtain ⟨t, rfl⟩ : ∃ k, t = k + 1 := ⟨t - 1, by omega⟩
      by_cases c : f t = s
      · have := pigeon s t f (fun i hi => by have := h i (by omega); have := g i t hi (by omega); omega) (fun i j a b => g i j a (by omega))
        omega
      · have ht := h t (by omega)
        have := pigeon s t (fun i => if f i = s then f t else f i) (fun i hi => by
          show (if f i = s then f t else f i) < s
          split
          · omega
          · have := h i (by omega); omega) (fun i j a b => by
          show (if f i = s then f t else f i) ≠ (if f j = s then f t else f j)
          have g1 := g i j a (by omega)
          have g2 := g i t (by omega) (by omega)
          have g3 := g j t b (by omega)
          split
          · split
            · omega
            · exact fun e => g3 e.symm
          · split
            · exact g2
            · exact g1)
        omega
/-- the other literal of the gate -/
def ng (x : Int) : Int := x + 1 - 2 * (x % 2)
theorem ng_ng (x : Int) : ng (ng x) = x := by unfold ng; omega
theorem ng_2 (x : Int) : ng x / 2 = x / 2 := by unfold ng; omega
theorem ng_ne (x : Int) : ng x ≠ x := by unfold ng; omega
theorem ng_or {x y : Int} (h : x / 2 = y / 2) : x = y ∨ x = ng y := by unfold ng; omega
theorem ng_lit {s : Nat} {x : Int} (h : lit s x) : lit s (ng x) := by
  obtain ⟨a, b⟩ := h
  unfold ng
  exact ⟨by omega, by omega⟩
theorem zX_ng {s : Nat} {x : Int} (hs : s ≤ 10240) (h : lit s x) : zXor x 1 = ng x := (lit_x hs h).2
def gt (x : Int) : Nat := (x / 2).toNat
/-- literals x stands in clause c -/
def inC (M : Nat → Int) (c : Nat) (x : Int) : Prop := ∃ i : Nat, (i : Int) < M c ∧ M (c + 3 + i) = x
/-- the trail: ts literals, lv decisions -/
def TRp (s ts lv : Nat) (M : Nat → Int) (cs : List Nat) (V L Rs T St : Nat → Int) : Prop :=
  (∀ i, i < ts → lit s (T i) ∧ V (T i).toNat = 1 ∧ V (ng (T i)).toNat = -1) ∧
  (∀ i j, i < j → j < ts → T i / 2 ≠ T j / 2) ∧
  (∀ l : Nat, l < 2 * s → V l = 0 ∨ ((V l = 1 ∨ V l = -1) ∧ ∃ i, i < ts ∧ T i / 2 = (l : Int) / 2)) ∧
  (∀ i, i < ts → 0 ≤ L (gt (T i)) ∧ L (gt (T i)) ≤ (lv : Int)) ∧
  (∀ k : Nat, 1 ≤ k → k ≤ lv → 1 ≤ St k ∧ St k < (ts : Int) ∧ ∀ i, i < ts → ((k : Int) ≤ L (gt (T i)) ↔ St k ≤ (i : Int))) ∧
  (∀ k : Nat, 1 ≤ k → k < lv → St k < St (k + 1)) ∧
  (∀ i, i < ts → Rs (gt (T i)) = 0 ∨ ∃ c ∈ cs, Rs (gt (T i)) = ((c : Nat) : Int) ∧ inC M c (T i) ∧ (∀ x, inC M c x → x ≠ T i → ∃ j, j < i ∧ T j = ng x) ∧ (1 ≤ L (gt (T i)) → ∃ x, inC M c x ∧ x ≠ T i ∧ L (gt x) = L (gt (T i)))) ∧
  (∀ i, i < ts → 1 ≤ L (gt (T i)) → (Rs (gt (T i)) = 0 ↔ (i : Int) = St (L (gt (T i))).toNat))
section TrP
variable {s ts lv : Nat} {M : Nat → Int} {cs : List Nat} {V L Rs T St : Nat → Int}
theorem gt_lt {x : Int} (h : lit s x) : gt x < s := by
  obtain ⟨a, b⟩ := h
  unfold gt
  omega
theorem TR_len (h : TRp s ts lv M cs V L Rs T St) : ts ≤ s := by
  obtain ⟨a, b, -⟩ := h
  refine pigeon s ts (fun i => gt (T i)) (fun i hi => gt_lt (a i hi).1) (fun i j hi hj => ?_)
  have := b i j hi hj
  have h1 := (a i (by omega)).1.1
  have h2 := (a j hj).1.1
  show gt (T i) ≠ gt (T j)
  unfold gt
  omega
theorem TR_room {x : Int} (h : TRp s ts lv M cs V L Rs T St) (hx : lit s x) (h0 : V x.toNat = 0) (h1 : V (ng x).toNat = 0) : ts < s := by
  obtain ⟨a, b, -⟩ := h
  have := pigeon s (ts + 1) (fun i => if i = ts then gt x else gt (T i)) (fun i hi => by
    show (if i = ts then gt x else gt (T i)) < s
    split
    · exact gt_lt hx
    · exact gt_lt (a i (by omega)).1) (fun i j hi hj => by
    show (if i = ts then gt x else gt (T i)) ≠ (if j = ts then gt x else gt (T j))
    have hi2 := a i (by omega)
    rw [if_neg (by omega)]
    split
    · intro e
      have l1 := hi2.1.1
      have l2 := hx.1
      have : T i / 2 = x / 2 := by unfold gt at e; omega
      rcases ng_or this with e2 | e2
      · rw [e2] at hi2; omega
      · rw [e2] at hi2; omega
    · have hj2 := a j (by omega)
      have := b i j hi (by omega)
      have l1 := hi2.1.1
      have l2 := hj2.1.1
      unfold gt
      omega)
  omega
/-- what holds is on the trail; what is denied has its other one there -/
theorem TR_pos {x : Int} (h : TRp s ts lv M cs V L Rs T St) (hx : lit s x) (hv : V x.toNat = 1) : ∃ i, i < ts ∧ T i = x := by
  obtain ⟨a, b, c, -⟩ := h
  have hx0 := hx.1
  have hx1 := hx.2
  rcases c x.toNat (by omega) with e | ⟨-, i, hi, e⟩
  · omega
  · refine ⟨i, hi, ?_⟩
    rw [show ((x.toNat : Nat) : Int) = x by omega] at e
    rcases ng_or e with e2 | e2
    · exact e2
    · have := (a i hi).2.2
      rw [e2, ng_ng] at this
      omega
theorem TR_neg {x : Int} (h : TRp s ts lv M cs V L Rs T St) (hx : lit s x) (hv : V x.toNat = -1) : ∃ i, i < ts ∧ T i = ng x := by
  obtain ⟨a, b, c, -⟩ := h
  have hx0 := hx.1
  have hx1 := hx.2
  rcases c x.toNat (by omega) with e | ⟨-, i, hi, e⟩
  · omega
  · refine ⟨i, hi, ?_⟩
    rw [show ((x.toNat : Nat) : Int) = x by omega] at e
    rcases ng_or e with e2 | e2
    · have := (a i hi).2.1
      rw [e2] at this
      omega
    · exact e2
theorem TR_fr {x : Int} (h : TRp s ts lv M cs V L Rs T St) (hx : lit s x) (hv : V x.toNat = 0) : V (ng x).toNat = 0 := by
  have hn := ng_lit hx
  have hn0 := hn.1
  have hn1 := hn.2
  rcases h.2.2.1 (ng x).toNat (by omega) with e | ⟨e, -⟩
  · exact e
  · rcases e with e | e
    · obtain ⟨i, hi, e2⟩ := TR_pos h hn e
      have := (h.1 i hi).2.2
      rw [e2, ng_ng] at this
      omega
    · obtain ⟨i, hi, e2⟩ := TR_neg h hn e
      rw [ng_ng] at e2
      have := (h.1 i hi).2.1
      rw [e2] at this
      omega
/-- a literal is put on the trail -/
theorem TR_assign {x r : Int} (h : TRp s ts lv M cs V L Rs T St) (hx : lit s x) (h0 : V x.toNat = 0)
    (hlv : ∀ k : Nat, 1 ≤ k → k ≤ lv → St k < (ts : Int) ∨ True) (hr : r = 0 ∨ ∃ c ∈ cs, r = ((c : Nat) : Int) ∧ 1 ≤ c ∧ inC M c x ∧ (∀ y, inC M c y → y ≠ x → lit s y ∧ V y.toNat = -1) ∧ (1 ≤ lv → ∃ y, inC M c y ∧ y ≠ x ∧ L (gt y) = (lv : Int))) (hr0 : 1 ≤ lv → r ≠ 0) :
    TRp s (ts + 1) lv M cs (up (up V x.toNat 1) (ng x).toNat (-1)) (up L (gt x) (lv : Int)) (up Rs (gt x) r) (up T ts x) St := by
  have hx0 := hx.1
  have hx1 := hx.2
  have hn := ng_lit hx
  have hn0 := hn.1
  have hne : (ng x).toNat ≠ x.toNat := by have := ng_ne x; omega
  have hnv := TR_fr h hx h0
  obtain ⟨a, b, c, e, f, g, p, q⟩ := id h
  -- an earlier literal is of another gate
  have oth : ∀ i, i < ts → T i / 2 ≠ x / 2 := fun i hi e2 => by
    rcases ng_or e2 with e3 | e3
    · have := (a i hi).2.1; rw [e3] at this; omega
    · have := (a i hi).2.1; rw [e3] at this; omega
  have og : ∀ i, i < ts → gt (T i) ≠ gt x := fun i hi => by
    have := oth i hi
    have := (a i hi).1.1
    unfold gt
    omega
  have ov : ∀ i, i < ts → (T i).toNat ≠ x.toNat ∧ (T i).toNat ≠ (ng x).toNat ∧ (ng (T i)).toNat ≠ x.toNat ∧ (ng (T i)).toNat ≠ (ng x).toNat := fun i hi => by
    have h1 := oth i hi
    have h2 := (a i hi).1.1
    have h3 := (ng_lit (a i hi).1).1
    have h4 := ng_2 (T i)
    have h5 := ng_2 x
    omega
  have Ti : ∀ i, i < ts → up T ts x i = T i := fun i hi => up_n (by omega)
  have Ts : up T ts x ts = x := up_s
  refine ⟨fun i hi => ?_, fun i j h1 h2 => ?_, fun l hl => ?_, fun i hi => ?_, fun k h1 h2 => ?_, g, fun i hi => ?_, fun i hi h1 => ?_⟩
  · by_cases c1 : i = ts
    · subst c1
      rw [Ts, up_n (Ne.symm hne), up_s, up_s]
      exact ⟨hx, rfl, rfl⟩
    · have o := ov i (by omega)
      rw [Ti i (by omega), up_n o.2.1, up_n o.1, up_n o.2.2.2, up_n o.2.2.1]
      exact a i (by omega)
  · by_cases c1 : j = ts
    · subst c1
      rw [Ts, Ti i h1]; exact oth i h1
    · rw [Ti i (by omega), Ti j (by omega)]; exact b i j h1 (by omega)
  · by_cases c1 : l = (ng x).toNat
    · rw [c1, up_s]
      exact Or.inr ⟨Or.inr rfl, ts, by omega, by rw [Ts]; have := ng_2 x; omega⟩
    · rw [up_n c1]
      by_cases c2 : l = x.toNat
      · rw [c2, up_s]
        exact Or.inr ⟨Or.inl rfl, ts, by omega, by rw [Ts]; omega⟩
      · rw [up_n c2]
        rcases c l hl with e1 | ⟨e1, i, hi, e2⟩
        · exact Or.inl e1
        · exact Or.inr ⟨e1, i, by omega, by rw [Ti i hi]; exact e2⟩
  · by_cases c1 : i = ts
    · subst c1
      rw [Ts, up_s]; exact ⟨by omega, Int.le_refl _⟩
    · rw [Ti i (by omega), up_n (og i (by omega))]; exact e i (by omega)
  · obtain ⟨f1, f2, f3⟩ := f k h1 h2
    refine ⟨f1, by omega, fun i hi => ?_⟩
    by_cases c1 : i = ts
    · subst c1
      rw [Ts, up_s]; omega
    · rw [Ti i (by omega), up_n (og i (by omega))]; exact f3 i (by omega)
  · by_cases c1 : i = ts
    · subst c1
      rw [Ts, up_s]
      rcases hr with e1 | ⟨c2, m2, e1, -, i2, o2, o3⟩
      · exact Or.inl e1
      · refine Or.inr ⟨c2, m2, e1, i2, fun y hy hyx => ?_, fun h1 => ?_⟩
        · obtain ⟨ly, vy⟩ := o2 y hy hyx
          obtain ⟨j, hj, ej⟩ := TR_neg h ly vy
          exact ⟨j, hj, by rw [Ti j hj]; exact ej⟩
        · rw [up_s] at h1
          obtain ⟨y, hy, hyx, ey⟩ := o3 (by omega)
          obtain ⟨ly, vy⟩ := o2 y hy hyx
          obtain ⟨j, hj, ej⟩ := TR_neg h ly vy
          have o := og j hj
          rw [ej] at o
          have : gt (ng y) = gt y := by unfold gt; rw [ng_2]
          refine ⟨y, hy, hyx, ?_⟩
          rw [up_s, up_n (by rw [← this]; exact o)]; exact ey
    · rw [Ti i (by omega), up_n (og i (by omega))]
      have oi := og i (by omega)
      rcases p i (by omega) with e1 | ⟨c2, m2, e1, i2, o2, o3⟩
      · exact Or.inl e1
      · refine Or.inr ⟨c2, m2, e1, i2, fun y hy hyx => ?_, fun h1 => ?_⟩
        · obtain ⟨j, hj, ej⟩ := o2 y hy hyx
          exact ⟨j, hj, by rw [Ti j (by omega)]; exact ej⟩
        · rw [up_n oi] at h1
          obtain ⟨y, hy, hyx, ey⟩ := o3 h1
          obtain ⟨j, hj, ej⟩ := o2 y hy hyx
          have o := og j (by omega)
          rw [ej] at o
          have : gt (ng y) = gt y := by unfold gt; rw [ng_2]
          refine ⟨y, hy, hyx, ?_⟩
          rw [up_n oi, up_n (by rw [← this]; exact o)]; exact ey
  · by_cases c1 : i = ts
    · subst c1
      rw [Ts, up_s] at h1 ⊢
      rw [up_s, Int.toNat_natCast]
      have hr1 := hr0 (by omega)
      have := (f lv (by omega) (Nat.le_refl _)).2.1
      exact ⟨fun e1 => absurd e1 hr1, fun e1 => absurd e1 (by omega)⟩
    · rw [Ti i (by omega), up_n (og i (by omega))] at h1 ⊢
      rw [up_n (og i (by omega))]
      exact q i (by omega) h1
/-- a decision: a level more -/
theorem TR_decide {x : Int} (h : TRp s ts lv M cs V L Rs T St) (hx : lit s x) (h0 : V x.toNat = 0) (ht : 1 ≤ ts) :
    TRp s (ts + 1) (lv + 1) M cs (up (up V x.toNat 1) (ng x).toNat (-1)) (up L (gt x) ((lv : Int) + 1)) (up Rs (gt x) 0) (up T ts x) (up St (lv + 1) (ts : Int)) := by
  have hx0 := hx.1
  have hx1 := hx.2
  have hn := ng_lit hx
  have hn0 := hn.1
  have hne : (ng x).toNat ≠ x.toNat := by have := ng_ne x; omega
  have hnv := TR_fr h hx h0
  obtain ⟨a, b, c, e, f, g, p, q⟩ := id h
  have oth : ∀ i, i < ts → T i / 2 ≠ x / 2 := fun i hi e2 => by
    rcases ng_or e2 with e3 | e3
    · have := (a i hi).2.1; rw [e3] at this; omega
    · have := (a i hi).2.1; rw [e3] at this; omega
  have og : ∀ i, i < ts → gt (T i) ≠ gt x := fun i hi => by
    have := oth i hi
    have := (a i hi).1.1
    unfold gt
    omega
  have ov : ∀ i, i < ts → (T i).toNat ≠ x.toNat ∧ (T i).toNat ≠ (ng x).toNat ∧ (ng (T i)).toNat ≠ x.toNat ∧ (ng (T i)).toNat ≠ (ng x).toNat := fun i hi => by
    have h1 := oth i hi
    have h2 := (a i hi).1.1
    have h3 := (ng_lit (a i hi).1).1
    have h4 := ng_2 (T i)
    have h5 := ng_2 x
    omega
  have Ti : ∀ i, i < ts → up T ts x i = T i := fun i hi => up_n (by omega)
  have Ts : up T ts x ts = x := up_s
  refine ⟨fun i hi => ?_, fun i j h1 h2 => ?_, fun l hl => ?_, fun i hi => ?_, fun k h1 h2 => ?_, fun k h1 h2 => ?_, fun i hi => ?_, fun i hi h1 => ?_⟩
  · by_cases c1 : i = ts
    · subst c1
      rw [Ts, up_n (Ne.symm hne), up_s, up_s]
      exact ⟨hx, rfl, rfl⟩
    · have o := ov i (by omega)
      rw [Ti i (by omega), up_n o.2.1, up_n o.1, up_n o.2.2.2, up_n o.2.2.1]
      exact a i (by omega)
  · by_cases c1 : j = ts
    · subst c1
      rw [Ts, Ti i h1]; exact oth i h1
    · rw [Ti i (by omega), Ti j (by omega)]; exact b i j h1 (by omega)
  · by_cases c1 : l = (ng x).toNat
    · rw [c1, up_s]
      exact Or.inr ⟨Or.inr rfl, ts, by omega, by rw [Ts]; have := ng_2 x; omega⟩
    · rw [up_n c1]
      by_cases c2 : l = x.toNat
      · rw [c2, up_s]
        exact Or.inr ⟨Or.inl rfl, ts, by omega, by rw [Ts]; omega⟩
      · rw [up_n c2]
        rcases c l hl with e1 | ⟨e1, i, hi, e2⟩
        · exact Or.inl e1
        · exact Or.inr ⟨e1, i, by omega, by rw [Ti i hi]; exact e2⟩
  · by_cases c1 : i = ts
    · subst c1
      rw [Ts, up_s]; exact ⟨by omega, by omega⟩
    · have := e i (by omega)
      rw [Ti i (by omega), up_n (og i (by omega))]; omega
  · by_cases c1 : k = lv + 1
    · subst c1
      rw [up_s]
      refine ⟨by omega, by omega, fun i hi => ?_⟩
      by_cases c2 : i = ts
      · subst c2
        rw [Ts, up_s]; omega
      · have := e i (by omega)
        rw [Ti i (by omega), up_n (og i (by omega))]; omega
    · obtain ⟨f1, f2, f3⟩ := f k h1 (by omega)
      rw [up_n c1]
      refine ⟨f1, by omega, fun i hi => ?_⟩
      by_cases c2 : i = ts
      · subst c2
        rw [Ts, up_s]; omega
      · rw [Ti i (by omega), up_n (og i (by omega))]; exact f3 i (by omega)
  · rw [up_n (show k ≠ lv + 1 by omega)]
    by_cases c1 : k = lv
    · subst c1
      rw [up_s]; exact (f k h1 (Nat.le_refl _)).2.1
    · rw [up_n (by omega)]; exact g k h1 (by omega)
  · by_cases c1 : i = ts
    · subst c1
      rw [Ts, up_s]; exact Or.inl rfl
    · rw [Ti i (by omega), up_n (og i (by omega))]
      have oi := og i (by omega)
      rcases p i (by omega) with e1 | ⟨c2, m2, e1, i2, o2, o3⟩
      · exact Or.inl e1
      · refine Or.inr ⟨c2, m2, e1, i2, fun y hy hyx => ?_, fun h1 => ?_⟩
        · obtain ⟨j, hj, ej⟩ := o2 y hy hyx
          exact ⟨j, hj, by rw [Ti j (by omega)]; exact ej⟩
        · rw [up_n oi] at h1
          obtain ⟨y, hy, hyx, ey⟩ := o3 h1
          obtain ⟨j, hj, ej⟩ := o2 y hy hyx
          have o := og j (by omega)
          rw [ej] at o
          have : gt (ng y) = gt y := by unfold gt; rw [ng_2]
          refine ⟨y, hy, hyx, ?_⟩
          rw [up_n oi, up_n (by rw [← this]; exact o)]; exact ey
  · by_cases c1 : i = ts
    · subst c1
      rw [Ts, up_s, up_s, show ((lv : Int) + 1).toNat = lv + 1 by omega, up_s]
      exact ⟨fun _ => rfl, fun _ => rfl⟩
    · have hl := e i (by omega)
      rw [Ti i (by omega), up_n (og i (by omega))] at h1 ⊢
      rw [up_n (og i (by omega)), up_n (by omega)]
      exact q i (by omega) h1
end TrP
