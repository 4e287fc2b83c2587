/-! THE MACHINE on steps, as a function -/
def upq {α : Type} (f : Nat → α) (k : Nat) (x : α) (i : Nat) : α := if i = k then x else f i
/-- the numbers of the twelve first places -/
def nw (f : Nat → Int) (i : Nat) : Nat := if i < 12 then (f i).toNat else 0
def wth (I U : Nat → Nat) (l : List q_It) : Nat := (evI I U l []).headD 0
abbrev q_Ms : Type := Nat × (Nat → Nat) × (Nat → Int)
abbrev q_Sp : Type := Int × Int × (Nat → Nat)
def mNx (S : List q_St) (W : Nat → Int) (I : Nat → Nat) (c : q_Ms) : Sum q_Ms q_Sp :=
  match S[c.1]? with
  | none => .inr (0, -1, c.2.1)
  | some x =>
    if x.1 = 1 then .inl (c.1 + 1, upq c.2.1 x.2.1.toNat (wth I c.2.1 x.2.2.2 % 2 ^ (W x.2.1.toNat).toNat), c.2.2)
    else if x.1 = 2 then (if wth I c.2.1 x.2.2.2 = 0 then .inr (1, x.2.1, c.2.1) else .inl (c.1 + 1, c.2.1, c.2.2))
    else if x.1 = 3 then (if wth I c.2.1 x.2.2.2 = 0 then .inr (2, -1, c.2.1) else .inl (c.1 + 1, c.2.1, c.2.2))
    else if x.1 = 4 then (if wth I c.2.1 x.2.2.2 = 0 then .inl (x.2.2.1.toNat, c.2.1, c.2.2) else .inl (c.1 + 1, c.2.1, c.2.2))
    else if x.1 = 5 ∨ x.1 = 9 then .inl (x.2.2.1.toNat, c.2.1, c.2.2)
    else if x.1 = 7 then .inl (c.1 + 1, c.2.1, upq c.2.2 x.2.2.1.toNat x.2.1)
    else if x.1 = 8 then (if wth I c.2.1 x.2.2.2 = 0 then .inl (x.2.2.1.toNat, c.2.1, c.2.2) else if c.2.2 x.2.1.toNat = 0 then .inr (2, -1, c.2.1) else .inl (c.1 + 1, c.2.1, upq c.2.2 x.2.1.toNat (zI (c.2.2 x.2.1.toNat - 1)).toInt))
    else .inl (c.1 + 1, c.2.1, c.2.2)
def mIt (S : List q_St) (W : Nat → Int) (I : Nat → Nat) : Nat → q_Ms → Sum q_Ms q_Sp
  | 0, c => .inl c
  | n + 1, c => match mNx S W I c with | .inl c' => mIt S W I n c' | .inr s => .inr s
/-- what items keep to: numbers, INPUTS and VARIABLES of WIDTHS WI and WU, V VARIABLES -/
def cI (WI WU : Nat → Int) (V : Nat) (x : q_It) : Prop := (1 ≤ x.2.2 ∧ x.2.2 ≤ 8) ∧ (x.1 = 23 → 0 ≤ x.2.1 ∧ x.2.1.toNat < 2 ^ x.2.2.toNat) ∧ (x.1 = 24 → (0 ≤ x.2.1 ∧ x.2.1 < 12) ∧ x.2.2 = WI x.2.1.toNat) ∧ (x.1 = 25 → (0 ≤ x.2.1 ∧ x.2.1 < 12) ∧ x.2.1 < (V : Int) ∧ x.2.2 = WU x.2.1.toNat)
def uO (W : Nat → Int) (U : Nat → Nat) : Prop := ∀ i, i < 12 → U i < 2 ^ (W i).toNat
/-- S holds l from i on -/
def At (S : List q_St) (i : Nat) (l : List q_St) : Prop := ∀ j, j < l.length → S[i + j]? = l[j]?
section PmP
variable {S : List q_St} {W WI WU : Nat → Int} {I U : Nat → Nat} {V : Nat}
theorem At_cons {i : Nat} {x : q_St} {l : List q_St} (h : At S i (x :: l)) : S[i]? = some x ∧ At S (i + 1) l := by
  refine ⟨h 0 (by simp), fun j hj => ?_⟩
  have := h (j + 1) (by simp; omega)
  rw [show i + 1 + j = i + (j + 1) by omega, this]
  rfl
theorem At_app {i : Nat} {a b : List q_St} (h : At S i (a ++ b)) : At S i a ∧ At S (i + a.length) b := by
  refine ⟨fun j hj => ?_, fun j hj => ?_⟩
  · rw [h j (by rw [List.length_append]; omega), List.getElem?_append_left hj]
  · rw [show i + a.length + j = i + (a.length + j) by omega, h (a.length + j) (by rw [List.length_append]; omega), List.getElem?_append_right (by omega)]
    congr 1
    omega
theorem mIt_tr : ∀ (a b : Nat) (c c' : q_Ms) (r : Sum q_Ms q_Sp), mIt S W I a c = .inl c' → mIt S W I b c' = r → mIt S W I (a + b) c = r
  | 0, b, c, c', r, h, g => by
    rw [Nat.zero_add]
    have : c = c' := Sum.inl.inj h
    rw [this]; exact g
  | a + 1, b, c, c', r, h, g => by
    rw [show a + 1 + b = (a + b) + 1 by omega]
    unfold mIt at h ⊢
    generalize mNx S W I c = y at h
    cases y with
    | inl d => exact mIt_tr a b d c' r h g
    | inr s => cases h
theorem mIt_1 {c : q_Ms} {r : Sum q_Ms q_Sp} (h : mNx S W I c = r) : mIt S W I 1 c = r := by
  unfold mIt
  rw [h]
  cases r with
  | inl d => rfl
  | inr s => rfl
theorem mIt_end : ∀ (a b : Nat) (c : q_Ms) (s : q_Sp), mIt S W I a c = .inr s → mIt S W I (a + b) c = .inr s
  | 0, b, c, s, h => by cases h
  | a + 1, b, c, s, h => by
    rw [show a + 1 + b = (a + b) + 1 by omega]
    unfold mIt at h ⊢
    generalize mNx S W I c = y at h
    cases y with
    | inl d => exact mIt_end a b d s h
    | inr x => exact h
theorem EV_wth {l : List q_It} {v : Nat} (h : EV I U l v) : wth I U l = v := by
  unfold wth; rw [h]; rfl
/-! one step -/
variable {i : Nat} {R : Nat → Int} {a b : Int} {l : List q_It}
theorem x_set (h : S[i]? = some (1, a, b, l)) : mNx S W I (i, U, R) = .inl (i + 1, upq U a.toNat (wth I U l % 2 ^ (W a.toNat).toNat), R) := by
  unfold mNx; dsimp only; rw [h]; rfl
theorem x_asr0 (h : S[i]? = some (2, a, b, l)) (hv : wth I U l = 0) : mNx S W I (i, U, R) = .inr (1, a, U) := by
  unfold mNx; dsimp only; rw [h]; dsimp only; rw [if_neg (by decide), if_pos rfl, if_pos hv]
theorem x_asr1 (h : S[i]? = some (2, a, b, l)) (hv : wth I U l ≠ 0) : mNx S W I (i, U, R) = .inl (i + 1, U, R) := by
  unfold mNx; dsimp only; rw [h]; dsimp only; rw [if_neg (by decide), if_pos rfl, if_neg hv]
theorem x_asm0 (h : S[i]? = some (3, a, b, l)) (hv : wth I U l = 0) : mNx S W I (i, U, R) = .inr (2, -1, U) := by
  unfold mNx; dsimp only; rw [h]; dsimp only; rw [if_neg (by decide), if_neg (by decide), if_pos rfl, if_pos hv]
theorem x_asm1 (h : S[i]? = some (3, a, b, l)) (hv : wth I U l ≠ 0) : mNx S W I (i, U, R) = .inl (i + 1, U, R) := by
  unfold mNx; dsimp only; rw [h]; dsimp only; rw [if_neg (by decide), if_neg (by decide), if_pos rfl, if_neg hv]
theorem x_if0 (h : S[i]? = some (4, a, b, l)) (hv : wth I U l = 0) : mNx S W I (i, U, R) = .inl (b.toNat, U, R) := by
  unfold mNx; dsimp only; rw [h]; dsimp only; rw [if_neg (by decide), if_neg (by decide), if_neg (by decide), if_pos rfl, if_pos hv]
theorem x_if1 (h : S[i]? = some (4, a, b, l)) (hv : wth I U l ≠ 0) : mNx S W I (i, U, R) = .inl (i + 1, U, R) := by
  unfold mNx; dsimp only; rw [h]; dsimp only; rw [if_neg (by decide), if_neg (by decide), if_neg (by decide), if_pos rfl, if_neg hv]
theorem x_go {o : Int} (ho : o = 5 ∨ o = 9) (h : S[i]? = some (o, a, b, l)) : mNx S W I (i, U, R) = .inl (b.toNat, U, R) := by
  unfold mNx; dsimp only; rw [h]; dsimp only; rw [if_neg (by omega), if_neg (by omega), if_neg (by omega), if_neg (by omega), if_pos ho]
theorem x_loop (h : S[i]? = some (7, a, b, l)) : mNx S W I (i, U, R) = .inl (i + 1, U, upq R b.toNat a) := by
  unfold mNx; dsimp only; rw [h]; rfl
theorem x_test0 (h : S[i]? = some (8, a, b, l)) (hv : wth I U l = 0) : mNx S W I (i, U, R) = .inl (b.toNat, U, R) := by
  unfold mNx; dsimp only; rw [h]; dsimp only; rw [if_neg (by decide), if_neg (by decide), if_neg (by decide), if_neg (by decide), if_neg (by decide), if_neg (by decide), if_pos rfl, if_pos hv]
theorem x_test1 (h : S[i]? = some (8, a, b, l)) (hv : wth I U l ≠ 0) (hr : R a.toNat ≠ 0) : mNx S W I (i, U, R) = .inl (i + 1, U, upq R a.toNat (zI (R a.toNat - 1)).toInt) := by
  unfold mNx; dsimp only; rw [h]; dsimp only; rw [if_neg (by decide), if_neg (by decide), if_neg (by decide), if_neg (by decide), if_neg (by decide), if_neg (by decide), if_pos rfl, if_neg hv, if_neg hr]
theorem x_test2 (h : S[i]? = some (8, a, b, l)) (hv : wth I U l ≠ 0) (hr : R a.toNat = 0) : mNx S W I (i, U, R) = .inr (2, -1, U) := by
  unfold mNx; dsimp only; rw [h]; dsimp only; rw [if_neg (by decide), if_neg (by decide), if_neg (by decide), if_neg (by decide), if_neg (by decide), if_neg (by decide), if_pos rfl, if_neg hv, if_pos hr]
theorem x_join (h : S[i]? = some (6, a, b, l)) : mNx S W I (i, U, R) = .inl (i + 1, U, R) := by
  unfold mNx; dsimp only; rw [h]; dsimp only; rw [if_neg (by decide), if_neg (by decide), if_neg (by decide), if_neg (by decide), if_neg (by decide), if_neg (by decide), if_neg (by decide)]
theorem x_end (h : S[i]? = none) : mNx S W I (i, U, R) = .inr (0, -1, U) := by
  unfold mNx; dsimp only; rw [h]
/-! what an EXPR is worth hangs on twelve INPUTS and VARIABLES -/
theorem stI_cong {I' U' : Nat → Nat} {x : q_It} {st : List Nat} (h : cI WI WU V x) (hI : ∀ i, i < 12 → I' i = I i) (hU : ∀ i, i < 12 → U' i = U i) : stI I' U' x st = stI I U x st := by
  obtain ⟨-, -, h2, h3⟩ := h
  unfold stI
  by_cases c : x.1 = 24
  · rw [hI _ (by have := h2 c; omega), if_neg (show ¬ x.1 = 23 by omega), if_pos c, if_neg (show ¬ x.1 = 23 by omega), if_pos c]
  · by_cases c' : x.1 = 25
    · rw [hU _ (by have := h3 c'; omega)]
      simp only [if_neg (show ¬ x.1 = 23 by omega), if_neg c, if_pos c']
    · simp only [if_neg c, if_neg c']
theorem evI_cong {I' U' : Nat → Nat} (hI : ∀ i, i < 12 → I' i = I i) (hU : ∀ i, i < 12 → U' i = U i) : ∀ (l : List q_It) (st : List Nat), gI (cI WI WU V) l → evI I' U' l st = evI I U l st
  | [], _, _ => rfl
  | x :: l, st, h => by
    show evI I' U' l (stI I' U' x st) = evI I U l (stI I U x st)
    rw [stI_cong (h x (by simp)) hI hU]
    exact evI_cong hI hU l _ (fun y hy => h y (by simp [hy]))
theorem EV_cong {I' U' : Nat → Nat} {l : List q_It} {v : Nat} (hI : ∀ i, i < 12 → I' i = I i) (hU : ∀ i, i < 12 → U' i = U i) (g : gI (cI WI WU V) l) (h : EV I U l v) : EV I' U' l v := fun st => by rw [evI_cong hI hU l st g]; exact h st
theorem vI_of {l : List q_It} (g : gI (cI WI WU V) l) (hI : uO WI I) (hU : uO WU U) : vI I U l := fun x hx => by
  obtain ⟨-, h1, h2, h3⟩ := g x hx
  refine ⟨h1, fun c => ?_, fun c => ?_⟩
  · obtain ⟨a, b⟩ := h2 c
    rw [b]; exact hI _ (by omega)
  · obtain ⟨a, -, b⟩ := h3 c
    rw [b]; exact hU _ (by omega)
theorem gI_w {l : List q_It} (g : gI (cI WI WU V) l) : wI l := fun x hx => (g x hx).1
theorem uO_upq {k : Nat} {v : Nat} (h : uO WU U) (hv : v < 2 ^ (WU k).toNat) : uO WU (upq U k v) := fun i hi => by
  unfold upq
  split
  · next c => rw [c]; exact hv
  · exact h i hi
end PmP
theorem nw_upq {σ : q_H} {o k : Nat} {e : Int} (hk : k < 12) (he : inR e) : nw (z (zs σ o k e) o) = upq (nw (z σ o)) k e.toNat := funext fun i => by
  unfold nw upq
  by_cases c : i = k
  · rw [if_pos c, if_pos (by omega), c, z_s he]
  · rw [if_neg c, z_k c]
theorem nw_c {f g : Nat → Int} (h : ∀ i, i < 12 → f i = g i) : nw f = nw g := funext fun i => by
  unfold nw
  split
  · next c => rw [h i c]
  · rfl
theorem nv_nw {f : Nat → Int} : ∀ i, i < 12 → nw f i = nv f i := fun i hi => by unfold nw nv; rw [if_pos hi]
