/-! THE PARSER, safety: steps and what is open, as functions -/
def up (f : Nat → Int) (k : Nat) (e : Int) : Nat → Int := fun j => if j = k then e else f j
theorem up_s {f : Nat → Int} {k : Nat} {e : Int} : up f k e k = e := if_pos rfl
theorem up_n {f : Nat → Int} {k j : Nat} {e : Int} (h : j ≠ k) : up f k e j = f j := if_neg h
theorem z_up {σ : q_H} {o k : Nat} {e : Int} (h : inR e) : z (zs σ o k e) o = up (z σ o) k e := funext fun j => by
  unfold up
  rw [z_if h]
  simp
def dl (a : Int) : Int := if a = 4 ∨ a = 8 then 1 else if a = 6 ∨ a = 9 then -1 else 0
def dp (A : Nat → Int) : Nat → Int
  | 0 => 0
  | i + 1 => dp A i + dl (A i)
def cn (K : Nat → Int) : Nat → Int
  | 0 => 0
  | i + 1 => cn K i + if K i = 1 then 0 else 1
def cb (K : Nat → Int) : Nat → Int
  | 0 => 0
  | i + 1 => cb K i + if K i = 4 then 1 else 0
theorem dp_up {A : Nat → Int} {n : Nat} {a : Int} : ∀ i, i ≤ n → dp (up A n a) i = dp A i
  | 0, _ => rfl
  | i + 1, h => by
    show dp (up A n a) i + dl (up A n a i) = dp A i + dl (A i)
    rw [dp_up i (by omega), up_n (by omega)]
theorem cn_up {K : Nat → Int} {n : Nat} {a : Int} : ∀ i, i ≤ n → cn (up K n a) i = cn K i
  | 0, _ => rfl
  | i + 1, h => by
    show cn (up K n a) i + (if up K n a i = 1 then 0 else 1) = cn K i + (if K i = 1 then 0 else 1)
    rw [cn_up i (by omega), up_n (by omega)]
theorem cb_up {K : Nat → Int} {n : Nat} {a : Int} : ∀ i, i ≤ n → cb (up K n a) i = cb K i
  | 0, _ => rfl
  | i + 1, h => by
    show cb (up K n a) i + (if up K n a i = 4 then 1 else 0) = cb K i + (if K i = 4 then 1 else 0)
    rw [cb_up i (by omega), up_n (by omega)]
theorem cn_bd (K : Nat → Int) : ∀ i, 0 ≤ cn K i ∧ cn K i ≤ i
  | 0 => ⟨Int.le_refl _, Int.le_refl _⟩
  | i + 1 => by
    have := cn_bd K i
    show 0 ≤ cn K i + (if K i = 1 then 0 else 1) ∧ cn K i + (if K i = 1 then 0 else 1) ≤ ((i + 1 : Nat) : Int)
    split <;> omega
theorem cb_bd (K : Nat → Int) : ∀ i, 0 ≤ cb K i ∧ cb K i ≤ i
  | 0 => ⟨Int.le_refl _, Int.le_refl _⟩
  | i + 1 => by
    have := cb_bd K i
    show 0 ≤ cb K i + (if K i = 4 then 1 else 0) ∧ cb K i + (if K i = 4 then 1 else 0) ≤ ((i + 1 : Nat) : Int)
    split <;> omega
/-- a step as it must be; O: it is the test of a loop that is open -/
def SVi (it N : Int) (O : Nat → Prop) (A Wh Fr Ti G : Nat → Int) (i : Nat) : Prop :=
  (1 ≤ A i ∧ A i ≤ 9) ∧ (0 ≤ Fr i ∧ Fr i ≤ Ti i ∧ Ti i ≤ it) ∧ (A i = 1 → 0 ≤ Wh i ∧ Wh i < 12) ∧ (A i = 2 → 0 ≤ Wh i ∧ Wh i < 512) ∧ (A i = 7 → 0 ≤ G i ∧ G i < 32) ∧ (A i = 8 → 0 ≤ Wh i ∧ Wh i < 32) ∧
  (A i = 4 ∨ A i = 5 ∨ A i = 8 ∨ A i = 9 → 0 ≤ G i ∧ G i ≤ N) ∧ (0 ≤ dp A i ∧ dp A i ≤ 31) ∧ (A i = 5 ∨ A i = 6 ∨ A i = 9 → 1 ≤ dp A i) ∧ (A i = 9 → dp A (G i).toNat + 1 = dp A i) ∧ (A i = 8 → dp A (G i).toNat = dp A i ∨ O i)
/-- one that is open -/
def OPj (N : Int) (Kd Tu Ro Te In A : Nat → Int) (j : Nat) : Prop :=
  (1 ≤ Kd j ∧ Kd j ≤ 4) ∧ (Kd j ≠ 1 → 0 ≤ Tu j ∧ Tu j < N) ∧ (Kd j = 2 → A (Tu j).toNat = 4) ∧ (Kd j = 3 → A (Tu j).toNat = 5) ∧ (Kd j = 4 → A (Tu j).toNat = 8 ∧ dp A (Tu j).toNat = cn Kd j) ∧ (0 ≤ Ro j ∧ Ro j ≤ 255) ∧ (0 ≤ Te j ∧ Te j ≤ 1501) ∧ (0 ≤ In j ∧ In j ≤ 1501)
def opn (h : Nat) (Kd Tu : Nat → Int) (i : Nat) : Prop := ∃ j, j < h ∧ Kd j = 4 ∧ Tu j = (i : Int)
/-- the first EXPR of all begins with the first item -/
def F1 (N : Nat) (A Fr Ti : Nat → Int) : Prop := N = 0 ∨ ((A 0 = 1 ∨ A 0 = 2 ∨ A 0 = 3 ∨ A 0 = 4) ∧ Fr 0 = 0 ∧ 1 ≤ Ti 0) ∨ (A 0 = 7 ∧ Fr 0 = 0 ∧ Ti 0 = 0 ∧ (N = 1 ∨ (A 1 = 8 ∧ Fr 1 = 0 ∧ 1 ≤ Ti 1)))
theorem F1_add {N : Nat} {A Fr Ti : Nat → Int} {x f0 t0 : Int} (h : F1 N A Fr Ti) (h0 : N = 0 → ((x = 1 ∨ x = 2 ∨ x = 3 ∨ x = 4) ∧ f0 = 0 ∧ 1 ≤ t0) ∨ (x = 7 ∧ f0 = 0 ∧ t0 = 0)) (h1 : N = 1 → A 0 = 7 → x = 8 ∧ f0 = 0 ∧ 1 ≤ t0) : F1 (N + 1) (up A N x) (up Fr N f0) (up Ti N t0) := by
  by_cases c : N = 0
  · subst c
    rcases h0 rfl with ⟨a, b, c⟩ | ⟨a, b, c⟩
    · exact Or.inr (Or.inl ⟨by rw [up_s]; exact a, by rw [up_s]; exact b, by rw [up_s]; exact c⟩)
    · exact Or.inr (Or.inr ⟨by rw [up_s]; exact a, by rw [up_s]; exact b, by rw [up_s]; exact c, Or.inl rfl⟩)
  · have e : ∀ (f : Nat → Int) (v : Int), up f N v 0 = f 0 := fun f v => up_n (by omega)
    unfold F1
    rw [e, e, e]
    rcases h with h | h | ⟨a, b, c2, d⟩
    · exact absurd h c
    · exact Or.inr (Or.inl h)
    · refine Or.inr (Or.inr ⟨a, b, c2, Or.inr ?_⟩)
      rcases d with d | d
      · subst d
        rw [up_s, up_s, up_s]
        exact h1 rfl a
      · by_cases c1 : N = 1
        · subst c1
          rw [up_s, up_s, up_s]
          exact h1 rfl a
        · rw [up_n (by omega), up_n (by omega), up_n (by omega)]
          exact d
/-- all of it: h open ones, N steps, it items, as assertions, S bytes read -/
def SX (h N : Nat) (it as S : Int) (Kd Tu Ro Te In A Wh Fr Ti G : Nat → Int) : Prop :=
  (∀ j, j < h → OPj N Kd Tu Ro Te In A j) ∧ dp A N = cn Kd h ∧ (∀ i, i < N → SVi it N (opn h Kd Tu) A Wh Fr Ti G i) ∧ 5 * ((N : Int) + cn Kd h) ≤ 2 * S ∧ (0 ≤ as ∧ 8 * as ≤ S) ∧ F1 N A Fr Ti
section SxP
variable {h N : Nat} {it as S : Int} {Kd Tu Ro Te In A Wh Fr Ti G : Nat → Int}
/-- more is read, more items -/
theorem SX_mono {it' as' S' : Int} (hx : SX h N it as S Kd Tu Ro Te In A Wh Fr Ti G) (h1 : it ≤ it') (h2 : S ≤ S') (h3 : 0 ≤ as' ∧ 8 * as' ≤ S') : SX h N it' as' S' Kd Tu Ro Te In A Wh Fr Ti G := by
  obtain ⟨a, b, c, d, e⟩ := hx
  refine ⟨a, b, fun i hi => ?_, by omega, h3, e.2⟩
  obtain ⟨c1, c2, c3⟩ := c i hi
  exact ⟨c1, ⟨c2.1, c2.2.1, by omega⟩, c3⟩
/-- a block is opened -/
theorem SX_block {t r e : Int} (hx : SX h N it as S Kd Tu Ro Te In A Wh Fr Ti G) (hr : 0 ≤ r ∧ r ≤ 255) (he : 0 ≤ e ∧ e ≤ 1501) : SX (h + 1) N it as S (up Kd h 1) (up Tu h t) (up Ro h r) (up Te h e) (up In h 0) A Wh Fr Ti G := by
  obtain ⟨a, b, c, d, f⟩ := hx
  have ec : cn (up Kd h 1) (h + 1) = cn Kd h := by
    show cn (up Kd h 1) h + (if up Kd h 1 h = 1 then 0 else 1) = _
    rw [cn_up h (Nat.le_refl _), up_s]; simp
  refine ⟨fun j hj => ?_, by rw [ec]; exact b, fun i hi => ?_, by rw [ec]; exact d, f⟩
  · by_cases c : j = h
    · subst c
      unfold OPj
      simp only [up_s]
      exact ⟨by decide, fun h => absurd rfl h, fun h => absurd h (by decide), fun h => absurd h (by decide), fun h => absurd h (by decide), hr, he, by decide⟩
    · have := a j (by omega)
      unfold OPj at this ⊢
      rw [up_n c, up_n c, up_n c, up_n c, up_n c, cn_up j (by omega)]
      exact this
  · obtain ⟨c1, c2, c3, c4, c5, c6, c7, c8, c9, c10, c11⟩ := c i hi
    refine ⟨c1, c2, c3, c4, c5, c6, c7, c8, c9, c10, fun h8 => (c11 h8).imp id ?_⟩
    rintro ⟨j, hj, k1, k2⟩
    exact ⟨j, by omega, by rw [up_n (by omega)]; exact k1, by rw [up_n (by omega)]; exact k2⟩
/-- a step that opens and closes nothing -/
theorem SX_step {x w fr0 g S' as' : Int} (hx : SX h N it as S Kd Tu Ro Te In A Wh Fr Ti G) (hb : 5 * ((N : Int) + 1 + cn Kd h) ≤ 2 * S') (ha : 0 ≤ as' ∧ 8 * as' ≤ S') (h31 : h ≤ 31) (hx1 : x = 1 ∨ x = 2 ∨ x = 3 ∨ x = 7) (hf : 0 ≤ fr0 ∧ fr0 ≤ it) (hw1 : x = 1 → 0 ≤ w ∧ w < 12) (hw2 : x = 2 → 0 ≤ w ∧ w < 512) (hg : x = 7 → 0 ≤ g ∧ g < 32) (hf1 : N = 0 → fr0 = 0 ∧ (x ≠ 7 → 1 ≤ it) ∧ (x = 7 → it = 0)) (hf2 : N = 1 → A 0 ≠ 7) :
    SX h (N + 1) it as' S' Kd Tu Ro Te In (up A N x) (up Wh N w) (up Fr N fr0) (up Ti N it) (up G N g) := by
  obtain ⟨a, b, c, d, f⟩ := hx
  have hcb := cn_bd Kd h
  have e1 : dp (up A N x) (N + 1) = dp A N := by
    show dp (up A N x) N + dl (up A N x N) = _
    rw [dp_up N (Nat.le_refl _), up_s]
    unfold dl
    rw [if_neg (by omega), if_neg (by omega)]; omega
  refine ⟨fun j hj => ?_, by rw [e1]; exact b, fun i hi => ?_, by omega, ha, F1_add f.2 (fun c => ?_) (fun c c2 => absurd c2 (hf2 c))⟩
  rotate_left 2
  · have := hf1 c
    by_cases c7 : x = 7
    · exact Or.inr ⟨c7, this.1, this.2.2 c7⟩
    · exact Or.inl ⟨by omega, this.1, this.2.1 c7⟩
  · obtain ⟨o1, o2, o3, o4, o5, o6⟩ := a j hj
    have u : Kd j ≠ 1 → up A N x (Tu j).toNat = A (Tu j).toNat ∧ dp (up A N x) (Tu j).toNat = dp A (Tu j).toNat := fun k => by
      have := o2 k
      exact ⟨up_n (by omega), dp_up _ (by omega)⟩
    refine ⟨o1, fun k => by have := o2 k; omega, fun k => ?_, fun k => ?_, fun k => ?_, o6⟩
    · rw [(u (by omega)).1]; exact o3 k
    · rw [(u (by omega)).1]; exact o4 k
    · rw [(u (by omega)).1, (u (by omega)).2]; exact o5 k
  · by_cases ci : i = N
    · subst ci
      unfold SVi
      rw [up_s, up_s, up_s, up_s, up_s, dp_up i (Nat.le_refl _), b]
      exact ⟨by omega, ⟨hf.1, hf.2, Int.le_refl _⟩, hw1, hw2, hg, fun k => absurd k (by omega), fun k => absurd k (by omega), ⟨hcb.1, by omega⟩, fun k => absurd k (by omega), fun k => absurd k (by omega), fun k => absurd k (by omega)⟩
    · obtain ⟨c1, c2, c3, c4, c5, c6, c7, c8, c9, c10, c11⟩ := c i (by omega)
      have gd : A i = 9 ∨ A i = 8 → dp (up A N x) (G i).toNat = dp A (G i).toNat := fun k => by
        have := c7 (by omega)
        exact dp_up _ (by omega)
      unfold SVi
      rw [up_n ci, up_n ci, up_n ci, up_n ci, up_n ci, dp_up i (by omega)]
      refine ⟨c1, c2, c3, c4, c5, c6, fun k => by have := c7 k; omega, c8, c9, fun k => ?_, fun k => ?_⟩
      · rw [gd (Or.inl k)]; exact c10 k
      · rw [gd (Or.inr k)]; exact c11 k
/-- a step that opens: an if or the test of a loop -/
theorem SX_open {x w fr0 kd r e S' : Int} (hx : SX h N it as S Kd Tu Ro Te In A Wh Fr Ti G) (hb : 5 * ((N : Int) + 2 + cn Kd h) ≤ 2 * S') (hS : S ≤ S') (h31 : h ≤ 30) (hx1 : (x = 4 ∧ kd = 2) ∨ (x = 8 ∧ kd = 4)) (hf : 0 ≤ fr0 ∧ fr0 ≤ it) (hw : x = 8 → 0 ≤ w ∧ w < 32) (hr : 0 ≤ r ∧ r ≤ 255) (he : 0 ≤ e ∧ e ≤ 1501) (hf1 : N = 0 → x = 4 ∧ fr0 = 0 ∧ 1 ≤ it) (hf2 : N = 1 → A 0 = 7 → x = 8 ∧ fr0 = 0 ∧ 1 ≤ it) :
    SX (h + 1) (N + 1) it as S' (up Kd h kd) (up Tu h N) (up Ro h r) (up Te h e) (up In h 0) (up A N x) (up Wh N w) (up Fr N fr0) (up Ti N it) (up G N 0) := by
  obtain ⟨a, b, c, d, f⟩ := hx
  have hcb := cn_bd Kd h
  have e1 : dp (up A N x) (N + 1) = dp A N + 1 := by
    show dp (up A N x) N + dl (up A N x N) = _
    rw [dp_up N (Nat.le_refl _), up_s]
    unfold dl
    rw [if_pos (by omega)]
  have ec : cn (up Kd h kd) (h + 1) = cn Kd h + 1 := by
    show cn (up Kd h kd) h + (if up Kd h kd h = 1 then 0 else 1) = _
    rw [cn_up h (Nat.le_refl _), up_s, if_neg (by omega)]
  refine ⟨fun j hj => ?_, by rw [e1, ec, b], fun i hi => ?_, by rw [ec]; omega, ⟨f.1.1, by have := f.1; omega⟩, F1_add f.2 (fun c => Or.inl ⟨by have := hf1 c; omega, (hf1 c).2⟩) hf2⟩
  · by_cases cj : j = h
    · subst cj
      unfold OPj
      rw [up_s, up_s, up_s, up_s, up_s, Int.toNat_natCast, up_s, dp_up N (Nat.le_refl _), cn_up j (Nat.le_refl _)]
      exact ⟨by omega, fun _ => by omega, fun k => by omega, fun k => by omega, fun k => ⟨by omega, b⟩, hr, he, by decide⟩
    · obtain ⟨o1, o2, o3, o4, o5, o6⟩ := a j (by omega)
      have u : Kd j ≠ 1 → up A N x (Tu j).toNat = A (Tu j).toNat ∧ dp (up A N x) (Tu j).toNat = dp A (Tu j).toNat := fun k => by
        have := o2 k
        exact ⟨up_n (by omega), dp_up _ (by omega)⟩
      unfold OPj
      rw [up_n cj, up_n cj, up_n cj, up_n cj, up_n cj, cn_up j (by omega)]
      refine ⟨o1, fun k => by have := o2 k; omega, fun k => ?_, fun k => ?_, fun k => ?_, o6⟩
      · rw [(u (by omega)).1]; exact o3 k
      · rw [(u (by omega)).1]; exact o4 k
      · rw [(u (by omega)).1, (u (by omega)).2]; exact o5 k
  · by_cases ci : i = N
    · subst ci
      unfold SVi
      rw [up_s, up_s, up_s, up_s, up_s, dp_up i (Nat.le_refl _), b]
      refine ⟨by omega, ⟨hf.1, hf.2, Int.le_refl _⟩, fun k => absurd k (by omega), fun k => absurd k (by omega), fun k => absurd k (by omega), hw, fun _ => by omega, ⟨hcb.1, by omega⟩, fun k => absurd k (by omega), fun k => absurd k (by omega), fun k => Or.inr ⟨h, by omega, ?_, ?_⟩⟩
      · rw [up_s]; omega
      · rw [up_s]
    · obtain ⟨c1, c2, c3, c4, c5, c6, c7, c8, c9, c10, c11⟩ := c i (by omega)
      have gd : A i = 9 ∨ A i = 8 → dp (up A N x) (G i).toNat = dp A (G i).toNat := fun k => by
        have := c7 (by omega)
        exact dp_up _ (by omega)
      unfold SVi
      rw [up_n ci, up_n ci, up_n ci, up_n ci, up_n ci, dp_up i (by omega)]
      refine ⟨c1, c2, c3, c4, c5, c6, fun k => by have := c7 k; omega, c8, c9, fun k => ?_, fun k => ?_⟩
      · rw [gd (Or.inl k)]; exact c10 k
      · rw [gd (Or.inr k)]
        refine (c11 k).imp id ?_
        rintro ⟨j, hj, k1, k2⟩
        exact ⟨j, by omega, by rw [up_n (by omega)]; exact k1, by rw [up_n (by omega)]; exact k2⟩
/-- what is inside counts -/
theorem SX_in {m : Nat} {v : Int} (hx : SX h N it as S Kd Tu Ro Te In A Wh Fr Ti G) (hv : 0 ≤ v ∧ v ≤ 1501) : SX h N it as S Kd Tu Ro Te (up In m v) A Wh Fr Ti G := by
  obtain ⟨a, b⟩ := hx
  refine ⟨fun j hj => ?_, b⟩
  obtain ⟨o1, o2, o3, o4, o5, o6, o7, o8⟩ := a j hj
  refine ⟨o1, o2, o3, o4, o5, o6, o7, ?_⟩
  unfold up
  split
  · exact hv
  · exact o8
/-- a block is closed -/
theorem SX_pop (hx : SX (h + 1) N it as S Kd Tu Ro Te In A Wh Fr Ti G) (hk : Kd h = 1) : SX h N it as S Kd Tu Ro Te In A Wh Fr Ti G := by
  obtain ⟨a, b, c, d, f⟩ := hx
  have ec : cn Kd (h + 1) = cn Kd h := by
    show cn Kd h + (if Kd h = 1 then 0 else 1) = _
    rw [if_pos hk]; omega
  rw [ec] at b d
  refine ⟨fun j hj => a j (by omega), b, fun i hi => ?_, d, f⟩
  obtain ⟨c1, c2, c3, c4, c5, c6, c7, c8, c9, c10, c11⟩ := c i hi
  refine ⟨c1, c2, c3, c4, c5, c6, c7, c8, c9, c10, fun k => (c11 k).imp id ?_⟩
  rintro ⟨j, hj, k1, k2⟩
  exact ⟨j, by
    rcases Nat.lt_or_ge j h with g | g
    · exact g
    · rw [show j = h by omega, hk] at k1; omega, k1, k2⟩
end SxP
