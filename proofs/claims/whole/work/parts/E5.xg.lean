/-! items as the class works them out: each result cut to its WIDTH; and how high the stack grows -/
def op2c (u : Int) (w x y : Nat) : Nat :=
  if u = 15 then (((x : Int) - (y : Int)) % ((2 ^ w : Nat) : Int)).toNat else op2 u w x y % 2 ^ w
def op1c (u : Int) (w x : Nat) : Nat := if u = 19 then tru (x = 0) % 2 ^ w else if u = 20 then ((-(x : Int) - 1) % ((2 ^ w : Nat) : Int)).toNat else ((-(x : Int)) % ((2 ^ w : Nat) : Int)).toNat
def stC (I U : Nat → Nat) (it : q_It) (st : List Nat) : List Nat :=
  if it.1 = 23 then it.2.1.toNat :: st else if it.1 = 24 then I it.2.1.toNat :: st else if it.1 = 25 then U it.2.1.toNat :: st
  else if it.1 = 22 then (match st with | c :: b :: a :: r => (if a ≠ 0 then b else c) :: r | r => r)
  else if 19 ≤ it.1 then (match st with | x :: r => op1c it.1 it.2.2.toNat x :: r | r => r)
  else (match st with | y :: x :: r => op2c it.1 it.2.2.toNat x y :: r | r => r)
def evC (I U : Nat → Nat) : List q_It → List Nat → List Nat
  | [], st => st
  | it :: l, st => evC I U l (stC I U it st)
def EVc (I U : Nat → Nat) (l : List q_It) (v : Nat) : Prop := ∀ st, evC I U l st = v :: st
/-- from height h, never above 400 -/
def hB : List q_It → Nat → Option Nat
  | [], h => some h
  | x :: l, h => if 23 ≤ x.1 then (if h < 400 then hB l (h + 1) else none) else if x.1 = 22 then (if 3 ≤ h then hB l (h - 2) else none) else if 19 ≤ x.1 then (if 1 ≤ h then hB l h else none) else (if 2 ≤ h then hB l (h - 1) else none)
def EH (a : Nat) (l : List q_It) : Prop := ∀ h, h + a ≤ 400 → hB l h = some (h + 1)
section XgP
variable {I U : Nat → Nat}
theorem evC_app : ∀ (a b : List q_It) (st : List Nat), evC I U (a ++ b) st = evC I U b (evC I U a st)
  | [], b, st => rfl
  | it :: a, b, st => evC_app a b (stC I U it st)
theorem hB_s {x : q_It} {l : List q_It} {h : Nat} : hB (x :: l) h = if 23 ≤ x.1 then (if h < 400 then hB l (h + 1) else none) else if x.1 = 22 then (if 3 ≤ h then hB l (h - 2) else none) else if 19 ≤ x.1 then (if 1 ≤ h then hB l h else none) else (if 2 ≤ h then hB l (h - 1) else none) := rfl
theorem hB_app : ∀ (a b : List q_It) (h h' : Nat), hB a h = some h' → hB (a ++ b) h = hB b h'
  | [], b, h, h', e => by cases e; rfl
  | x :: a, b, h, h', e => by
    show hB (x :: (a ++ b)) h = _
    rw [hB_s] at e ⊢
    split at e
    · next c =>
      rw [if_pos c]
      split at e
      · next c1 => rw [if_pos c1]; exact hB_app a b _ _ e
      · cases e
    · next c =>
      rw [if_neg c]
      split at e
      · next c1 =>
        rw [if_pos c1]
        split at e
        · next c2 => rw [if_pos c2]; exact hB_app a b _ _ e
        · cases e
      · next c1 =>
        rw [if_neg c1]
        split at e
        · next c2 =>
          rw [if_pos c2]
          split at e
          · next c3 => rw [if_pos c3]; exact hB_app a b _ _ e
          · cases e
        · next c2 =>
          rw [if_neg c2]
          split at e
          · next c3 => rw [if_pos c3]; exact hB_app a b _ _ e
          · cases e
theorem EH_le {a b : Nat} {l : List q_It} (h : EH a l) (hab : a ≤ b) : EH b l := fun x hx => h x (by omega)
theorem EH_leaf {x : q_It} (h : 23 ≤ x.1) : EH 1 [x] := fun h' hh => by
  unfold hB; rw [if_pos h, if_pos (by omega)]; rfl
theorem EH_two {a b c : Nat} {l1 l2 : List q_It} {u w : Int} (h1 : EH a l1) (h2 : EH b l2) (hu : 1 ≤ u ∧ u ≤ 18) (ha : a ≤ c) (hb : b + 1 ≤ c) : EH c (l1 ++ l2 ++ [(u, 0, w)]) := fun h hh => by
  rw [List.append_assoc, hB_app l1 _ h (h + 1) (h1 h (by omega)), hB_app l2 _ (h + 1) (h + 1 + 1) (h2 (h + 1) (by omega))]
  unfold hB
  dsimp only
  rw [if_neg (by omega), if_neg (by omega), if_neg (by omega), if_pos (by omega)]
  rfl
theorem EH_one {a : Nat} {l1 : List q_It} {u w : Int} (h1 : EH a l1) (hu : 19 ≤ u ∧ u ≤ 21) : EH a (l1 ++ [(u, 0, w)]) := fun h hh => by
  rw [hB_app l1 _ h (h + 1) (h1 h (by omega))]
  unfold hB
  dsimp only
  rw [if_neg (by omega), if_neg (by omega), if_pos (by omega), if_pos (by omega)]
  rfl
theorem EH_cho {a b c : Nat} {l1 l2 l3 : List q_It} {w : Int} (h1 : EH a l1) (h2 : EH b l2) (h3 : EH b l3) (ha : a ≤ c) (hb : b + 2 ≤ c) : EH c (l1 ++ l2 ++ l3 ++ [(22, 0, w)]) := fun h hh => by
  rw [List.append_assoc, List.append_assoc, hB_app l1 _ h (h + 1) (h1 h (by omega)), hB_app l2 _ (h + 1) (h + 1 + 1) (h2 (h + 1) (by omega)), hB_app l3 _ (h + 1 + 1) (h + 1 + 1 + 1) (h3 (h + 1 + 1) (by omega))]
  unfold hB
  dsimp only
  rw [if_neg (by decide), if_pos rfl, if_pos (by omega)]
  rfl
theorem EVc_num {v w : Int} : EVc I U [(23, v, w)] v.toNat := fun st => rfl
theorem EVc_inp {v w : Int} : EVc I U [(24, v, w)] (I v.toNat) := fun st => rfl
theorem EVc_var {v w : Int} : EVc I U [(25, v, w)] (U v.toNat) := fun st => rfl
theorem EVc_two {a b : List q_It} {u w : Int} {x y : Nat} (ha : EVc I U a x) (hb : EVc I U b y) (hu : 1 ≤ u ∧ u ≤ 18) : EVc I U (a ++ b ++ [(u, 0, w)]) (op2c u w.toNat x y) := fun st => by
  rw [evC_app, evC_app, ha, hb]
  show stC I U (u, 0, w) (y :: x :: st) = _
  unfold stC
  dsimp only
  rw [if_neg (by omega), if_neg (by omega), if_neg (by omega), if_neg (by omega), if_neg (by omega)]
theorem EVc_one {a : List q_It} {u w : Int} {x : Nat} (ha : EVc I U a x) (hu : 19 ≤ u ∧ u ≤ 21) : EVc I U (a ++ [(u, 0, w)]) (op1c u w.toNat x) := fun st => by
  rw [evC_app, ha]
  show stC I U (u, 0, w) (x :: st) = _
  unfold stC
  dsimp only
  rw [if_neg (by omega), if_neg (by omega), if_neg (by omega), if_neg (by omega), if_pos (by omega)]
theorem EVc_cho {a b c : List q_It} {w : Int} {x y v : Nat} (ha : EVc I U a x) (hb : EVc I U b y) (hc : EVc I U c v) : EVc I U (a ++ b ++ c ++ [(22, 0, w)]) (if x ≠ 0 then y else v) := fun st => by
  rw [evC_app, evC_app, evC_app, ha, hb, hc]
  rfl
theorem op2c_eq {u : Int} {w1 w2 : Int} {x y : Nat} (h1 : 1 ≤ w1 ∧ w1 ≤ 8) (h2 : 1 ≤ w2 ∧ w2 ≤ 8) (hu : 1 ≤ u ∧ u ≤ 18) (hx : x < 2 ^ w1.toNat) (hy : y < 2 ^ w2.toNat) : op2c u (oW u w1 w2).toNat x y = op2 u (oW u w1 w2).toNat x y := by
  have lt := op2_lt h1 h2 hu hx hy
  unfold op2c
  by_cases c : u = 15
  · rw [if_pos c]
    subst c
    have e : oW 15 w1 w2 = max w1 w2 := by unfold oW; rw [if_neg (by decide), if_neg (by decide)]
    rw [e]
    have hy' : y ≤ 2 ^ (max w1 w2).toNat := Nat.le_of_lt (Nat.lt_of_lt_of_le hy (Nat.pow_le_pow_right (by decide) (by omega)))
    rw [sub_mod hy', Int.toNat_natCast]
    rfl
  · rw [if_neg c, Nat.mod_eq_of_lt lt]
theorem op1c_eq {u w : Int} {x : Nat} (hw : 1 ≤ w ∧ w ≤ 8) (hu : 19 ≤ u ∧ u ≤ 21) (hx : x < 2 ^ w.toNat) : op1c u (uW u w).toNat x = op1 u (uW u w).toNat x := by
  have lt := op1_lt (u := u) hw hx
  have cu : u = 19 ∨ u = 20 ∨ u = 21 := by omega
  rcases cu with q | q | q <;> subst q
  · unfold op1c
    rw [if_pos rfl]
    unfold op1 at lt ⊢
    rw [if_pos rfl] at lt ⊢
    exact Nat.mod_eq_of_lt lt
  · show ((-(x : Int) - 1) % ((2 ^ w.toNat : Nat) : Int)).toNat = 2 ^ w.toNat - 1 - x
    rw [not_mod hx, Int.toNat_natCast]
  · have q := sub_mod (x := 0) (y := x) (w := w.toNat) (Nat.le_of_lt hx)
    rw [show ((0 : Nat) : Int) - (x : Int) = -(x : Int) by omega, Nat.zero_add] at q
    show ((-(x : Int)) % ((2 ^ w.toNat : Nat) : Int)).toNat = (2 ^ w.toNat - x) % 2 ^ w.toNat
    rw [q, Int.toNat_natCast]
end XgP
/-- an EXPR that fits, and that class and reference find the same -/
def XG (H : Nat) (e : q_Ex) : Prop := (1 ≤ e.2.1 ∧ e.2.1 ≤ 8) ∧ EH H e.1 ∧ ∀ I U : Nat → Nat, vI I U e.1 → ∃ v, EV I U e.1 v ∧ EVc I U e.1 v ∧ v < 2 ^ e.2.1.toNat
theorem XG_le {a b : Nat} {e : q_Ex} (h : XG a e) (hab : a ≤ b) : XG b e := ⟨h.1, EH_le h.2.1 hab, h.2.2⟩
theorem XG_two {a b c : Nat} {e1 e2 : q_Ex} {u : Int} (h1 : XG a e1) (h2 : XG b e2) (hu : 1 ≤ u ∧ u ≤ 18) (ha : a ≤ c) (hb : b + 1 ≤ c) : XG c (eB u e1 e2) := by
  have w : 1 ≤ oW u e1.2.1 e2.2.1 ∧ oW u e1.2.1 e2.2.1 ≤ 8 := by
    have := h1.1; have := h2.1
    unfold oW
    split
    · omega
    · split <;> omega
  refine ⟨w, EH_two h1.2.1 h2.2.1 hu ha hb, fun I U hv => ?_⟩
  have v0 := vI_app.mp (vI_app.mp hv).1
  obtain ⟨x, x1, x2, x3⟩ := h1.2.2 I U v0.1
  obtain ⟨y, y1, y2, y3⟩ := h2.2.2 I U v0.2
  refine ⟨_, EV_two x1 y1 hu, ?_, op2_lt h1.1 h2.1 hu x3 y3⟩
  rw [← op2c_eq h1.1 h2.1 hu x3 y3]
  exact EVc_two x2 y2 hu
theorem XG_one {a : Nat} {e1 : q_Ex} {u : Int} (h1 : XG a e1) (hu : 19 ≤ u ∧ u ≤ 21) : XG a (eU u e1) := by
  have w : 1 ≤ uW u e1.2.1 ∧ uW u e1.2.1 ≤ 8 := by
    have := h1.1
    unfold uW
    split <;> omega
  refine ⟨w, EH_one h1.2.1 hu, fun I U hv => ?_⟩
  have v0 := (vI_app.mp hv).1
  obtain ⟨x, x1, x2, x3⟩ := h1.2.2 I U v0
  refine ⟨_, EV_one x1 hu, ?_, op1_lt h1.1 x3⟩
  rw [← op1c_eq h1.1 hu x3]
  exact EVc_one x2 hu
theorem XG_cho {a b c : Nat} {e1 e2 e3 : q_Ex} (h1 : XG a e1) (h2 : XG b e2) (h3 : XG b e3) (ha : a ≤ c) (hb : b + 2 ≤ c) : XG c (eC e1 e2 e3) := by
  have := h2.1
  have := h3.1
  refine ⟨show 1 ≤ max e2.2.1 e3.2.1 ∧ max e2.2.1 e3.2.1 ≤ 8 by omega, EH_cho h1.2.1 h2.2.1 h3.2.1 ha hb, fun I U hv => ?_⟩
  have v0 := vI_app.mp (vI_app.mp hv).1
  have v1 := vI_app.mp v0.1
  obtain ⟨x, x1, x2, x3⟩ := h1.2.2 I U v1.1
  obtain ⟨y, y1, y2, y3⟩ := h2.2.2 I U v1.2
  obtain ⟨c', c1, c2, c3⟩ := h3.2.2 I U v0.2
  refine ⟨_, EV_cho x1 y1 c1, EVc_cho x2 y2 c2, ?_⟩
  show (if x ≠ 0 then y else c') < 2 ^ (max e2.2.1 e3.2.1).toNat
  split
  · exact Nat.lt_of_lt_of_le y3 (Nat.pow_le_pow_right (by decide) (by omega))
  · exact Nat.lt_of_lt_of_le c3 (Nat.pow_le_pow_right (by decide) (by omega))
def xB (l dp : Nat) : Nat := 12 * (31 - dp) + 12 - l
section XhP
variable {K : Nat → Int} {N : Nat → q_It} {B : Nat → Bool}
theorem pX_XG (hN : ∀ t, K t = 23 ∨ K t = 30 → (1 ≤ (N t).2.2 ∧ (N t).2.2 ≤ 8) ∧ (23 ≤ (N t).1 ∧ (N t).1 ≤ 25)) : ∀ (n l : Nat) (acc : Option q_Ex) (dp t t' : Nat) (e : q_Ex), pX K N B n l acc dp t = some (.ok (t', e)) → l ≤ 11 → (acc = none ∨ 1 ≤ l) → (∀ e0, acc = some e0 → XG (xB l dp) e0) → XG (xB l dp) e
  | 0, _, _, _, _, _, _, h, _, _, _ => by unfold pX at h; cases h
  | n + 1, l, some e0, dp, t, t', e, h, hl, ha, g => by
    unfold pX at h
    have l1 : 1 ≤ l := by rcases ha with q | q; cases q; exact q
    split at h
    · next cl =>
      rcases bnd_some h with ⟨y, -, q⟩ | ⟨t2, e2, q1, q2⟩
      · cases q
      · have ku : 1 ≤ K t ∧ K t ≤ 18 := Decidable.byContradiction fun q => by
          have := sgL_0.mpr q
          omega
        have k10 := sgL_le (K t)
        have b := pX_XG hN n _ _ _ _ _ _ q1 (by omega) (Or.inl rfl) (fun e1 q => by cases q)
        refine pX_XG hN n _ _ _ _ _ _ q2 hl (Or.inr l1) (fun e1 q => ?_)
        cases q
        exact XG_two (g e0 rfl) b ku (Nat.le_refl _) (by unfold xB; omega)
    · cases h; exact g e0 rfl
  | n + 1, l, none, dp, t, t', e, h, hl, ha, g => by
    unfold pX at h
    split at h
    · next cl =>
      subst cl
      rcases bnd_some h with ⟨y, -, q⟩ | ⟨t1, e1, q1, q2⟩
      · cases q
      · have a := pX_XG hN n _ _ _ _ _ _ q1 (by omega) (Or.inl rfl) (fun e0 q => by cases q)
        have dp30 : dp ≤ 30 := ((pX_next n 1 none dp t t1 e1 (by omega) (fun q => absurd rfl q) q1).2.2.1 rfl).2
        split at q2
        · rcases bnd_some q2 with ⟨y, -, q⟩ | ⟨t2, e2, r1, r2⟩
          · cases q
          · have b := pX_XG hN n _ _ _ _ _ _ r1 (by omega) (Or.inl rfl) (fun e0 q => by cases q)
            split at r2
            · rcases bnd_some r2 with ⟨y, -, q⟩ | ⟨t3, e3, s1, s2⟩
              · cases q
              · have c := pX_XG hN n _ _ _ _ _ _ s1 (by omega) (Or.inl rfl) (fun e0 q => by cases q)
                cases s2
                exact XG_cho a b c (by unfold xB; omega) (by unfold xB; omega)
            · cases r2
        · cases q2; exact XG_le a (by unfold xB; omega)
    · split at h
      · next c0 c10 =>
        rcases bnd_some h with ⟨y, -, q⟩ | ⟨t1, e1, q1, q2⟩
        · cases q
        · have a := pX_XG hN n _ _ _ _ _ _ q1 (by omega) (Or.inl rfl) (fun e0 q => by cases q)
          exact pX_XG hN n _ _ _ _ _ _ q2 hl (Or.inr (by omega)) (fun e0 q => by cases q; exact XG_le a (by unfold xB; omega))
      · next c0 c10 =>
        have l11 : l = 11 := by omega
        subst l11
        split at h
        · cases h
        · next dp30 =>
          split at h
          · next cu =>
            rcases bnd_some h with ⟨y, -, q⟩ | ⟨t1, e1, q1, q2⟩
            · cases q
            · have a := pX_XG hN n _ _ _ _ _ _ q1 (by omega) (Or.inl rfl) (fun e0 q => by cases q)
              cases q2
              have hu : 19 ≤ (if K t = 15 then (21 : Int) else K t) ∧ (if K t = 15 then (21 : Int) else K t) ≤ 21 := by split <;> omega
              exact XG_le (XG_one a hu) (by unfold xB; omega)
          · split at h
            · rcases bnd_some h with ⟨y, -, q⟩ | ⟨t1, e1, q1, q2⟩
              · cases q
              · have a := pX_XG hN n _ _ _ _ _ _ q1 (by omega) (Or.inl rfl) (fun e0 q => by cases q)
                split at q2
                · cases q2; exact XG_le a (by unfold xB; omega)
                · cases q2
            · split at h
              · next c =>
                cases h
                have hn := hN t c
                refine ⟨hn.1, EH_le (EH_leaf hn.2.1) (by unfold xB; omega), fun I U hv => ?_⟩
                have v1 := hv (N t) (List.mem_singleton.mpr rfl)
                have eN : N t = ((N t).1, (N t).2.1, (N t).2.2) := rfl
                have ck : (N t).1 = 23 ∨ (N t).1 = 24 ∨ (N t).1 = 25 := by omega
                rcases ck with q | q | q
                · refine ⟨(N t).2.1.toNat, ?_, ?_, (v1.1 q).2⟩
                  · rw [eN, q]; exact EV_num
                  · rw [eN, q]; exact EVc_num
                · refine ⟨I (N t).2.1.toNat, ?_, ?_, v1.2.1 q⟩
                  · rw [eN, q]; exact EV_inp
                  · rw [eN, q]; exact EVc_inp
                · refine ⟨U (N t).2.1.toNat, ?_, ?_, v1.2.2 q⟩
                  · rw [eN, q]; exact EV_var
                  · rw [eN, q]; exact EVc_var
              · cases h
end XhP
