/-! WHAT AN EXPR IS WORTH: its items, one after the other, on a stack of numbers -/
def tru (b : Prop) [Decidable b] : Nat := if b then 1 else 0
def op2 (u : Int) (w x y : Nat) : Nat :=
  if u = 1 then tru (x ≠ 0 ∨ y ≠ 0) else if u = 2 then tru (x ≠ 0 ∧ y ≠ 0) else if u = 3 then x ||| y else if u = 4 then x ^^^ y else if u = 5 then x &&& y
  else if u = 6 then tru (x = y) else if u = 7 then tru (x ≠ y) else if u = 8 then tru (x < y) else if u = 9 then tru (x ≤ y) else if u = 10 then tru (y < x) else if u = 11 then tru (y ≤ x)
  else if u = 12 then (if w ≤ y then 0 else x * 2 ^ y % 2 ^ w) else if u = 13 then (if w ≤ y then 0 else x / 2 ^ y)
  else if u = 14 then (x + y) % 2 ^ w else if u = 15 then (x + 2 ^ w - y) % 2 ^ w else if u = 16 then x * y % 2 ^ w
  else if u = 17 then (if y = 0 then 2 ^ w - 1 else x / y) else (if y = 0 then x else x % y)
def op1 (u : Int) (w x : Nat) : Nat := if u = 19 then tru (x = 0) else if u = 20 then 2 ^ w - 1 - x else (2 ^ w - x) % 2 ^ w
/-- one item; I: INPUTS, U: VARIABLES -/
def stI (I U : Nat → Nat) (it : q_It) (st : List Nat) : List Nat :=
  if it.1 = 23 then it.2.1.toNat :: st else if it.1 = 24 then I it.2.1.toNat :: st else if it.1 = 25 then U it.2.1.toNat :: st
  else if it.1 = 22 then (match st with | c :: b :: a :: r => (if a ≠ 0 then b else c) :: r | r => r)
  else if 19 ≤ it.1 then (match st with | x :: r => op1 it.1 it.2.2.toNat x :: r | r => r)
  else (match st with | y :: x :: r => op2 it.1 it.2.2.toNat x y :: r | r => r)
def evI (I U : Nat → Nat) : List q_It → List Nat → List Nat
  | [], st => st
  | it :: l, st => evI I U l (stI I U it st)
/-- items that are worth v -/
def EV (I U : Nat → Nat) (l : List q_It) (v : Nat) : Prop := ∀ st, evI I U l st = v :: st
section EvP
variable {I U : Nat → Nat}
theorem evI_app : ∀ (a b : List q_It) (st : List Nat), evI I U (a ++ b) st = evI I U b (evI I U a st)
  | [], b, st => rfl
  | it :: a, b, st => evI_app a b (stI I U it st)
theorem EV_num {v w : Int} : EV I U [(23, v, w)] v.toNat := fun st => rfl
theorem EV_inp {v w : Int} : EV I U [(24, v, w)] (I v.toNat) := fun st => rfl
theorem EV_var {v w : Int} : EV I U [(25, v, w)] (U v.toNat) := fun st => rfl
theorem EV_two {a b : List q_It} {u w : Int} {x y : Nat} (ha : EV I U a x) (hb : EV I U b y) (hu : 1 ≤ u ∧ u ≤ 18) : EV I U (a ++ b ++ [(u, 0, w)]) (op2 u w.toNat x y) := fun st => by
  rw [evI_app, evI_app, ha, hb]
  show stI I U (u, 0, w) (y :: x :: st) = _
  unfold stI
  dsimp only
  rw [if_neg (by omega), if_neg (by omega), if_neg (by omega), if_neg (by omega), if_neg (by omega)]
theorem EV_one {a : List q_It} {u w : Int} {x : Nat} (ha : EV I U a x) (hu : 19 ≤ u ∧ u ≤ 21) : EV I U (a ++ [(u, 0, w)]) (op1 u w.toNat x) := fun st => by
  rw [evI_app, ha]
  show stI I U (u, 0, w) (x :: st) = _
  unfold stI
  dsimp only
  rw [if_neg (by omega), if_neg (by omega), if_neg (by omega), if_neg (by omega), if_pos (by omega)]
theorem EV_cho {a b c : List q_It} {w : Int} {x y v : Nat} (ha : EV I U a x) (hb : EV I U b y) (hc : EV I U c v) : EV I U (a ++ b ++ c ++ [(22, 0, w)]) (if x ≠ 0 then y else v) := fun st => by
  rw [evI_app, evI_app, evI_app, ha, hb, hc]
  rfl
theorem EV_fun {l : List q_It} {x y : Nat} (h : EV I U l x) (g : EV I U l y) : x = y := by
  have := (h []).symm.trans (g [])
  exact (List.cons.inj this).1
theorem tru_1 {b : Prop} [Decidable b] : tru b < 2 ^ 1 := by unfold tru; split <;> decide
/-- what is worth no more than its WIDTH holds -/
theorem op2_lt {u : Int} {w1 w2 : Int} {x y : Nat} (h1 : 1 ≤ w1 ∧ w1 ≤ 8) (h2 : 1 ≤ w2 ∧ w2 ≤ 8) (hu : 1 ≤ u ∧ u ≤ 18) (hx : x < 2 ^ w1.toNat) (hy : y < 2 ^ w2.toNat) : op2 u (oW u w1 w2).toNat x y < 2 ^ (oW u w1 w2).toNat := by
  obtain ⟨j, rfl⟩ : ∃ j : Nat, u = (j : Int) := ⟨u.toNat, by omega⟩
  have o1 : (j = 1 ∨ j = 2 ∨ j = 6 ∨ j = 7 ∨ j = 8 ∨ j = 9 ∨ j = 10 ∨ j = 11) → (sgL (j : Int) ≤ 2 ∨ sgL (j : Int) = 6 ∨ sgL (j : Int) = 7) := by
    intro c
    rcases c with q | q | q | q | q | q | q | q <;> subst q <;> decide
  have o2 : (j = 12 ∨ j = 13) → sgL (j : Int) = 8 := by
    intro c
    rcases c with q | q <;> subst q <;> decide
  have o3 : (j = 3 ∨ j = 4 ∨ j = 5 ∨ j = 14 ∨ j = 15 ∨ j = 16 ∨ j = 17 ∨ j = 18) → ¬ (sgL (j : Int) ≤ 2 ∨ sgL (j : Int) = 6 ∨ sgL (j : Int) = 7) ∧ sgL (j : Int) ≠ 8 := by
    intro c
    rcases c with q | q | q | q | q | q | q | q <;> subst q <;> decide
  have px : ∀ w : Nat, 0 < 2 ^ w := fun w => Nat.two_pow_pos w
  have mono : ∀ a b : Nat, a ≤ b → 2 ^ a ≤ 2 ^ b := fun a b h => Nat.pow_le_pow_right (by decide) h
  by_cases c1 : j = 1 ∨ j = 2 ∨ j = 6 ∨ j = 7 ∨ j = 8 ∨ j = 9 ∨ j = 10 ∨ j = 11
  · have e : oW (j : Int) w1 w2 = 1 := by unfold oW; rw [if_pos (o1 c1)]
    rw [e]
    rcases c1 with q | q | q | q | q | q | q | q <;> subst q <;> exact tru_1
  · by_cases c2 : j = 12 ∨ j = 13
    · have e : oW (j : Int) w1 w2 = w1 := by
        have := o2 c2
        unfold oW; rw [if_neg (by omega), if_pos this]
      rw [e]
      rcases c2 with q | q
      · subst q
        show (if w1.toNat ≤ y then 0 else x * 2 ^ y % 2 ^ w1.toNat) < _
        split
        · exact px _
        · exact Nat.mod_lt _ (px _)
      · subst q
        show (if w1.toNat ≤ y then 0 else x / 2 ^ y) < _
        split
        · exact px _
        · exact Nat.lt_of_le_of_lt (Nat.div_le_self _ _) hx
    · have e : oW (j : Int) w1 w2 = max w1 w2 := by
        have := o3 (by omega)
        unfold oW; rw [if_neg this.1, if_neg this.2]
      rw [e]
      have hx' : x < 2 ^ (max w1 w2).toNat := Nat.lt_of_lt_of_le hx (mono _ _ (by omega))
      have hy' : y < 2 ^ (max w1 w2).toNat := Nat.lt_of_lt_of_le hy (mono _ _ (by omega))
      have cs : j = 3 ∨ j = 4 ∨ j = 5 ∨ j = 14 ∨ j = 15 ∨ j = 16 ∨ j = 17 ∨ j = 18 := by omega
      generalize (max w1 w2).toNat = W at hx' hy'
      have pW := px W
      rcases cs with q | q | q | q | q | q | q | q <;> subst q
      · exact Nat.or_lt_two_pow hx' hy'
      · exact Nat.xor_lt_two_pow hx' hy'
      · exact Nat.lt_of_le_of_lt Nat.and_le_left hx'
      · exact Nat.mod_lt _ pW
      · exact Nat.mod_lt _ pW
      · exact Nat.mod_lt _ pW
      · show (if y = 0 then 2 ^ W - 1 else x / y) < 2 ^ W
        split
        · omega
        · exact Nat.lt_of_le_of_lt (Nat.div_le_self _ _) hx'
      · show (if y = 0 then x else x % y) < 2 ^ W
        split
        · exact hx'
        · exact Nat.lt_of_le_of_lt (Nat.mod_le _ _) hx'
theorem op1_lt {u w : Int} {x : Nat} (hw : 1 ≤ w ∧ w ≤ 8) (hx : x < 2 ^ w.toNat) : op1 u (uW u w).toNat x < 2 ^ (uW u w).toNat := by
  unfold op1 uW
  by_cases c : u = 19
  · rw [if_pos c, if_pos c]; exact tru_1
  · rw [if_neg c, if_neg c]
    have := Nat.two_pow_pos w.toNat
    split
    · omega
    · exact Nat.mod_lt _ this
end EvP
