/-! THE CLASS READS STATEMENTS: what its heap says of the open ones and of the steps -/
def frF (Kd Tu Ro Te In : Nat → Int) : List q_Fr → Prop
  | [] => True
  | f :: S => (Kd S.length = f.1 ∧ Tu S.length = (f.2.1 : Int) ∧ Ro S.length = f.2.2.1 ∧ Te S.length = ((min f.2.2.2.1 1501 : Nat) : Int) ∧ In S.length = ((min f.2.2.2.2 1501 : Nat) : Int)) ∧ frF Kd Tu Ro Te In S
def itF : List q_St → List q_It
  | [] => []
  | x :: l => x.2.2.2 ++ itF l
def lsS (A Wh G Fr Ti : Nat → Int) : List q_St → Nat → Nat → Prop
  | [], _, _ => True
  | x :: l, i, o => (A i = x.1 ∧ Wh i = x.2.1 ∧ G i = x.2.2.1 ∧ Fr i = (o : Int) ∧ Ti i = ((o + x.2.2.2.length : Nat) : Int)) ∧ lsS A Wh G Fr Ti l (i + 1) (o + x.2.2.2.length)
/-- the first FAULT -/
def FB (P : Nat → Int) (f : Option (Int × Nat)) (a b : Int) : Prop := match f with | none => a = 0 | some x => a = x.1 ∧ a ≠ 0 ∧ b = P x.2
def AQ (p : Nat) (P : Nat → Int) (C : q_Cs) (σ : q_H) : Prop :=
  z σ 2 8 = (C.1 : Int) ∧ frF (z σ 9) (z σ 10) (z σ 11) (z σ 12) (z σ 13) C.2.1 ∧ lsS (z σ (p + 5)) (z σ (p + 6)) (z σ (p + 9)) (z σ (p + 7)) (z σ (p + 8)) C.2.2.1 0 0 ∧ (z σ p 17 = ((itF C.2.2.1).length : Int) ∧ lsI (itF C.2.2.1) (z σ (p + 10)) (z σ (p + 11)) (z σ (p + 12))) ∧
  z σ p 7 = (C.2.2.2.1 : Int) ∧ z σ p 8 = ((min C.2.2.2.2.1 1501 : Nat) : Int) ∧ FB P C.2.2.2.2.2 (z σ p 9) (z σ p 10)
section AqP
variable {Kd Tu Ro Te In Kd' Tu' Ro' Te' In' A Wh G Fr Ti A' Wh' G' Fr' Ti' : Nat → Int}
theorem frF_cong : ∀ S : List q_Fr, frF Kd Tu Ro Te In S → (∀ j, j < S.length → Kd' j = Kd j ∧ Tu' j = Tu j ∧ Ro' j = Ro j ∧ Te' j = Te j ∧ In' j = In j) → frF Kd' Tu' Ro' Te' In' S
  | [], _, _ => trivial
  | f :: S, h, g => by
    obtain ⟨a, b, c, d, e⟩ := g S.length (by simp)
    exact ⟨by rw [a, b, c, d, e]; exact h.1, frF_cong S h.2 (fun j hj => g j (by simp; omega))⟩
theorem frF_up {k : Int} {t : Nat} {r : Int} {e i : Nat} {S : List q_Fr} (h : frF Kd Tu Ro Te In S) : frF (up Kd S.length k) (up Tu S.length (t : Int)) (up Ro S.length r) (up Te S.length ((min e 1501 : Nat) : Int)) (up In S.length ((min i 1501 : Nat) : Int)) ((k, t, r, e, i) :: S) :=
  ⟨⟨up_s, up_s, up_s, up_s, up_s⟩, frF_cong S h (fun j hj => ⟨up_n (by omega), up_n (by omega), up_n (by omega), up_n (by omega), up_n (by omega)⟩)⟩
theorem cb_lp : ∀ S : List q_Fr, frF Kd Tu Ro Te In S → cb Kd S.length = (lpS S : Int)
  | [], _ => rfl
  | f :: S, h => by
    show cb Kd S.length + (if Kd S.length = 4 then 1 else 0) = (((if f.1 = 4 then 1 else 0) + lpS S : Nat) : Int)
    rw [cb_lp S h.2, h.1.1]
    split <;> omega
theorem itF_app : ∀ a b : List q_St, itF (a ++ b) = itF a ++ itF b
  | [], b => rfl
  | x :: a, b => by show x.2.2.2 ++ itF (a ++ b) = _; rw [itF_app a b, ← List.append_assoc]; rfl
theorem itF_G : ∀ (a : List q_St) (j : Nat) (g : Int), itF (stG a j g) = itF a
  | [], _, _ => rfl
  | x :: a, 0, g => rfl
  | x :: a, j + 1, g => by show x.2.2.2 ++ itF (stG a j g) = _; rw [itF_G a j g]; rfl
theorem lsS_cong : ∀ (l : List q_St) (i o : Nat), lsS A Wh G Fr Ti l i o → (∀ j, i ≤ j → j < i + l.length → A' j = A j ∧ Wh' j = Wh j ∧ G' j = G j ∧ Fr' j = Fr j ∧ Ti' j = Ti j) → lsS A' Wh' G' Fr' Ti' l i o
  | [], _, _, _, _ => trivial
  | x :: l, i, o, h, g => by
    obtain ⟨a, b, c, d, e⟩ := g i (Nat.le_refl _) (by simp)
    exact ⟨by rw [a, b, c, d, e]; exact h.1, lsS_cong l (i + 1) _ h.2 (fun j h1 h2 => g j (by omega) (by simp; omega))⟩
theorem lsS_app : ∀ (l m : List q_St) (i o : Nat), lsS A Wh G Fr Ti l i o → lsS A Wh G Fr Ti m (i + l.length) (o + (itF l).length) → lsS A Wh G Fr Ti (l ++ m) i o
  | [], m, i, o, _, g => g
  | x :: l, m, i, o, h, g => by
    refine ⟨h.1, lsS_app l m (i + 1) _ h.2 ?_⟩
    have e1 : i + 1 + l.length = i + (x :: l).length := by simp; omega
    have e2 : o + x.2.2.2.length + (itF l).length = o + (itF (x :: l)).length := by
      show _ = o + (x.2.2.2 ++ itF l).length
      simp; omega
    rw [e1, e2]; exact g
theorem lsS_add {l : List q_St} {a w g f t : Int} {its : List q_It} (h : lsS A Wh G Fr Ti l 0 0) (hf : f = ((itF l).length : Int)) (ht : t = (((itF l).length + its.length : Nat) : Int)) : lsS (up A l.length a) (up Wh l.length w) (up G l.length g) (up Fr l.length f) (up Ti l.length t) (l ++ [(a, w, g, its)]) 0 0 := by
  refine lsS_app l _ 0 0 (lsS_cong l 0 0 h (fun j _ hj => ⟨up_n (by omega), up_n (by omega), up_n (by omega), up_n (by omega), up_n (by omega)⟩)) ⟨⟨?_, ?_, ?_, ?_, ?_⟩, trivial⟩
  · rw [Nat.zero_add]; exact up_s
  · rw [Nat.zero_add]; exact up_s
  · rw [Nat.zero_add]; exact up_s
  · rw [Nat.zero_add, Nat.zero_add, up_s]; exact hf
  · rw [Nat.zero_add, Nat.zero_add, up_s]; exact ht
theorem lsS_G : ∀ (l : List q_St) (i o j : Nat) (g : Int), lsS A Wh G Fr Ti l i o → lsS A Wh (up G (i + j) g) Fr Ti (stG l j g) i o
  | [], _, _, _, _, _ => trivial
  | x :: l, i, o, 0, g, h => by
    refine ⟨⟨h.1.1, h.1.2.1, up_s, h.1.2.2.2⟩, lsS_cong l (i + 1) _ h.2 (fun k h1 h2 => ⟨rfl, rfl, up_n (by omega), rfl, rfl⟩)⟩
  | x :: l, i, o, j + 1, g, h => by
    refine ⟨⟨h.1.1, h.1.2.1, by rw [up_n (by omega)]; exact h.1.2.2.1, h.1.2.2.2⟩, ?_⟩
    have := lsS_G l (i + 1) (o + x.2.2.2.length) j g h.2
    rwa [show i + 1 + j = i + (j + 1) by omega] at this
theorem lsS_G0 {l : List q_St} {j : Nat} {g : Int} (h : lsS A Wh G Fr Ti l 0 0) : lsS A Wh (up G j g) Fr Ti (stG l j g) 0 0 := by
  have := lsS_G l 0 0 j g h
  rwa [Nat.zero_add] at this
/-- WORK above its bound is all one -/
def cpq (x : Int) (m : Nat) : Prop := 0 ≤ x ∧ x ≤ 1600 ∧ min x 1501 = ((min m 1501 : Nat) : Int)
theorem cap_w {r te ins m V : Nat} {R T I : Int} (hR : R = (r : Int)) (hT : T = ((min te 1501 : Nat) : Int)) (hI : I = ((min (ins + m) 1501 : Nat) : Int)) : min (R * (T + I + 8 * (V : Int)) + T) 1501 = ((min (r * (te + (ins + m) + 8 * V) + te) 1501 : Nat) : Int) := by
  subst hR hT hI
  have e : ((r : Int) * (((min te 1501 : Nat) : Int) + ((min (ins + m) 1501 : Nat) : Int) + 8 * (V : Int)) + ((min te 1501 : Nat) : Int)) = ((r * (min te 1501 + min (ins + m) 1501 + 8 * V) + min te 1501 : Nat) : Int) := by
    simp [Int.natCast_add, Int.natCast_mul]
  rw [e]
  generalize hx : min te 1501 + min (ins + m) 1501 + 8 * V = x
  generalize hy : te + (ins + m) + 8 * V = y
  have hxy : x = y ∨ (1501 ≤ x ∧ 1501 ≤ y) := by omega
  rcases Nat.eq_zero_or_pos r with r0 | r0
  · subst r0; omega
  · rcases hxy with q | ⟨q1, q2⟩
    · subst q
      generalize r * x = rx
      omega
    · have a1 : 1501 ≤ r * x := Nat.le_trans q1 (Nat.le_mul_of_pos_left x r0)
      have a2 : 1501 ≤ r * y := Nat.le_trans q2 (Nat.le_mul_of_pos_left y r0)
      omega
end AqP
