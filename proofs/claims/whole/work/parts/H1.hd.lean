/-! INPUTS by number, the first counts most; the run of each; what the reference noted of them -/
def spr (w : Nat → Nat) : Nat → Nat → Nat → Nat
  | 0, _, _ => 0
  | n + 1, t, i => if i = n then t % 2 ^ w n else spr w n (t / 2 ^ w n) i
def smn (w : Nat → Nat) : Nat → Nat
  | 0 => 0
  | n + 1 => smn w n + w n
def iW (p : Nat) (σ : q_H) (i : Nat) : Nat := (z σ (p + 1) i).toNat
def iN (p : Nat) (σ : q_H) : Nat := (z σ p 0).toNat
/-- the run of INPUTS number t -/
def rnT (p : Nat) (S : List q_St) (σ : q_H) (t : Nat) : q_Sp := runF S (z σ (p + 3)) (spr (iW p σ) (iN p σ) t)
def TBq (p V : Nat) (S : List q_St) (σ : q_H) : Prop := z σ 94 55 = 0 ∨ (z σ 94 55 = 1 ∧ ∀ t, t < 2 ^ smn (iW p σ) (iN p σ) → z σ 122 t = (rnT p S σ t).1 ∧ z σ 131 t = (rnT p S σ t).2.1 ∧ ((rnT p S σ t).1 = 0 → ∀ v, v < V → zAnd (z σ 124 (12 * t + v)) 255 = (((rnT p S σ t).2.2 v : Nat) : Int)))
theorem TBq_cg {p V : Nat} {S : List q_St} {σ τ : q_H} (h : TBq p V S σ) (e0 : z τ p = z σ p) (e1 : z τ (p + 1) = z σ (p + 1)) (e3 : z τ (p + 3) = z σ (p + 3)) (e55 : z τ 94 55 = z σ 94 55) (ht : ∀ o, o ∈ [122, 124, 131] → z τ o = z σ o) : TBq p V S τ := by
  unfold TBq rnT iW iN at h ⊢
  rw [e0, e1, e3, e55, ht 122 (by simp), ht 124 (by simp), ht 131 (by simp)]
  exact h
