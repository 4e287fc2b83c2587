/-! FRAMES: what a method may have changed -/
def fr (S : List Nat) (σ τ : q_H) : Prop := q_n τ = q_n σ ∧ q_t τ = q_t σ ∧ q_r τ = q_r σ ∧ ∀ o, o ∉ S → q_i τ o = q_i σ o ∧ q_l τ o = q_l σ o
theorem fr_refl {S : List Nat} {σ : q_H} : fr S σ σ := ⟨rfl, rfl, rfl, fun _ _ => ⟨rfl, rfl⟩⟩
theorem fr_trans {S : List Nat} {σ τ ρ : q_H} (h : fr S σ τ) (g : fr S τ ρ) : fr S σ ρ :=
  ⟨g.1.trans h.1, g.2.1.trans h.2.1, g.2.2.1.trans h.2.2.1, fun o ho => ⟨(g.2.2.2 o ho).1.trans (h.2.2.2 o ho).1, (g.2.2.2 o ho).2.trans (h.2.2.2 o ho).2⟩⟩
theorem fr_mono {S T : List Nat} {σ τ : q_H} (h : fr S σ τ) (hs : ∀ x ∈ S, x ∈ T) : fr T σ τ := ⟨h.1, h.2.1, h.2.2.1, fun o ho => h.2.2.2 o (fun hc => ho (hs o hc))⟩
theorem fr_s {S : List Nat} {σ τ : q_H} {o k : Nat} {e : Int} (h : fr S σ τ) (ho : o ∈ S) : fr S σ (zs τ o k e) :=
  fr_trans h ⟨rfl, rfl, rfl, fun a ha => ⟨q_row_n _ _ (fun e => ha (e ▸ ho)), rfl⟩⟩
theorem fr_t {S : List Nat} {σ τ : q_H} {o k : Nat} {x : Int64} (h : fr S σ τ) (ho : o ∈ S) : fr S σ (zt τ o k x) :=
  fr_trans h ⟨rfl, rfl, rfl, fun a ha => ⟨rfl, q_row_n _ _ (fun e => ha (e ▸ ho))⟩⟩
theorem fr_c {S : List Nat} {σ τ : q_H} {a0 sp a dp n : Nat} (h : fr S σ τ) (ho : a ∈ S) : fr S σ (zcp τ a0 sp a dp n) :=
  fr_trans h ⟨rfl, rfl, rfl, fun b hb => ⟨q_row_n _ _ (fun e => hb (e ▸ ho)), rfl⟩⟩
theorem fr_f {S : List Nat} {σ τ : q_H} {a n : Nat} {e : Int} (h : fr S σ τ) (ho : a ∈ S) : fr S σ (zfl τ a n e) :=
  fr_trans h ⟨rfl, rfl, rfl, fun b hb => ⟨q_row_n _ _ (fun e => hb (e ▸ ho)), rfl⟩⟩
theorem fr_E {S : List Nat} {σ τ : q_H} (h : fr S σ τ) (hE : q_E σ) : q_E τ := by
  obtain ⟨h1, h2, h3, -⟩ := h
  unfold q_E
  rw [h1, h2, h3]
  exact hE
theorem fr_z {S : List Nat} {σ τ : q_H} {o : Nat} (h : fr S σ τ) (ho : o ∉ S) (k : Nat) : z τ o k = z σ o k := by unfold z; rw [(h.2.2.2 o ho).1]
theorem fr_zF {S : List Nat} {σ τ : q_H} {o : Nat} (h : fr S σ τ) (ho : o ∉ S) : z τ o = z σ o := funext (fr_z h ho)
theorem fr_l {S : List Nat} {σ τ : q_H} {o : Nat} (h : fr S σ τ) (ho : o ∉ S) (k : Nat) : q_l τ o k = q_l σ o k := by rw [(h.2.2.2 o ho).2]
theorem fr_r {S : List Nat} {σ τ : q_H} (h : fr S σ τ) (o k : Nat) : q_r τ o k = q_r σ o k := by rw [h.2.2.1]
theorem fr_n {S : List Nat} {σ τ : q_H} (h : fr S σ τ) : q_n τ = q_n σ := h.1
theorem fr_tg {S : List Nat} {σ τ : q_H} (h : fr S σ τ) (o : Nat) : q_t τ o = q_t σ o := by rw [h.2.1]
/-! reading what was written -/
theorem z_zs {σ : q_H} {o k a j : Nat} {e : Int} : z (zs σ o k e) a j = if a = o ∧ j = k then (zI e).toInt else z σ a j := by
  split
  · next c => rw [c.1, c.2]; unfold z; rw [qs_s]
  · next c =>
    by_cases ha : a = o
    · exact z_k (fun hj => c ⟨ha, hj⟩)
    · exact z_o ha
theorem z_oF {σ : q_H} {o k a : Nat} {e : Int} (h : a ≠ o) : z (zs σ o k e) a = z σ a := funext fun _ => z_o h
theorem z_tF {σ : q_H} {o k a : Nat} {x : Int64} : z (zt σ o k x) a = z σ a := rfl
theorem q_row_row {α : Type} (f : Nat → α) (k : Nat) (x y : α) : q_row (q_row f k x) k y = q_row f k y := funext fun j => by unfold q_row; split <;> rfl
theorem q_row_self {α : Type} (f : Nat → α) (k : Nat) : q_row f k (f k) = f := funext fun j => by unfold q_row; split; (next h => rw [h]); rfl
theorem zs_zs {σ : q_H} {o k : Nat} {a b : Int} : zs (zs σ o k a) o k b = zs σ o k b := by
  unfold zs q_seti
  show (q_n σ, q_t σ, q_row (q_row (q_i σ) o (q_row (q_i σ o) k (zI a))) o (q_row (q_row (q_i σ) o (q_row (q_i σ o) k (zI a)) o) k (zI b)), q_r σ, q_l σ) = _
  rw [q_row_s, q_row_row, q_row_row]
theorem zs_self {σ : q_H} {o k : Nat} {e : Int} (h : z σ o k = e) : zs σ o k e = σ := by
  unfold zs q_seti
  rw [← h, ← q_z, q_row_self, q_row_self]
theorem inR_n {n : Nat} (h : n < 2147483648) : inR (n : Int) := ⟨by omega, by omega⟩
