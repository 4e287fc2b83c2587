theorem q_E_ex {σ : q_H} {t : Nat × Nat} (h : q_E σ) : q_E (q_add σ t) := q_E_add h rfl
section MoreJ
variable {ω : q_W} {μ : q_M} {d mc ms cs sl pc : Nat} {L : List (Nat × Value)} {st : List Value} {σ : q_H} {Q : q_R → q_H → Prop}
theorem j_more {mc' ms' : Nat} (h1 : mc ≤ mc') (h2 : ms ≤ ms') (kk : J ω μ d mc ms cs sl pc L st σ Q) : J ω μ d mc' ms' cs sl pc L st σ Q := by
  intro p l e R s m args below meth c H locs ls C hr hl hf T hT X
  obtain ⟨c1, c2, c3, c4, c5, c6, c7, c8, c9, c10, ⟨c11, c12, c13, c13b⟩, c14⟩ := C
  obtain ⟨t, a1, r, τ, L1, b1, b2, b3, b4, b5, b6, b7⟩ := kk p l e R s m args below meth c H locs ls ⟨c1, c2, c3, c4, c5, c6, c7, c8, c9, c10, ⟨c11, c12, Nat.le_trans h1 c13, Nat.le_trans h2 c13b⟩, c14⟩ hr hl hf T hT X
  exact ⟨t, a1, r, τ, L1, b1, b2, b3, b4, b5, b6.weaken (fun y hy _ => hy) h1 h2, b7⟩
end MoreJ
theorem q_exT {σ : q_H} (t : Nat × Nat) : (0 < q_n σ + 1 ∧ q_n σ + 1 ≤ q_n (q_add σ t)) ∧ q_t (q_add σ t) (q_n σ + 1) = t := ⟨⟨by omega, Nat.le_refl _⟩, q_row_s _ _ _⟩
theorem q_exI {σ : q_H} (h : q_E σ) (t : Nat × Nat) {o : Nat} (ho : o ≤ 132) : q_i (q_add σ t) o = q_i σ o := q_row_n _ _ (by have := h.1; omega)
/-! THE CALLS THAT WANT A PROGRAM, WITHOUT ONE -/
theorem tk_fails {ω : q_W} {σ : q_H} {P : q_H → Prop} (hE : q_E σ) (hn : q_n σ < 900000) (hb : q_i σ 1 4 = 0) (hm : q_i σ 94 31 = 0) (hP : P (q_seti (q_add σ (5, 2)) 94 0 1)) :
    q_okI (fun Qx => J ω m_L_fails 2000 1 6 0 0 0 [(0, .ref 1), (1, .ref 132)] [] σ Qx) (fun τ Qx => J ω m_M_fails 2000 0 0 0 0 0 [(0, .ref 94)] [] τ Qx) P := by
  refine j_deep (d := 10) (by decide) (c_L_fails hE (j_mono (fun r τ h => ?_) (n_H_fails hE hn hb)))
  obtain ⟨rfl, rfl⟩ := h
  refine ⟨q_E_ex hE, (q_exT (5, 2)).1, (2, 1), by simp, (q_exT (5, 2)).2, 1, rfl, q_E_ex hE, ?_⟩
  refine j_deep (d := 1) (by decide) (j_mono (fun r2 τ2 h2 => ?_) (n_M_fails (q_E_ex hE) (by rw [q_exI hE _ (by decide)]; exact hm)))
  obtain ⟨rfl, rfl⟩ := h2
  exact ⟨0, rfl, q_E_i (q_E_ex hE), rfl, fun h => absurd h (by decide), hP⟩
theorem tk_failsAt {ω : q_W} {σ : q_H} {P : q_H → Prop} {a0 : Int32} (hE : q_E σ) (hn : q_n σ < 900000) (hb : q_i σ 1 4 = 0) (hm : q_i σ 94 31 = 0) (hP : P (q_seti (q_add σ (5, 2)) 94 0 1)) :
    q_okI (fun Qx => J ω m_L_failsAt 2000 1 6 0 0 0 [(0, .ref 1), (1, .int a0), (2, .ref 132)] [] σ Qx) (fun τ Qx => J ω m_M_failsAt 2000 0 0 0 0 0 [(0, .ref 94), (1, .int a0)] [] τ Qx) P := by
  refine j_deep (d := 10) (by decide) (c_L_failsAt hE (j_mono (fun r τ h => ?_) (n_H_failsAt hE hn hb a0)))
  obtain ⟨rfl, rfl⟩ := h
  refine ⟨q_E_ex hE, (q_exT (5, 2)).1, (2, 1), by simp, (q_exT (5, 2)).2, 1, rfl, q_E_ex hE, ?_⟩
  refine j_deep (d := 1) (by decide) (j_mono (fun r2 τ2 h2 => ?_) (n_M_failsAt (q_E_ex hE) (by rw [q_exI hE _ (by decide)]; exact hm) a0))
  obtain ⟨rfl, rfl⟩ := h2
  exact ⟨0, rfl, q_E_i (q_E_ex hE), rfl, fun h => absurd h (by decide), hP⟩
theorem tk_least {ω : q_W} {σ : q_H} {P : q_H → Prop} {a0 : Int32} (hE : q_E σ) (hn : q_n σ < 900000) (hb : q_i σ 1 4 = 0) (hm : q_i σ 94 31 = 0) (hP : P (q_seti (q_add σ (5, 2)) 94 0 1)) :
    q_okI (fun Qx => J ω m_L_least 2000 1 6 0 0 0 [(0, .ref 1), (1, .int a0), (2, .ref 132)] [] σ Qx) (fun τ Qx => J ω m_M_least 2000 0 0 0 0 0 [(0, .ref 94), (1, .int a0)] [] τ Qx) P := by
  refine j_deep (d := 10) (by decide) (c_L_least hE (j_mono (fun r τ h => ?_) (n_H_least hE hn hb a0)))
  obtain ⟨rfl, rfl⟩ := h
  refine ⟨q_E_ex hE, (q_exT (5, 2)).1, (2, 1), by simp, (q_exT (5, 2)).2, 1, rfl, q_E_ex hE, ?_⟩
  refine j_deep (d := 2) (by decide) (j_mono (fun r2 τ2 h2 => ?_) (n_M_least (q_E_ex hE) (by rw [q_exI hE _ (by decide)]; exact hm) a0))
  obtain ⟨rfl, rfl⟩ := h2
  exact ⟨0, rfl, q_E_i (q_E_ex hE), rfl, fun h => absurd h (by decide), hP⟩
theorem tk_greatest {ω : q_W} {σ : q_H} {P : q_H → Prop} {a0 : Int32} (hE : q_E σ) (hn : q_n σ < 900000) (hb : q_i σ 1 4 = 0) (hm : q_i σ 94 31 = 0) (hP : P (q_seti (q_add σ (5, 2)) 94 0 1)) :
    q_okI (fun Qx => J ω m_L_greatest 2000 1 6 0 0 0 [(0, .ref 1), (1, .int a0), (2, .ref 132)] [] σ Qx) (fun τ Qx => J ω m_M_greatest 2000 0 0 0 0 0 [(0, .ref 94), (1, .int a0)] [] τ Qx) P := by
  refine j_deep (d := 10) (by decide) (c_L_greatest hE (j_mono (fun r τ h => ?_) (n_H_greatest hE hn hb a0)))
  obtain ⟨rfl, rfl⟩ := h
  refine ⟨q_E_ex hE, (q_exT (5, 2)).1, (2, 1), by simp, (q_exT (5, 2)).2, 1, rfl, q_E_ex hE, ?_⟩
  refine j_deep (d := 2) (by decide) (j_mono (fun r2 τ2 h2 => ?_) (n_M_greatest (q_E_ex hE) (by rw [q_exI hE _ (by decide)]; exact hm) a0))
  obtain ⟨rfl, rfl⟩ := h2
  exact ⟨0, rfl, q_E_i (q_E_ex hE), rfl, fun h => absurd h (by decide), hP⟩
theorem tk_differ {ω : q_W} {σ : q_H} {P : q_H → Prop} {a0 a1 : Int32} (hE : q_E σ) (hn : q_n σ < 900000) (hb : q_i σ 1 4 = 0) (hm : q_i σ 94 31 = 0) (hP : P (q_seti (q_add σ (5, 2)) 94 0 1)) :
    q_okI (fun Qx => J ω m_L_differ 2000 1 6 0 0 0 [(0, .ref 1), (1, .int a0), (2, .int a1), (3, .ref 132)] [] σ Qx) (fun τ Qx => J ω m_M_differ 2000 0 0 0 0 0 [(0, .ref 94), (1, .int a0), (2, .int a1)] [] τ Qx) P := by
  refine j_deep (d := 10) (by decide) (c_L_differ hE (j_mono (fun r τ h => ?_) (n_H_differ hE hn hb a0 a1)))
  obtain ⟨rfl, rfl⟩ := h
  refine ⟨q_E_ex hE, (q_exT (5, 2)).1, (2, 1), by simp, (q_exT (5, 2)).2, 1, rfl, q_E_ex hE, ?_⟩
  refine j_deep (d := 1) (by decide) (j_mono (fun r2 τ2 h2 => ?_) (n_M_differ (q_E_ex hE) (by rw [q_exI hE _ (by decide)]; exact hm) a0 a1))
  obtain ⟨rfl, rfl⟩ := h2
  exact ⟨0, rfl, q_E_i (q_E_ex hE), rfl, fun h => absurd h (by decide), hP⟩
theorem tk_can {ω : q_W} {σ : q_H} {P : q_H → Prop} {a0 a1 : Int32} (hE : q_E σ) (hn : q_n σ < 900000) (hb : q_i σ 1 4 = 0) (hm : q_i σ 94 31 = 0) (hP : P (q_seti (q_add σ (5, 2)) 94 0 1)) :
    q_okI (fun Qx => J ω m_L_can 2000 1 6 0 0 0 [(0, .ref 1), (1, .int a0), (2, .int a1), (3, .ref 132)] [] σ Qx) (fun τ Qx => J ω m_M_can 2000 0 0 0 0 0 [(0, .ref 94), (1, .int a0), (2, .int a1)] [] τ Qx) P := by
  refine j_deep (d := 10) (by decide) (c_L_can hE (j_mono (fun r τ h => ?_) (n_H_can hE hn hb a0 a1)))
  obtain ⟨rfl, rfl⟩ := h
  refine ⟨q_E_ex hE, (q_exT (5, 2)).1, (2, 1), by simp, (q_exT (5, 2)).2, 1, rfl, q_E_ex hE, ?_⟩
  refine j_deep (d := 1) (by decide) (j_mono (fun r2 τ2 h2 => ?_) (n_M_can (q_E_ex hE) (by rw [q_exI hE _ (by decide)]; exact hm) a0 a1))
  obtain ⟨rfl, rfl⟩ := h2
  exact ⟨0, rfl, q_E_i (q_E_ex hE), rfl, fun h => absurd h (by decide), hP⟩
theorem tk_ends {ω : q_W} {σ : q_H} {P : q_H → Prop} (hE : q_E σ) (hn : q_n σ < 900000) (hb : q_i σ 1 4 = 0) (hm : q_i σ 94 31 = 0) (hP : P (q_seti (q_add σ (5, 2)) 94 0 1)) :
    q_okI (fun Qx => J ω m_L_ends 2000 1 6 0 0 0 [(0, .ref 1), (1, .ref 132)] [] σ Qx) (fun τ Qx => J ω m_M_ends 2000 0 0 0 0 0 [(0, .ref 94)] [] τ Qx) P := by
  refine j_deep (d := 10) (by decide) (c_L_ends hE (j_mono (fun r τ h => ?_) (n_H_ends hE hn hb)))
  obtain ⟨rfl, rfl⟩ := h
  refine ⟨q_E_ex hE, (q_exT (5, 2)).1, (2, 1), by simp, (q_exT (5, 2)).2, 1, rfl, q_E_ex hE, ?_⟩
  refine j_deep (d := 1) (by decide) (j_mono (fun r2 τ2 h2 => ?_) (n_M_ends (q_E_ex hE) (by rw [q_exI hE _ (by decide)]; exact hm)))
  obtain ⟨rfl, rfl⟩ := h2
  exact ⟨0, rfl, q_E_i (q_E_ex hE), rfl, fun h => absurd h (by decide), hP⟩
theorem tk_witness {ω : q_W} {σ : q_H} {P : q_H → Prop} {a0 : Int32} (hE : q_E σ) (hn : q_n σ < 900000) (hb : q_i σ 1 4 = 0) (hm : q_i σ 94 31 = 0) (hP : P (q_seti (q_add σ (5, 2)) 94 0 1)) :
    q_okI (fun Qx => J ω m_L_witness 2000 1 6 0 0 0 [(0, .ref 1), (1, .int a0), (2, .ref 132)] [] σ Qx) (fun τ Qx => J ω m_M_witness 2000 0 0 0 0 0 [(0, .ref 94), (1, .int a0)] [] τ Qx) P := by
  refine j_deep (d := 10) (by decide) (c_L_witness hE (j_mono (fun r τ h => ?_) (n_H_witness hE hn hb a0)))
  obtain ⟨rfl, rfl⟩ := h
  refine ⟨q_E_ex hE, (q_exT (5, 2)).1, (2, 1), by simp, (q_exT (5, 2)).2, 1, rfl, q_E_ex hE, ?_⟩
  refine j_deep (d := 1) (by decide) (j_mono (fun r2 τ2 h2 => ?_) (n_M_witness (q_E_ex hE) (by rw [q_exI hE _ (by decide)]; exact hm) a0))
  obtain ⟨rfl, rfl⟩ := h2
  exact ⟨0, rfl, q_E_i (q_E_ex hE), rfl, fun h => absurd h (by decide), hP⟩
theorem tk_set {ω : q_W} {σ : q_H} {P : q_H → Prop} {a0 a1 : Int32} (hE : q_E σ) (hn : q_n σ < 900000) (hb : q_i σ 1 4 = 0) (hm : q_i σ 94 31 = 0) (hP : P (q_seti (q_add σ (5, 2)) 94 0 1)) :
    q_okV (fun Qx => J ω m_L_set 2000 1 6 0 0 0 [(0, .ref 1), (1, .int a0), (2, .int a1)] [] σ Qx) (fun τ Qx => J ω m_M_set 2000 0 0 0 0 0 [(0, .ref 94), (1, .int a0), (2, .int a1)] [] τ Qx) P := by
  refine j_deep (d := 10) (by decide) (c_L_set hE (j_mono (fun r τ h => ?_) (n_H_set hE hn hb a0 a1)))
  obtain ⟨rfl, rfl⟩ := h
  refine ⟨q_E_ex hE, (q_exT (5, 2)).1, (2, 1), by simp, (q_exT (5, 2)).2, 1, rfl, q_E_ex hE, ?_⟩
  refine j_deep (d := 0) (by decide) (j_mono (fun r2 τ2 h2 => ?_) (n_M_set (q_E_ex hE) (by rw [q_exI hE _ (by decide)]; exact hm) a0 a1))
  obtain ⟨rfl, rfl⟩ := h2
  exact ⟨rfl, q_E_i (q_E_ex hE), rfl, hP⟩
theorem tk_take {ω : q_W} {σ : q_H} {P : q_H → Prop} (hE : q_E σ) (hn : q_n σ < 900000) (hb : q_i σ 1 4 = 0) (hm : q_i σ 94 31 = 0) (hP : P (q_seti (q_add σ (5, 2)) 94 0 1)) :
    q_okV (fun Qx => J ω m_L_take 2000 1 6 0 0 0 [(0, .ref 1)] [] σ Qx) (fun τ Qx => J ω m_M_take 2000 0 0 0 0 0 [(0, .ref 94)] [] τ Qx) P := by
  refine j_deep (d := 10) (by decide) (c_L_take hE (j_mono (fun r τ h => ?_) (n_H_take hE hn hb)))
  obtain ⟨rfl, rfl⟩ := h
  refine ⟨q_E_ex hE, (q_exT (5, 2)).1, (2, 1), by simp, (q_exT (5, 2)).2, 1, rfl, q_E_ex hE, ?_⟩
  refine j_deep (d := 0) (by decide) (j_mono (fun r2 τ2 h2 => ?_) (n_M_take (q_E_ex hE) (by rw [q_exI hE _ (by decide)]; exact hm)))
  obtain ⟨rfl, rfl⟩ := h2
  exact ⟨rfl, q_E_i (q_E_ex hE), rfl, hP⟩
theorem tk_run {ω : q_W} {σ : q_H} {P : q_H → Prop} (hE : q_E σ) (hn : q_n σ < 900000) (hb : q_i σ 1 4 = 0) (hm : q_i σ 94 31 = 0) (hP : P (q_seti (q_add σ (5, 2)) 94 0 1)) :
    q_okI (fun Qx => J ω m_L_run 2000 1 6 0 0 0 [(0, .ref 1), (1, .ref 132)] [] σ Qx) (fun τ Qx => J ω m_M_run 2000 0 0 0 0 0 [(0, .ref 94)] [] τ Qx) P := by
  refine j_deep (d := 10) (by decide) (c_L_run hE (j_mono (fun r τ h => ?_) (n_H_run hE hn hb)))
  obtain ⟨rfl, rfl⟩ := h
  refine ⟨q_E_ex hE, (q_exT (5, 2)).1, (2, 1), by simp, (q_exT (5, 2)).2, 1, rfl, q_E_ex hE, ?_⟩
  refine j_deep (d := 1) (by decide) (j_mono (fun r2 τ2 h2 => ?_) (n_M_run (q_E_ex hE) (by rw [q_exI hE _ (by decide)]; exact hm)))
  obtain ⟨rfl, rfl⟩ := h2
  exact ⟨0, rfl, q_E_i (q_E_ex hE), rfl, fun h => absurd h (by decide), hP⟩
theorem tk_value {ω : q_W} {σ : q_H} {P : q_H → Prop} {a0 : Int32} (hE : q_E σ) (hn : q_n σ < 900000) (hb : q_i σ 1 4 = 0) (hm : q_i σ 94 31 = 0) (hP : P (q_seti (q_add σ (5, 2)) 94 0 1)) :
    q_okI (fun Qx => J ω m_L_value 2000 1 6 0 0 0 [(0, .ref 1), (1, .int a0), (2, .ref 132)] [] σ Qx) (fun τ Qx => J ω m_M_value 2000 0 0 0 0 0 [(0, .ref 94), (1, .int a0)] [] τ Qx) P := by
  refine j_deep (d := 10) (by decide) (c_L_value hE (j_mono (fun r τ h => ?_) (n_H_value hE hn hb a0)))
  obtain ⟨rfl, rfl⟩ := h
  refine ⟨q_E_ex hE, (q_exT (5, 2)).1, (2, 1), by simp, (q_exT (5, 2)).2, 1, rfl, q_E_ex hE, ?_⟩
  refine j_deep (d := 1) (by decide) (j_mono (fun r2 τ2 h2 => ?_) (n_M_value (q_E_ex hE) (by rw [q_exI hE _ (by decide)]; exact hm) a0))
  obtain ⟨rfl, rfl⟩ := h2
  exact ⟨0, rfl, q_E_i (q_E_ex hE), rfl, fun h => absurd h (by decide), hP⟩
/-! FEED, END, COUNT -/
theorem q_si_o {σ : q_H} {o k a : Nat} {x : Int32} (h : a ≠ o) : q_i (q_seti σ o k x) a = q_i σ a := q_row_n _ _ h
theorem q_si_k {σ : q_H} {o k b : Nat} {x : Int32} (h : b ≠ k) : q_i (q_seti σ o k x) o b = q_i σ o b := by
  show q_row (q_i σ) o (q_row (q_i σ o) k x) o b = _
  rw [q_row_s, q_row_n _ _ h]
theorem q_si_s {σ : q_H} {o k : Nat} {x : Int32} : q_i (q_seti σ o k x) o k = x := by
  show q_row (q_i σ) o (q_row (q_i σ o) k x) o k = _
  rw [q_row_s, q_row_s]
theorem q_l_si {σ : q_H} {o k : Nat} {x : Int32} : q_l (q_seti σ o k x) = q_l σ := rfl
theorem q_r_si {σ : q_H} {o k : Nat} {x : Int32} : q_r (q_seti σ o k x) = q_r σ := rfl
theorem q_n_si {σ : q_H} {o k : Nat} {x : Int32} : q_n (q_seti σ o k x) = q_n σ := rfl
theorem q_i_sl {σ : q_H} {o k : Nat} {x : Int64} : q_i (q_setl σ o k x) = q_i σ := rfl
theorem q_r_sl {σ : q_H} {o k : Nat} {x : Int64} : q_r (q_setl σ o k x) = q_r σ := rfl
theorem q_n_sl {σ : q_H} {o k : Nat} {x : Int64} : q_n (q_setl σ o k x) = q_n σ := rfl
theorem q_i_sr {σ : q_H} {o k x : Nat} : q_i (q_setr σ o k x) = q_i σ := rfl
theorem q_l_sr {σ : q_H} {o k x : Nat} : q_l (q_setr σ o k x) = q_l σ := rfl
theorem q_n_sr {σ : q_H} {o k x : Nat} : q_n (q_setr σ o k x) = q_n σ := rfl
theorem q_sl_s {σ : q_H} {o k : Nat} {x : Int64} : q_l (q_setl σ o k x) o k = x := by
  show q_row (q_l σ) o (q_row (q_l σ o) k x) o k = _
  rw [q_row_s, q_row_s]
theorem q_pb_o {σ : q_H} {l o : Nat} {x sh : Int32} (h3 : o ≠ 3) (h2 : o ≠ 2) : q_i (q_pb σ l x sh) o = q_i σ o := by
  show q_row (q_row (q_i σ) 3 _) 2 _ o = _
  rw [q_row_n _ _ h2, q_row_n _ _ h3]
theorem q_pm_o {σ : q_H} {l o : Nat} {x sh : Int32} (h3 : o ≠ 95) (h2 : o ≠ 94) : q_i (q_pm σ l x sh) o = q_i σ o := by
  show q_row (q_row (q_i σ) 95 _) 94 _ o = _
  rw [q_row_n _ _ h2, q_row_n _ _ h3]
theorem q_pm_f {σ : q_H} {l k : Nat} {x sh : Int32} (h2 : k ≠ 2) : q_i (q_pm σ l x sh) 94 k = q_i σ 94 k := by
  unfold q_pm
  rw [q_si_k h2, q_si_o (by decide)]
theorem q_pm_l {σ : q_H} {l : Nat} {x sh : Int32} : q_l (q_pm σ l x sh) = q_l σ := by
  unfold q_pm
  rw [q_l_si, q_l_si]
theorem q_pb4_o {σ : q_H} {l o : Nat} {x : Int32} (h3 : o ≠ 3) (h2 : o ≠ 2) : q_i (q_pb4 σ l x) o = q_i σ o := by
  unfold q_pb4
  rw [q_pb_o h3 h2, q_pb_o h3 h2, q_pb_o h3 h2, q_pb_o h3 h2]
theorem q_pm4_o {σ : q_H} {l o : Nat} {x : Int32} (h3 : o ≠ 95) (h2 : o ≠ 94) : q_i (q_pm4 σ l x) o = q_i σ o := by
  unfold q_pm4
  rw [q_pm_o h3 h2, q_pm_o h3 h2, q_pm_o h3 h2, q_pm_o h3 h2]
theorem q_pm4_f {σ : q_H} {l k : Nat} {x : Int32} (h2 : k ≠ 2) : q_i (q_pm4 σ l x) 94 k = q_i σ 94 k := by
  unfold q_pm4
  rw [q_pm_f h2, q_pm_f h2, q_pm_f h2, q_pm_f h2]
theorem q_fb_o {σ : q_H} {l o : Nat} {a b c e f : Int32} (h3 : o ≠ 3) (h2 : o ≠ 2) : q_i (q_fb σ l a b c e f) o = q_i σ o := by
  unfold q_fb
  rw [q_pb4_o h3 h2, q_pb4_o h3 h2, q_pb4_o h3 h2, q_pb4_o h3 h2, q_pb4_o h3 h2]
theorem q_fm_o {σ : q_H} {l o : Nat} {a b c e f : Int32} (h3 : o ≠ 95) (h2 : o ≠ 94) : q_i (q_fm σ l a b c e f) o = q_i σ o := by
  unfold q_fm
  rw [q_pm4_o h3 h2, q_pm4_o h3 h2, q_pm4_o h3 h2, q_pm4_o h3 h2, q_pm4_o h3 h2]
  exact q_row_n _ _ h2
theorem q_fm_f {σ : q_H} {l k : Nat} {a b c e f : Int32} (h2 : k ≠ 2) : q_i (q_fm σ l a b c e f) 94 k = q_i (q_seti σ 94 0 0) 94 k := by
  unfold q_fm
  rw [q_pm4_f h2, q_pm4_f h2, q_pm4_f h2, q_pm4_f h2, q_pm4_f h2]
theorem q_pm4_l {σ : q_H} {l : Nat} {x : Int32} : q_l (q_pm4 σ l x) = q_l σ := by
  unfold q_pm4
  rw [q_pm_l, q_pm_l, q_pm_l, q_pm_l]
theorem q_fm_l {σ : q_H} {l : Nat} {a b c e f : Int32} : q_l (q_fm σ l a b c e f) = q_l σ := by
  unfold q_fm
  rw [q_pm4_l, q_pm4_l, q_pm4_l, q_pm4_l, q_pm4_l, q_l_si]
theorem q_fm_E {σ : q_H} (hE : q_E σ) {l : Nat} {a b c e f : Int32} : q_E (q_fm σ l a b c e f) := q_E_pm4 (q_E_pm4 (q_E_pm4 (q_E_pm4 (q_E_pm4 (q_E_i hE) _ _) _ _) _ _) _ _) _ _
theorem tk_feed {ω : q_W} {σ : q_H} {P : q_H → Prop} {a b c e f : Int32} (hE : q_E σ) (hn : q_n σ < 900000) {l : Nat} (hl : q_i σ 2 2 = nI l) (hm : q_i σ 94 2 = nI l) (hl2 : l ≤ 4096)
    (hP : l + 20 ≤ 4096 → P (q_fm (q_setl (q_fb σ l a b c e f) 132 0 (nI (l + 20)).toInt64) l a b c e f)) (hX : 4096 < l + 20 → P (q_seti (q_add σ (5, 0)) 94 0 1)) :
    q_okI (fun Qx => J ω m_L_feed 2000 1 6 0 0 0 [(0, .ref 1), (1, .int a), (2, .int b), (3, .int c), (4, .int e), (5, .int f), (6, .ref 132)] [] σ Qx) (fun τ Qx => J ω m_M_feed 2000 0 0 0 0 0 [(0, .ref 94), (1, .int a), (2, .int b), (3, .int c), (4, .int e), (5, .int f)] [] τ Qx) P := by
  by_cases h20 : l + 20 ≤ 4096
  · refine j_deep (d := 7) (by decide) (c_L_feed hE (j_mono (fun r τ h => ?_) (c_H_feed hE hl h20 a b c e f)))
    obtain ⟨rfl, rfl⟩ := h
    have hE2 : q_E (q_fb σ l a b c e f) := q_E_pb4 (q_E_pb4 (q_E_pb4 (q_E_pb4 (q_E_pb4 hE _ _) _ _) _ _) _ _) _ _
    refine ⟨hE2, 0, rfl, q_E_l hE2, ?_⟩
    refine j_deep (d := 1) (by decide) (j_mono (fun r2 τ2 h2 => ?_) (c_M_feed (q_E_l hE2) (l := l) (by rw [q_i_sl, q_fb_o (by decide) (by decide)]; exact hm) h20 a b c e f))
    obtain ⟨rfl, rfl⟩ := h2
    exact ⟨_, rfl, q_fm_E (q_E_l hE2), by rw [q_fm_f (by decide), q_si_s], fun _ => by rw [q_fm_l, q_sl_s], hP h20⟩
  · refine j_deep (d := 7) (by decide) (c_L_feed hE (j_mono (fun r τ h => ?_) (x_H_feed hE hn hl hl2 (by omega) a b c e f)))
    obtain ⟨rfl, rfl⟩ := h
    refine ⟨q_E_ex hE, (q_exT (5, 0)).1, (0, 1), by simp, (q_exT (5, 0)).2, 1, rfl, q_E_ex hE, ?_⟩
    refine j_deep (d := 1) (by decide) (j_mono (fun r2 τ2 h2 => ?_) (x_M_feed (q_E_ex hE) (l := l) (by rw [q_exI hE _ (by decide)]; exact hm) hl2 (by omega) a b c e f))
    obtain ⟨rfl, rfl⟩ := h2
    exact ⟨0, rfl, q_E_i (q_E_ex hE), rfl, fun h => absurd h (by decide), hX (by omega)⟩
theorem tk_end {ω : q_W} {σ : q_H} {P : q_H → Prop} {a : Int32} (hE : q_E σ) (hn : q_n σ < 900000) {l : Nat} (hl : q_i σ 2 2 = nI l) (hm : q_i σ 94 2 = nI l) (hl2 : l ≤ 4096)
    (hP : ∀ k, k ≤ l → a = nI k → P (q_seti (q_seti (q_setl (q_seti σ 2 2 (nI (l - k))) 132 0 (nI (l - k)).toInt64) 94 0 0) 94 2 (nI (l - k)))) (hX : P (q_seti (q_add σ (5, 1)) 94 0 1)) :
    q_okI (fun Qx => J ω m_L_end 2000 1 6 0 0 0 [(0, .ref 1), (1, .int a), (2, .ref 132)] [] σ Qx) (fun τ Qx => J ω m_M_end 2000 0 0 0 0 0 [(0, .ref 94), (1, .int a)] [] τ Qx) P := by
  by_cases hk : ∃ k, k ≤ l ∧ a = nI k
  · obtain ⟨k, hk, rfl⟩ := hk
    refine j_deep (d := 7) (by decide) (c_L_end hE (j_mono (fun r τ h => ?_) (c_H_end hE hl hl2 hk)))
    obtain ⟨rfl, rfl⟩ := h
    refine ⟨hE, 0, rfl, hE, ?_⟩
    refine j_deep (d := 1) (by decide) (j_mono (fun r2 τ2 h2 => ?_) (c_M_end (q_E_l (q_E_i hE)) (l := l) hm hl2 hk))
    obtain ⟨rfl, rfl⟩ := h2
    exact ⟨_, rfl, hE, rfl, fun _ => rfl, hP k hk rfl⟩
  · have hbad : ¬ (¬ a < 0 ∧ a ≤ nI l) := by
      rintro ⟨h1, h2⟩
      have hl3 : (nI l).toInt = (l : Int) := nI_toInt (by omega)
      rw [Int32.le_iff_toInt_le, hl3] at h2
      rw [Int32.lt_iff_toInt_lt] at h1
      have h1' : ¬ a.toInt < 0 := h1
      refine hk ⟨a.toInt.toNat, by omega, ?_⟩
      apply Int32.toInt_inj.mp
      rw [nI_toInt (by omega)]
      omega
    refine j_deep (d := 7) (by decide) (c_L_end hE (j_mono (fun r τ h => ?_) (x_H_end hE hn hl hbad)))
    obtain ⟨rfl, rfl⟩ := h
    refine ⟨q_E_ex hE, (q_exT (5, 1)).1, (1, 1), by simp, (q_exT (5, 1)).2, 1, rfl, q_E_ex hE, ?_⟩
    refine j_deep (d := 1) (by decide) (j_mono (fun r2 τ2 h2 => ?_) (x_M_end (q_E_ex hE) (l := l) (by rw [q_exI hE _ (by decide)]; exact hm) hbad))
    obtain ⟨rfl, rfl⟩ := h2
    exact ⟨0, rfl, q_E_i (q_E_ex hE), rfl, fun h => absurd h (by decide), hX⟩
theorem tk_count {ω : q_W} {σ : q_H} {P : q_H → Prop} {a : Int32} (hE : q_E σ) {p : Nat} (hp : q_r σ 1 2 = p) (htp : q_t σ p = (1, 2)) (hop : 0 < p ∧ p ≤ q_n σ) (hb : q_i σ 1 4 = 0 ∨ q_i σ 1 4 = 1) (hf : q_i σ 47 5 = 0 ∨ q_i σ 47 5 = 1)
    (hc : ∀ j, j ≤ 9 → q_ch σ p j = q_cm σ j) (hP : P (q_seti σ 94 0 0)) :
    q_okC (fun Qx => J ω m_H_count 2000 0 0 0 0 0 [(0, .ref 1), (1, .int a)] [] σ Qx) (fun τ Qx => J ω m_M_count 2000 0 0 0 0 0 [(0, .ref 94), (1, .int a)] [] τ Qx) P := by
  rcases q_sw a 9 (by decide) with h | ⟨j, hj, rfl⟩
  · refine j_deep (d := 2) (by decide) (j_mono (fun r τ h1 => ?_) (x_H_count (σ := σ) h))
    obtain ⟨rfl, rfl⟩ := h1
    refine ⟨-1, rfl, hE, ?_⟩
    refine j_deep (d := 0) (by decide) (j_mono (fun r2 τ2 h2 => ?_) (x_M_count hE h))
    obtain ⟨rfl, rfl⟩ := h2
    exact ⟨rfl, hE, hP⟩
  · refine j_deep (d := 2) (by decide) (j_mono (fun r τ h1 => ?_) (c_H_count hE hp htp hop hb hf j hj))
    obtain ⟨rfl, h1⟩ := h1
    rw [h1]
    refine ⟨q_ch σ p j, rfl, hE, ?_⟩
    refine j_deep (d := 0) (by decide) (j_mono (fun r2 τ2 h2 => ?_) (c_M_count hE j hj))
    obtain ⟨rfl, rfl⟩ := h2
    exact ⟨by rw [hc j hj], hE, hP⟩
