/-! COUNT, FEED, END, BUILD -/
theorem qi_eq {σ : q_H} {a k b j : Nat} (h : z σ a k = z σ b j) : q_i σ a k = q_i σ b j := by rw [q_z, q_z, h]
def agr (l : Nat) (f g : Nat → Int) : Prop := ∀ j, j < l → g j = f j ∧ -128 ≤ f j ∧ f j ≤ 127
theorem agr_up {l : Nat} {f g : Nat → Int} {v : Int} (h : agr l f g) (hv : -128 ≤ v ∧ v ≤ 127) : agr (l + 1) (up f l v) (up g l v) := fun j hj => by
  by_cases c : j = l
  · rw [c, up_s, up_s]; exact ⟨rfl, hv⟩
  · rw [up_n c, up_n c]; exact h j (by omega)
def bt8 (x sh : Int32) : Int := (((x >>> (sh &&& 31)).toInt8.toInt32).toInt8.toInt32).toInt
theorem bt8_b {x sh : Int32} : -128 ≤ bt8 x sh ∧ bt8 x sh ≤ 127 := by
  unfold bt8
  generalize ((x >>> (sh &&& 31)).toInt8.toInt32).toInt8 = y
  rw [Int8.toInt_toInt32]
  have h1 := Int8.le_toInt y
  have h2 := Int8.toInt_lt y
  omega
theorem z_st {σ : q_H} {o k : Nat} {x : Int32} : z (q_seti σ o k x) o = up (z σ o) k x.toInt := funext fun j => by
  unfold z
  by_cases c : j = k
  · rw [c, up_s, q_si_s]
  · rw [up_n c, q_si_k c]
theorem z_sto {σ : q_H} {o k a : Nat} {x : Int32} (h : a ≠ o) : z (q_seti σ o k x) a = z σ a := funext fun j => by
  unfold z
  rw [q_si_o h]
theorem z_pb {σ : q_H} {l : Nat} {x sh : Int32} : z (q_pb σ l x sh) 3 = up (z σ 3) l (bt8 x sh) := by
  unfold q_pb
  rw [z_sto (by decide), z_st]
  rfl
theorem z_pm {σ : q_H} {l : Nat} {x sh : Int32} : z (q_pm σ l x sh) 95 = up (z σ 95) l (bt8 x sh) := by
  unfold q_pm
  rw [z_sto (by decide), z_st]
  rfl
theorem agr_4 {σ τ : q_H} {l : Nat} {x : Int32} (h : agr l (z σ 3) (z τ 95)) : agr (l + 4) (z (q_pb4 σ l x) 3) (z (q_pm4 τ l x) 95) := by
  unfold q_pb4 q_pm4
  rw [z_pb, z_pb, z_pb, z_pb, z_pm, z_pm, z_pm, z_pm]
  exact agr_up (agr_up (agr_up (agr_up h bt8_b) bt8_b) bt8_b) bt8_b
theorem agr_20 {σ τ : q_H} {l : Nat} {a b c e f : Int32} (h : agr l (z σ 3) (z τ 95)) : agr (l + 20) (z (q_fb σ l a b c e f) 3) (z (q_fm τ l a b c e f) 95) := by
  unfold q_fb q_fm
  have h0 : agr l (z σ 3) (z (q_seti τ 94 0 0) 95) := by rw [z_sto (by decide)]; exact h
  exact agr_4 (agr_4 (agr_4 (agr_4 (agr_4 h0))))
theorem z_nI {σ : q_H} {o k n : Nat} (h : q_i σ o k = nI n) (hn : n < 2147483648) : z σ o k = (n : Int) := by
  unfold z
  rw [h, nI_toInt hn]
theorem q_pb_r {σ : q_H} {l : Nat} {x sh : Int32} : q_r (q_pb σ l x sh) = q_r σ ∧ q_n (q_pb σ l x sh) = q_n σ ∧ q_l (q_pb σ l x sh) = q_l σ := ⟨rfl, rfl, rfl⟩
theorem q_pm_r {σ : q_H} {l : Nat} {x sh : Int32} : q_r (q_pm σ l x sh) = q_r σ ∧ q_n (q_pm σ l x sh) = q_n σ ∧ q_l (q_pm σ l x sh) = q_l σ := ⟨rfl, rfl, rfl⟩
theorem q_pb4_r {σ : q_H} {l : Nat} {x : Int32} : q_r (q_pb4 σ l x) = q_r σ ∧ q_n (q_pb4 σ l x) = q_n σ ∧ q_l (q_pb4 σ l x) = q_l σ := by
  unfold q_pb4
  rw [q_pb_r.1, q_pb_r.1, q_pb_r.1, q_pb_r.1, q_pb_r.2.1, q_pb_r.2.1, q_pb_r.2.1, q_pb_r.2.1, q_pb_r.2.2, q_pb_r.2.2, q_pb_r.2.2, q_pb_r.2.2]
  exact ⟨rfl, rfl, rfl⟩
theorem q_pm4_r {σ : q_H} {l : Nat} {x : Int32} : q_r (q_pm4 σ l x) = q_r σ ∧ q_n (q_pm4 σ l x) = q_n σ ∧ q_l (q_pm4 σ l x) = q_l σ := by
  unfold q_pm4
  rw [q_pm_r.1, q_pm_r.1, q_pm_r.1, q_pm_r.1, q_pm_r.2.1, q_pm_r.2.1, q_pm_r.2.1, q_pm_r.2.1, q_pm_r.2.2, q_pm_r.2.2, q_pm_r.2.2, q_pm_r.2.2]
  exact ⟨rfl, rfl, rfl⟩
theorem q_fb_r {σ : q_H} {l : Nat} {a b c e f : Int32} : q_r (q_fb σ l a b c e f) = q_r σ ∧ q_n (q_fb σ l a b c e f) = q_n σ ∧ q_l (q_fb σ l a b c e f) = q_l σ := by
  unfold q_fb
  rw [q_pb4_r.1, q_pb4_r.1, q_pb4_r.1, q_pb4_r.1, q_pb4_r.1, q_pb4_r.2.1, q_pb4_r.2.1, q_pb4_r.2.1, q_pb4_r.2.1, q_pb4_r.2.1, q_pb4_r.2.2, q_pb4_r.2.2, q_pb4_r.2.2, q_pb4_r.2.2, q_pb4_r.2.2]
  exact ⟨rfl, rfl, rfl⟩
theorem q_fm_r {σ : q_H} {l : Nat} {a b c e f : Int32} : q_r (q_fm σ l a b c e f) = q_r σ ∧ q_n (q_fm σ l a b c e f) = q_n σ ∧ q_l (q_fm σ l a b c e f) = q_l σ := by
  unfold q_fm
  rw [q_pm4_r.1, q_pm4_r.1, q_pm4_r.1, q_pm4_r.1, q_pm4_r.1, q_pm4_r.2.1, q_pm4_r.2.1, q_pm4_r.2.1, q_pm4_r.2.1, q_pm4_r.2.1, q_pm4_r.2.2, q_pm4_r.2.2, q_pm4_r.2.2, q_pm4_r.2.2, q_pm4_r.2.2]
  exact ⟨rfl, rfl, rfl⟩
theorem q_fb_22 {σ : q_H} {l : Nat} {a b c e f : Int32} : q_i (q_fb σ l a b c e f) 2 2 = nI (l + 20) := by
  unfold q_fb
  rw [q_l_pb4]
theorem q_fm_92 {σ : q_H} {l : Nat} {a b c e f : Int32} : q_i (q_fm σ l a b c e f) 94 2 = nI (l + 20) := by
  unfold q_fm
  rw [q_l_pm4]
/-- what feed leaves, in both -/
theorem fd_st {σ : q_H} {m : Nat} {a b c e f : Int32} {yy : Int64} (hE : q_E σ) (h20 : m + 20 ≤ 4096) (t4 : agr m (z σ 3) (z σ 95)) : ∃ θ, θ = q_fm (q_setl (q_fb σ m a b c e f) 132 0 yy) m a b c e f ∧ agr (m + 20) (z θ 3) (z θ 95) ∧ (∀ o, o ≠ 2 → o ≠ 3 → o ≠ 94 → o ≠ 95 → z θ o = z σ o) ∧ z θ 2 2 = ((m + 20 : Nat) : Int) ∧ z θ 94 2 = ((m + 20 : Nat) : Int) ∧ (∀ k, k ≠ 0 → k ≠ 2 → z θ 94 k = z σ 94 k) ∧ q_E θ ∧ q_n θ = q_n σ ∧ q_r θ = q_r σ ∧ q_l θ 7 = q_l σ 7 := by
  have hE2 : q_E (q_fb σ m a b c e f) := q_E_pb4 (q_E_pb4 (q_E_pb4 (q_E_pb4 (q_E_pb4 hE _ _) _ _) _ _) _ _) _ _
  refine ⟨_, rfl, ?_, fun o h1 h2 h3 h4 => funext fun k => ?_, z_nI ?_ (by omega), z_nI q_fm_92 (by omega), fun k h0 h2 => ?_, q_fm_E (q_E_l hE2), ?_, ?_, ?_⟩
  · have z3 : z (q_fm (q_setl (q_fb σ m a b c e f) 132 0 yy) m a b c e f) 3 = z (q_fb σ m a b c e f) 3 := funext fun k => by
      unfold z
      rw [q_fm_o (by decide) (by decide), q_i_sl]
    rw [z3]
    refine agr_20 (fun j hj => ?_)
    have e95 : z (q_setl (q_fb σ m a b c e f) 132 0 yy) 95 = z σ 95 := funext fun k => by
      unfold z
      rw [q_i_sl, q_fb_o (by decide) (by decide)]
    rw [e95]
    exact t4 j hj
  · unfold z
    rw [q_fm_o h4 h3, q_i_sl, q_fb_o h2 h1]
  · rw [q_fm_o (by decide) (by decide), q_i_sl]
    exact q_fb_22
  · unfold z
    rw [q_fm_f h2, q_si_k h0, q_i_sl, q_fb_o (by decide) (by decide)]
  · rw [q_fm_r.2.1, q_n_sl, q_fb_r.2.1]
  · rw [q_fm_r.1, q_r_sl, q_fb_r.1]
  · rw [q_fm_r.2.2, sl_o (by decide), q_fb_r.2.2]
section CfP
variable {ω : q_W} {n m p q s u : Nat} {σ : q_H} {P : q_H → Prop}
theorem ok_count {a0 : Int32} (hB : Bas n p q s u m σ) (hX : Ex1 p σ) (hP : ∀ τ, Inv (n + 1) τ → P τ) : q_okC (fun Qx => J ω m_H_count 2000 0 0 0 0 0 [(0, .ref 1), (1, .int a0)] [] σ Qx) (fun τ Qx => J ω m_M_count 2000 0 0 0 0 0 [(0, .ref 94), (1, .int a0)] [] τ Qx) P := by
  have hE := hB.1.1
  have bn := hB.1.2
  have hpq := hB.2.1.2.2
  have hp : p = 16 ∨ p = 29 := by omega
  have bt := hB.2.2.2.2.2.2.2.2.2.2
  have hTX := hB.2.2.2.2.2.2.1
  have bf := hB.2.2.2.2.2.2.2.2.2.1
  have f3 : ∀ k j, (z σ 1 4 = 0 → z σ 94 j = 0) → (z σ 1 4 = 1 → z σ p k = z σ 94 j) → (if q_i σ 1 4 = 0 then 0 else q_i σ p k) = q_i σ 94 j := fun k j h0 h1 => by
    rcases bt with ⟨a, -⟩ | ⟨a, -⟩
    · rw [if_pos (by rw [q_of_z a]; decide), q_of_z (h0 a)]; decide
    · rw [if_neg (by rw [q_of_z a]; decide)]; exact qi_eq (h1 a)
  have pn : z σ 1 4 = 0 → PN σ := fun h => by
    rcases bt with ⟨-, -, c⟩ | ⟨a, -⟩
    · exact c
    · omega
  have pg : z σ 1 4 = 1 → ∃ D S w as s0 s1 Nt, PGb p s D S w as s0 s1 Nt σ := fun h => by
    rcases bt with ⟨a, -⟩ | ⟨-, -, c⟩
    · omega
    · exact PG_b.mp c
  refine tk_count hE hB.2.1.1 (tY_p_0 hE hp) (q_okE hE (by omega)) ?_ ?_ (fun j hj => ?_) (hP _ ?_)
  · rcases bt with ⟨a, -⟩ | ⟨a, -⟩
    · exact Or.inl (by rw [q_of_z a]; decide)
    · exact Or.inr (by rw [q_of_z a]; decide)
  · rcases hB.2.2.2.2.2.1 with a | a
    · exact Or.inl (by rw [q_of_z a]; decide)
    · exact Or.inr (by rw [q_of_z a]; decide)
  · rcases (show j = 0 ∨ j = 1 ∨ j = 2 ∨ j = 3 ∨ j = 4 ∨ j = 5 ∨ j = 6 ∨ j = 7 ∨ j = 8 ∨ j = 9 by omega) with e | e | e | e | e | e | e | e | e | e <;> subst e
    · exact qi_eq (hTX.1.trans hTX.2.2.1.symm)
    · exact qi_eq bf.1
    · exact qi_eq bf.2
    · refine f3 0 26 (fun h => (pn h).1) (fun h => ?_)
      obtain ⟨D, S, w, as, s0, s1, Nt, hG⟩ := pg h
      rw [hG.2.2.2.1.1.1, hG.2.2.2.1.1.2]
    · refine f3 4 27 (fun h => (pn h).2.1) (fun h => ?_)
      obtain ⟨D, S, w, as, s0, s1, Nt, hG⟩ := pg h
      rw [hG.2.2.2.1.2.1.1, hG.2.2.2.1.2.1.2]
    · refine f3 7 28 (fun h => (pn h).2.2.1) (fun h => ?_)
      obtain ⟨D, S, w, as, s0, s1, Nt, hG⟩ := pg h
      rw [hG.2.2.2.1.2.2.2.1.1, hG.2.2.2.1.2.2.2.1.2]
    · refine f3 8 30 (fun h => (pn h).2.2.2.1) (fun h => ?_)
      obtain ⟨D, S, w, as, s0, s1, Nt, hG⟩ := pg h
      rw [hG.2.2.2.1.2.2.2.2.1, hG.2.2.2.1.2.2.2.2.2.1]
    · exact qi_eq hX.2.2.1
    · show (if q_i σ 47 5 = 0 then (0 : Int32) else 1) = (if q_i σ 94 62 < 0 then 0 else 1)
      rcases hX.2.2.2.2.2 with ⟨a, b⟩ | ⟨a, t, b, -⟩
      · rw [if_pos (by rw [q_of_z a]; decide), if_pos (by rw [q_of_z b]; decide)]
      · rw [if_neg (by rw [q_of_z a]; decide), if_neg]
        rw [q_z, zI_0, zI_lt (z_R _ _ _) ⟨by decide, by decide⟩]
        omega
    · show q_i σ 47 10 + (q_i σ 75 3 + q_i σ 71 4) + q_i σ 50 8 = 0
      obtain ⟨a, b, c, d⟩ := hX.2.1
      rw [q_of_z a, q_of_z b, q_of_z c, q_of_z d]
      decide
  · have e : q_seti σ 94 0 0 = zs σ 94 0 0 := by
      unfold zs
      rw [← zI_0]
    rw [e]
    exact Inv_r hB hX (zs_E hE) (by show q_n σ ≤ _; omega) (fun _ _ _ => rfl) rfl (fun o _ h1 _ => z_oF h1) (fun k hk => z_k hk)
theorem ok_feed {a b c e f : Int32} (hn5 : n ≤ 600) (hB : Bas n p q s u m σ) (hX : Ex1 p σ) (hP : ∀ τ, Inv (n + 1) τ → P τ) : q_okI (fun Qx => J ω m_L_feed 2000 1 6 0 0 0 [(0, .ref 1), (1, .int a), (2, .int b), (3, .int c), (4, .int e), (5, .int f), (6, .ref 132)] [] σ Qx) (fun τ Qx => J ω m_M_feed 2000 0 0 0 0 0 [(0, .ref 94), (1, .int a), (2, .int b), (3, .int c), (4, .int e), (5, .int f)] [] τ Qx) P := by
  have hE := hB.1.1
  have bn := hB.1.2
  have hpq := hB.2.1.2.2
  have hp : p = 16 ∨ p = 29 := by omega
  obtain ⟨t1, t2, t3, t4⟩ := hB.2.2.2.2.2.2.1
  refine tk_feed (l := m) hE (by omega) (by rw [q_of_z t1, nI_zI]) (by rw [q_of_z t3, nI_zI]) t2 (fun h20 => hP _ ?_) (fun _ => hP _ (un_x (5, 0) hB hX))
  obtain ⟨θ, eθ, A, zo, z22, z92, zk, E, N, R, L7⟩ := fd_st (a := a) (b := b) (c := c) (e := e) (f := f) (yy := (nI (m + 20)).toInt64) hE h20 t4
  rw [← eθ]
  refine Inv_g (m' := m + 20) hB E (by omega) (fun o k _ => by rw [R]) L7 (fun o _ h2 => zo o (by simp at h2; omega) (by simp at h2; omega) (by simp at h2; omega) (by simp at h2; omega)) (fun k h => zk k (by simp at h; omega) (by simp at h; omega)) ⟨z22, h20, z92, A⟩ (fun h => by rw [zo 126 (by decide) (by decide) (by decide) (by decide)]; exact PG_126 h) (Ex1_z hX hp (fun o ho => ?_) (fun k h => zk k (by rintro rfl; simp at h) (by rintro rfl; simp at h)))
  simp only [List.mem_cons, List.not_mem_nil, or_false] at ho
  exact zo o (by omega) (by omega) (by omega) (by omega)
theorem ok_end {a : Int32} (hn5 : n ≤ 600) (hB : Bas n p q s u m σ) (hX : Ex1 p σ) (hP : ∀ τ, Inv (n + 1) τ → P τ) : q_okI (fun Qx => J ω m_L_end 2000 1 6 0 0 0 [(0, .ref 1), (1, .int a), (2, .ref 132)] [] σ Qx) (fun τ Qx => J ω m_M_end 2000 0 0 0 0 0 [(0, .ref 94), (1, .int a)] [] τ Qx) P := by
  have hE := hB.1.1
  have bn := hB.1.2
  have hpq := hB.2.1.2.2
  have hp : p = 16 ∨ p = 29 := by omega
  obtain ⟨t1, t2, t3, t4⟩ := hB.2.2.2.2.2.2.1
  refine tk_end (l := m) hE (by omega) (by rw [q_of_z t1, nI_zI]) (by rw [q_of_z t3, nI_zI]) t2 (fun k hk _ => hP _ ?_) (hP _ (un_x (5, 1) hB hX))
  have zo : ∀ o, o ≠ 2 → o ≠ 94 → z (q_seti (q_seti (q_setl (q_seti σ 2 2 (nI (m - k))) 132 0 (nI (m - k)).toInt64) 94 0 0) 94 2 (nI (m - k))) o = z σ o := fun o h1 h3 => by
    rw [z_sto h3, z_sto h3]
    show z (q_seti σ 2 2 (nI (m - k))) o = _
    rw [z_sto h1]
  have z22 : z (q_seti (q_seti (q_setl (q_seti σ 2 2 (nI (m - k))) 132 0 (nI (m - k)).toInt64) 94 0 0) 94 2 (nI (m - k))) 2 2 = ((m - k : Nat) : Int) := by
    rw [z_sto (by decide), z_sto (by decide)]
    show z (q_seti σ 2 2 (nI (m - k))) 2 2 = _
    rw [z_st, up_s]
    exact nI_toInt (by omega)
  have z92 : z (q_seti (q_seti (q_setl (q_seti σ 2 2 (nI (m - k))) 132 0 (nI (m - k)).toInt64) 94 0 0) 94 2 (nI (m - k))) 94 2 = ((m - k : Nat) : Int) := by
    rw [z_st, up_s]
    exact nI_toInt (by omega)
  have zk : ∀ j, j ≠ 0 → j ≠ 2 → z (q_seti (q_seti (q_setl (q_seti σ 2 2 (nI (m - k))) 132 0 (nI (m - k)).toInt64) 94 0 0) 94 2 (nI (m - k))) 94 j = z σ 94 j := fun j h0 h2 => by
    rw [z_st, up_n h2, z_st, up_n h0]
    show z (q_seti σ 2 2 (nI (m - k))) 94 j = _
    rw [z_sto (by decide)]
  have E : q_E (q_seti (q_seti (q_setl (q_seti σ 2 2 (nI (m - k))) 132 0 (nI (m - k)).toInt64) 94 0 0) 94 2 (nI (m - k))) := hE
  have N : q_n (q_seti (q_seti (q_setl (q_seti σ 2 2 (nI (m - k))) 132 0 (nI (m - k)).toInt64) 94 0 0) 94 2 (nI (m - k))) = q_n σ := rfl
  have R : q_r (q_seti (q_seti (q_setl (q_seti σ 2 2 (nI (m - k))) 132 0 (nI (m - k)).toInt64) 94 0 0) 94 2 (nI (m - k))) = q_r σ := rfl
  have L7 : q_l (q_seti (q_seti (q_setl (q_seti σ 2 2 (nI (m - k))) 132 0 (nI (m - k)).toInt64) 94 0 0) 94 2 (nI (m - k))) 7 = q_l σ 7 := by
    show q_l (q_setl (q_seti σ 2 2 (nI (m - k))) 132 0 (nI (m - k)).toInt64) 7 = _
    rw [sl_o (by decide)]
    rfl
  generalize q_seti (q_seti (q_setl (q_seti σ 2 2 (nI (m - k))) 132 0 (nI (m - k)).toInt64) 94 0 0) 94 2 (nI (m - k)) = θ at zo z22 z92 zk E N R L7 ⊢
  refine Inv_g (m' := m - k) hB E (by omega) (fun o k _ => by rw [R]) L7 (fun o _ h2 => zo o (by simp at h2; omega) (by simp at h2; omega)) (fun k h => zk k (by simp at h; omega) (by simp at h; omega)) ⟨z22, by omega, z92, fun j hj => by rw [zo 95 (by decide) (by decide), zo 3 (by decide) (by decide)]; exact t4 j (by omega)⟩ (fun h => by rw [zo 126 (by decide) (by decide)]; exact PG_126 h) (Ex1_z hX hp (fun o ho => ?_) (fun k h => zk k (by rintro rfl; simp at h) (by rintro rfl; simp at h)))
  simp only [List.mem_cons, List.not_mem_nil, or_false] at ho
  exact zo o (by omega) (by omega)
theorem ok_bld (hn5 : n ≤ 600) (hB : Bas n p q s u m σ) (hX : Ex1 p σ) (hP : ∀ τ, Inv (n + 1) τ → P τ) : q_okI (fun Qx => J ω m_L_build 2000 1 6 0 0 0 [(0, .ref 1), (1, .ref 132)] [] σ Qx) (fun τ Qx => J ω m_M_build 2000 0 0 0 0 0 [(0, .ref 94)] [] τ Qx) P := by
  have hpq := hB.2.1.2.2
  have hp : p = 16 ∨ p = 29 := by omega
  refine ok_build hn5 hB (fun τ hB' hz hk _ => hP τ ⟨p, q, s, u, 0, hB', Ex1_z hX hp hz hk⟩) (fun τ hB' _ h42 h43 h47 h126 h62 hz h47' h50 => hP τ ⟨q, p, u, s, 0, hB', ?_⟩)
  obtain ⟨⟨y1, y2, y3⟩, ⟨y4, y5, y6, y7⟩, -⟩ := hX
  refine ⟨⟨by rw [hz 91 (by simp)]; exact y1, by rw [hz 125 (by simp)]; exact y2, fun i hi => by rw [(h42 i hi).1]; omega⟩, ⟨by rw [h47' 10 (by decide)]; exact y4, by rw [hz 75 (by simp)]; exact y5, by rw [hz 71 (by simp)]; exact y6, by rw [h50]; exact y7⟩, by rw [h43, h62.2], fun j hj => by rw [(h42 j hj).1, (h126 j (by omega)).1], fun j hj _ => by rw [(h42 j hj).2, (h126 j (by omega)).2], Or.inl ⟨h47, h62.1⟩⟩
/-- ALL SIXTEEN -/
theorem Inv_oks {j : Nat} (hn5 : n ≤ 600) (h : Inv n σ) : q_oks ω (Inv (n + 1)) σ j := by
  obtain ⟨p, q, s, u, m, hB, hX⟩ := h
  exact ⟨ok_feed hn5 hB hX (fun _ h => h), ok_end hn5 hB hX (fun _ h => h), ok_bld hn5 hB hX (fun _ h => h), ok_fails hn5 hB hX (fun _ h => h), ok_failsAt hn5 hB hX (fun _ h => h), ok_least hn5 hB hX (fun _ h => h), ok_greatest hn5 hB hX (fun _ h => h), ok_differ hn5 hB hX (fun _ h => h), ok_can hn5 hB hX (fun _ h => h), ok_ends hn5 hB hX (fun _ h => h), ok_witness hn5 hB hX (fun _ h => h), ok_set hn5 hB hX (fun _ h => h), ok_take hn5 hB hX (fun _ h => h), ok_run hn5 hB hX (fun _ h => h), ok_value hn5 hB hX (fun _ h => h), ok_count hB hX (fun _ h => h)⟩
end CfP
/-- THE LAW'S LOOP, by the number of calls -/
theorem lw_loop2 {ω : q_W} {I : Nat → q_H → Prop} (hL : q_sL ω ≤ 3072) (hI : ∀ c σ, I c σ → q_E σ) (ok : ∀ c σ j, c ≤ 600 → I c σ → q_oks ω (I (c + 1)) σ j) : ∀ (n j c : Nat) (σ : q_H), I c σ → c + n ≤ 600 → q_sL ω < j + 6 + 6 * n → j + 6 * n ≤ q_sL ω + 6 → n ≤ 513 → j < 4000 →
    J ω m_law 2048 601024 7293034 (645 - n) (860000 - 6 * n) 23 [(4, .int (nI j)), (3, .ref 132), (2, .ref 94), (1, .ref 1), (0, .ref 1000000)] [] σ (fun r _ => r = .inl (some (.int 1))) := by
  intro n
  induction n with
  | zero =>
    intro j c σ hσ h0 h1 h2 h3 h4
    exact lw_out (by omega) h4 hL (by decide) (by decide) rfl
  | succ n ih =>
    intro j c σ hσ h0 h1 h2 h3 h4
    by_cases h : j + 6 ≤ q_sL ω
    · refine lw_in h hL (lw_step (hI c σ hσ) h hL (by omega) (by omega) (ok c σ j (by omega) hσ) (fun τ hE hP => lw_next ?_))
      have k := ih (j + 6) (c + 1) τ hP (by omega) (by omega) (by omega) (by omega) (by omega)
      rw [show 645 - (n + 1) + 1 = 645 - n by omega, show 860000 - 6 * (n + 1) + 6 = 860000 - 6 * n by omega]
      exact k
    · exact lw_out (by omega) h4 hL (by omega) (by omega) rfl
theorem lw_all2 {I : Nat → q_H → Prop} (h1 : I 0 q_s1) (hI : ∀ c σ, I c σ → q_E σ) (ok : ∀ (ω : q_W) c σ j, c ≤ 600 → I c σ → q_oks ω (I (c + 1)) σ j) : q_goal := by
  intro ω hL
  refine lw_entry ?_
  by_cases h0 : q_sL ω < 6
  · exact lw_out (by omega) (by decide) hL (by decide) (by decide) rfl
  · refine j_widen (k := 645 - q_sL ω / 6) (n := 860000 - 6 * (q_sL ω / 6)) (by omega) (by omega) ?_
    exact lw_loop2 hL hI (fun c σ j hc h => ok ω c σ j hc h) (q_sL ω / 6) 0 0 q_s1 h1 (by omega) (by omega) (by omega) (by omega) (by decide)
