/-! THE CIRCUIT's pick, clear, cutBack; WORDS, safety -/
theorem zXor_0 {x : Int} (h : 0 ≤ x) (h2 : x < 2147483648) : zXor x 0 = x := by
  obtain ⟨n, rfl⟩ := Int.eq_ofNat_of_zero_le h
  have := zXor_n (a := n) (b := 0) (by omega) (by decide)
  rw [show ((0 : Nat) : Int) = 0 from rfl, Nat.xor_zero] at this
  exact this
theorem zXor_b {x b : Int} (h : 0 ≤ x) (h2 : x < 2147483648) (hb : b = 0 ∨ b = 1) : zXor x b / 2 = x / 2 ∧ 0 ≤ zXor x b ∧ (x % 2 = b → zXor x b = x - b) := by
  rcases hb with rfl | rfl
  · rw [zXor_0 h h2]; exact ⟨rfl, h, fun _ => by omega⟩
  · rw [zXor_1 h h2]; exact ⟨by omega, by omega, fun _ => by omega⟩
section WoJ
variable {ω : q_W} {d s : Nat} {σ : q_H}
theorem lit_b {x b : Int} (hs : s ≤ 10240) (h : lit s x) (hb : b = 0 ∨ b = 1) : lit s (zXor x b) := by
  have := zXor_b h.1 (by have := h.2; omega) hb
  have h1 := h.1
  have h2 := h.2
  exact ⟨this.2.1, by omega⟩
theorem lit_R {x : Int} (hs : s ≤ 10240) (h : lit s x) : inR x := ⟨by have := h.1; omega, by have := h.2; omega⟩
theorem c_Ci_pick {K : Int → q_H → Prop} {x1 x2 x3 : Int} (hd : 2 ≤ d) (hE : q_E σ) (hc : CI s σ) (h1 : lit s x1) (h2 : lit s x2) (h3 : lit s x3) (kk : ∀ v τ s', CE s s' σ τ → lit s' v → K v τ) : J ω m_Ci_pick d 0 0 0 0 0 [(0, .ref 50), (1, .int (zI x1)), (2, .int (zI x2)), (3, .int (zI x3))] [] σ (q_ki K) := by
  obtain ⟨d, rfl⟩ : ∃ k, d = k + 1 := ⟨d - 1, by omega⟩
  have hs1 := hc.2.1
  have ret : ∀ (v : Int) τ s', CE s s' σ τ → lit s' v → q_ki K (.inl (some (.int (zI v)))) τ := fun v τ s' ht hv => ⟨v, lit_R ht.2.1.2.1.2 hv, rfl, kk v τ s' ht hv⟩
  have l1 := lit_x hs1.2 h1
  have l2 := lit_x hs1.2 h2
  have l3 := lit_x hs1.2 h3
  have g41 : J ω m_Ci_pick (d + 1) 0 0 0 0 41 [(0, .ref 50), (1, .int (zI x1)), (3, .int (zI x3))] [] σ (q_ki K) :=
    b_Ci_pick_41 hE (c_Ci_and (by omega) hE hc l1.1 l3.1 (fun v τ s' ht hv => b_Ci_pick_51 (fr_E ht.1 hE) (ret _ τ s' ht (lit_x ht.2.1.2.1.2 hv).1)))
  have g86 : J ω m_Ci_pick (d + 1) 0 0 0 0 86 [(0, .ref 50), (1, .int (zI x1)), (2, .int (zI x2))] [] σ (q_ki K) :=
    b_Ci_pick_86 hE (c_Ci_and (by omega) hE hc h1 l2.1 (fun v τ s' ht hv => b_Ci_pick_94 (fr_E ht.1 hE) (ret _ τ s' ht (lit_x ht.2.1.2.1.2 hv).1)))
  have g74 : J ω m_Ci_and d 0 0 0 0 0 [(0, .ref 50), (1, .int (zI (zXor x1 1))), (2, .int (zI x3))] [] σ (q_ki (fun v τ => J ω m_Ci_pick (d + 1) 0 0 0 0 74 [] [.int (zI v)] τ (q_ki K))) :=
    c_Ci_and (by omega) hE hc l1.1 h3 (fun v τ s' ht hv => b_Ci_pick_74 (fr_E ht.1 hE) (ret _ τ s' ht hv))
  have g113 : J ω m_Ci_and d 0 0 0 0 0 [(0, .ref 50), (1, .int (zI x1)), (2, .int (zI x2))] [] σ (q_ki (fun v τ => J ω m_Ci_pick (d + 1) 0 0 0 0 113 [] [.int (zI v)] τ (q_ki K))) :=
    c_Ci_and (by omega) hE hc h1 h2 (fun v τ s' ht hv => b_Ci_pick_113 (fr_E ht.1 hE) (ret _ τ s' ht hv))
  have g138 : ∀ a b : Int, lit s a → lit s b → 2 ≤ x1 → 2 ≤ a → 2 ≤ b → x1 / 2 ≠ a / 2 → x1 / 2 ≠ b / 2 → a / 2 ≠ b / 2 → J ω m_Ci_pick (d + 1) 0 0 0 0 138 [(0, .ref 50), (1, .int (zI x1)), (4, .int (zI a))] [.int (zI b)] σ (q_ki K) := by
    intro a b ha hb c1 c2 c3 n1 n2 n3
    have a0 := ha.2
    have b0 := hb.2
    have x0 := h1.2
    have e1 := zAnd_m2 h1.1 (by omega)
    have e2 := zAnd_1 ha.1
    have hb2 : zAnd a 1 = 0 ∨ zAnd a 1 = 1 := by omega
    have ea := zXor_b ha.1 (by omega) hb2
    have eb := zXor_b hb.1 (by omega) hb2
    refine b_Ci_pick_138 hE (c_Ci_gate hE hc ⟨by decide, by decide⟩ ⟨by omega, by omega⟩ ⟨by omega, by omega⟩ (by omega) (fun _ => ⟨by omega, by omega, by omega, by omega⟩) (fun c => absurd rfl c) (fun v τ s' ht hv => b_Ci_pick_165 (fr_E ht.1 hE) (ret _ τ s' ht (lit_b ht.2.1.2.1.2 hv hb2))))
  have x0 := h1.1
  have y0 := h2.1
  have z0 := h3.1
  refine b_Ci_pick_0 hE ⟨lit_R hs1.2 h1, fun _ => ret x2 σ s (CE_refl hc) h2, fun c1 => ⟨lit_R hs1.2 h2, lit_R hs1.2 h3, fun c2 => ⟨fun c3 => ⟨fun c4 => ⟨fun _ => g41, fun c5 => ⟨fun c6 => ⟨fun _ => g74, fun c7 => ⟨fun c8 => ⟨fun _ => g86, fun c9 => ⟨fun c10 => ⟨fun _ => g113, fun c11 => ⟨fun c12 => ?_, fun _ => g113⟩⟩, fun _ => g86⟩⟩, fun _ => g74⟩⟩, fun _ => g41⟩⟩, fun _ => c_Ci_xor (by omega) hE hc h1 h3 (fun v τ s' ht hv => b_Ci_pick_31 (fr_E ht.1 hE) (ret _ τ s' ht hv))⟩, fun _ => ret x3 σ s (CE_refl hc) h3⟩, fun _ => ret x2 σ s (CE_refl hc) h2⟩⟩
  rw [l3.2] at c4
  rw [l1.2] at c8 c10
  exact ⟨fun a1 => b_Ci_pick_125 hE ⟨fun _ => g138 x3 x2 h3 h2 (by omega) (by omega) (by omega) (by omega) (by omega) (by omega), fun a2 => absurd a2 a1⟩, fun a1 => b_Ci_pick_125 hE ⟨fun a2 => absurd a1 a2, fun _ => g138 x2 x3 h2 h3 (by omega) (by omega) (by omega) (by omega) (by omega) (by omega)⟩⟩
theorem c_Ci_clear {K : q_H → Prop} (hd : 1 ≤ d) (hE : q_E σ) (kk : ∀ τ, fr [50, 57] σ τ → CI 1 τ → K τ) : J ω m_Ci_clear d 0 0 0 0 0 [(0, .ref 50)] [] σ (q_kv K) := by
  obtain ⟨d, rfl⟩ : ∃ k, d = k + 1 := ⟨d - 1, by omega⟩
  refine b_Ci_clear_0 hE ⟨rfl, kk _ (fr_s (fr_f fr_refl (by simp)) (by simp)) ⟨z_s ⟨by decide, by decide⟩, ⟨by decide, by decide⟩, fun b hb => ?_, fun g h1 h2 => absurd h2 (by omega)⟩⟩
  have e : z (zs (zfl σ 57 8192 0) 50 7 1) 57 b = 0 := by rw [z_o (by decide)]; exact z_fl ⟨by decide, by decide⟩ hb
  rw [e]
  exact ⟨by decide, by decide, fun c => absurd rfl c⟩
theorem c_Ci_cutBack {K : q_H → Prop} {x1 : Int} (i1 : inR x1) (kk : ∀ τ s', fr [50, 57] σ τ → CI s' τ → s' ≤ s → ((s' : Int) = x1 ∨ s' = s ∨ s' = 1) → K τ) : ∀ (k : Nat) (ρ : q_H) (t : Nat), t ≤ k → fr [50, 57] σ ρ → q_E ρ → CI t ρ → t ≤ s → (x1 ≤ t ∨ t = s) → J ω m_Ci_cutBack d 0 0 0 0 0 [(0, .ref 50), (1, .int (zI x1))] [] ρ (q_kv K) := by
  intro k
  induction k with
  | zero =>
    intro ρ t hk f hE hc hts hx
    exact absurd hc.2.1.1 (by omega)
  | succ k ih =>
    intro ρ t hk f hE hc hts hx
    obtain ⟨hs, hv⟩ := id hc
    have h1 := hv.1
    refine b_Ci_cutBack_0 hE ?_
    rw [hs]
    refine ⟨i1, fun c => ⟨rfl, kk ρ t f hc hts (by omega)⟩, fun c => ⟨fun c1 => ⟨rfl, kk ρ t f hc hts (by omega)⟩, fun c1 => ?_⟩⟩
    obtain ⟨t, rfl⟩ : ∃ u, t = u + 1 := ⟨t - 1, by omega⟩
    rw [show ((t + 1 : Nat) : Int) - 1 = (t : Int) by omega, Int.toNat_natCast]
    refine ⟨⟨by omega, by omega⟩, fun c0 => ?_, fun c0 => ?_⟩
    · refine ih _ t (by omega) (fr_s f (by simp)) (zs_E hE) ⟨z_s ⟨by omega, by omega⟩, ?_⟩ (by omega) (by omega)
      rw [z_oF (by decide), z_oF (by decide), z_oF (by decide), z_oF (by decide), z_oF (by decide), z_oF (by decide), z_oF (by decide)]
      exact CIv_pop0 hv (by omega) c0
    · have q := (hv.2.2 t (by omega) (by omega)).2 c0
      refine ⟨q.2.2.2.2.2.2.1, ih _ t (by omega) (fr_s (fr_s f (by simp)) (by simp)) (zs_E (zs_E hE)) ⟨?_, ?_⟩ (by omega) (by omega)⟩
      · rw [z_o (by decide)]; exact z_s ⟨by omega, by omega⟩
      · rw [z_oF (by decide), z_oF (by decide), z_oF (by decide), z_oF (by decide), z_oF (by decide), z_oF (by decide), z_oF (by decide), z_oF (by decide), z_oF (by decide), z_oF (by decide), z_oF (by decide), z_oF (by decide), z_up (z_R _ _ _), z_oF (by decide)]
        exact CIv_pop hv (by omega) c0
/-- while words are worked out: the first n places hold literals -/
def SWo : List Nat := [50, 51, 52, 53, 54, 55, 56, 57, 58, 59, 60]
def WS (n : Nat) (σ0 : q_H) (s0 : Nat) (σ : q_H) (s : Nat) : Prop := q_E σ ∧ CI s σ ∧ (∀ i : Nat, i < n → lit s (z σ 58 i)) ∧ fr SWo σ0 σ ∧ s0 ≤ s
theorem lit_m {s' : Nat} {x : Int} (h : lit s x) (hs : s ≤ s') : lit s' x := ⟨h.1, by have := h.2; omega⟩
variable {n s0 : Nat} {σ0 : q_H}
theorem WS_CE {τ : q_H} {s' : Nat} (h : WS n σ0 s0 σ s) (g : CE s s' σ τ) : WS n σ0 s0 τ s' := by
  obtain ⟨hE, hc, hl, f, hs⟩ := h
  refine ⟨fr_E g.1 hE, g.2.1, fun i hi => ?_, fr_trans f (fr_mono g.1 (by unfold SWo; simp)), by have := g.2.2.1; omega⟩
  rw [fr_z g.1 (by decide)]
  exact lit_m (hl i hi) g.2.2.1
theorem WS_58 {i : Nat} {v : Int} (h : WS n σ0 s0 σ s) (hv : lit s v) : WS n σ0 s0 (zs σ 58 i v) s := by
  obtain ⟨hE, ⟨hc1, hc2⟩, hl, f, hs⟩ := h
  refine ⟨zs_E hE, ⟨?_, ?_⟩, fun j hj => ?_, fr_s f (by unfold SWo; simp), hs⟩
  · rw [z_o (by decide)]; exact hc1
  · rw [z_oF (by decide), z_oF (by decide), z_oF (by decide), z_oF (by decide), z_oF (by decide), z_oF (by decide), z_oF (by decide)]; exact hc2
  · rw [z_if (lit_R hc2.1.2 hv)]
    split
    · exact hv
    · exact hl j hj
theorem WS_sc {o i : Nat} {v : Int} (ho : o = 59 ∨ o = 60) (h : WS n σ0 s0 σ s) : WS n σ0 s0 (zs σ o i v) s := by
  obtain ⟨hE, ⟨hc1, hc2⟩, hl, f, hs⟩ := h
  refine ⟨zs_E hE, ⟨?_, ?_⟩, fun j hj => ?_, fr_s f (by unfold SWo; simp; omega), hs⟩
  · rw [z_o (by omega)]; exact hc1
  · rw [z_oF (by omega), z_oF (by omega), z_oF (by omega), z_oF (by omega), z_oF (by omega), z_oF (by omega), z_oF (by omega)]; exact hc2
  · rw [z_o (by omega)]; exact hl j hj
theorem WS_at {e : Int} (h : WS n σ0 s0 σ s) (h0 : 0 ≤ e) (h1 : e < (n : Int)) : lit s (z σ 58 e.toNat) := h.2.2.1 _ (by omega)
theorem WS_s (h : WS n σ0 s0 σ s) : 1 ≤ s ∧ s ≤ 10240 := h.2.1.2.1
/-- what a gate may have changed, for those who hold scratch rows -/
def keep (σ τ : q_H) : Prop := z τ 59 = z σ 59 ∧ z τ 60 = z σ 60
theorem CE_keep {s' : Nat} {τ : q_H} (h : CE s s' σ τ) : keep σ τ := ⟨fr_zF h.1 (by decide), fr_zF h.1 (by decide)⟩
theorem w_and {K : Int → q_H → Prop} {x1 x2 : Int} (hd : 1 ≤ d) (h : WS n σ0 s0 σ s) (h1 : lit s x1) (h2 : lit s x2) (kk : ∀ v τ s', WS n σ0 s0 τ s' → s ≤ s' → lit s' v → keep σ τ → K v τ) : J ω m_Ci_and d 0 0 0 0 0 [(0, .ref 50), (1, .int (zI x1)), (2, .int (zI x2))] [] σ (q_ki K) :=
  c_Ci_and hd h.1 h.2.1 h1 h2 (fun v τ s' ht hv => kk v τ s' (WS_CE h ht) ht.2.2.1 hv (CE_keep ht))
theorem w_or {K : Int → q_H → Prop} {x1 x2 : Int} (hd : 2 ≤ d) (h : WS n σ0 s0 σ s) (h1 : lit s x1) (h2 : lit s x2) (kk : ∀ v τ s', WS n σ0 s0 τ s' → s ≤ s' → lit s' v → keep σ τ → K v τ) : J ω m_Ci_or d 0 0 0 0 0 [(0, .ref 50), (1, .int (zI x1)), (2, .int (zI x2))] [] σ (q_ki K) :=
  c_Ci_or hd h.1 h.2.1 h1 h2 (fun v τ s' ht hv => kk v τ s' (WS_CE h ht) ht.2.2.1 hv (CE_keep ht))
theorem w_xor {K : Int → q_H → Prop} {x1 x2 : Int} (hd : 1 ≤ d) (h : WS n σ0 s0 σ s) (h1 : lit s x1) (h2 : lit s x2) (kk : ∀ v τ s', WS n σ0 s0 τ s' → s ≤ s' → lit s' v → keep σ τ → K v τ) : J ω m_Ci_xor d 0 0 0 0 0 [(0, .ref 50), (1, .int (zI x1)), (2, .int (zI x2))] [] σ (q_ki K) :=
  c_Ci_xor hd h.1 h.2.1 h1 h2 (fun v τ s' ht hv => kk v τ s' (WS_CE h ht) ht.2.2.1 hv (CE_keep ht))
theorem w_pick {K : Int → q_H → Prop} {x1 x2 x3 : Int} (hd : 2 ≤ d) (h : WS n σ0 s0 σ s) (h1 : lit s x1) (h2 : lit s x2) (h3 : lit s x3) (kk : ∀ v τ s', WS n σ0 s0 τ s' → s ≤ s' → lit s' v → keep σ τ → K v τ) : J ω m_Ci_pick d 0 0 0 0 0 [(0, .ref 50), (1, .int (zI x1)), (2, .int (zI x2)), (3, .int (zI x3))] [] σ (q_ki K) :=
  c_Ci_pick hd h.1 h.2.1 h1 h2 h3 (fun v τ s' ht hv => kk v τ s' (WS_CE h ht) ht.2.2.1 hv (CE_keep ht))
theorem lit_1 (h : WS n σ0 s0 σ s) : lit s 1 := ⟨by decide, by have := (WS_s h).1; omega⟩
theorem lit_0 (h : WS n σ0 s0 σ s) : lit s 0 := ⟨by decide, by have := (WS_s h).1; omega⟩
theorem w_loadNumber {K : q_H → Prop} {a : Nat} {x2 : Int} (ha : a + 8 ≤ 3200) (h : WS n σ0 s0 σ s) (kk : ∀ τ, (∀ i, i < n ∨ (a ≤ i ∧ i < a + 8) → lit s (z τ 58 i)) → WS n σ0 s0 τ s → K τ) : J ω m_Wo_loadNumber d 0 0 0 0 0 [(0, .ref 49), (1, .int (zI (a : Int))), (2, .int (zI x2))] [] σ (q_kv K) := by
  have l : ∀ (k i : Nat) (σ : q_H), 8 ≤ i + k → i ≤ 8 → WS n σ0 s0 σ s → (∀ j, a ≤ j → j < a + i → lit s (z σ 58 j)) → J ω m_Wo_loadNumber d 0 0 0 0 2 [(0, .ref 49), (1, .int (zI (a : Int))), (2, .int (zI x2)), (3, .int (zI (i : Int)))] [] σ (q_kv K) := by
    intro k
    induction k with
    | zero =>
      intro i σ hi h8 h hj
      exact b_Wo_loadNumber_2 h.1 ⟨⟨by omega, by omega⟩, fun _ => ⟨rfl, kk σ (fun j hj2 => hj2.elim (h.2.2.1 j) (fun c => hj j c.1 (by omega))) h⟩, fun c => absurd c (by omega)⟩
    | succ k ih =>
      intro i σ hi h8 h hj
      have nx : i < 8 → ∀ v : Int, lit s v → J ω m_Wo_loadNumber d 0 0 0 0 2 [(0, .ref 49), (1, .int (zI (a : Int))), (2, .int (zI x2)), (3, .int (zI ((i : Int) + 1)))] [] (zs σ 58 ((a : Int) + (i : Int)).toNat v) (q_kv K) := by
        intro hi2 v hv
        refine ih (i + 1) _ (by omega) (by omega) (WS_58 h hv) (fun j h1 h2 => ?_)
        rw [z_if (lit_R (WS_s h).2 hv)]
        split
        · exact hv
        · exact hj j h1 (by omega)
      exact b_Wo_loadNumber_2 h.1 ⟨⟨by omega, by omega⟩, fun c => ⟨rfl, kk σ (fun j hj2 => hj2.elim (h.2.2.1 j) (fun c2 => hj j c2.1 (by omega))) h⟩, fun c => ⟨fun _ => ⟨⟨by omega, by omega⟩, nx (by omega) 1 (lit_1 h)⟩, fun _ => ⟨⟨by omega, by omega⟩, nx (by omega) 0 (lit_0 h)⟩⟩⟩
  exact b_Wo_loadNumber_0 h.1 (l 8 0 σ (by decide) (by decide) h (fun j h1 h2 => absurd h2 (by omega)))
theorem w_leave {K : q_H → Prop} {a : Nat} {x2 : Int} (hd : 1 ≤ d) (ha : a + 8 ≤ 3200) (h : WS n σ0 s0 σ s) (h2 : lit s x2) (kk : ∀ τ, WS n σ0 s0 τ s → K τ) : J ω m_Wo_leave d 0 0 0 0 0 [(0, .ref 49), (1, .int (zI (a : Int))), (2, .int (zI x2))] [] σ (q_kv K) := by
  obtain ⟨d, rfl⟩ : ∃ k, d = k + 1 := ⟨d - 1, by omega⟩
  exact b_Wo_leave_0 h.1 (w_loadNumber ha h (fun τ _ ht => b_Wo_leave_6 ht.1 ⟨⟨by omega, by omega⟩, rfl, kk _ (WS_58 ht h2)⟩))
theorem w_none {K : Int → q_H → Prop} {x1 x2 : Int} (hd : 2 ≤ d) (hn : n ≤ 3200) (h1 : 0 ≤ x1) (h2 : 0 ≤ x2 ∧ x2 ≤ 8) (h12 : x1 + x2 ≤ (n : Int)) (h : WS n σ0 s0 σ s) (kk : ∀ v τ s', WS n σ0 s0 τ s' → s ≤ s' → lit s' v → keep σ τ → K v τ) : J ω m_Wo_none d 0 0 0 0 0 [(0, .ref 49), (1, .int (zI x1)), (2, .int (zI x2))] [] σ (q_ki K) := by
  obtain ⟨d, rfl⟩ : ∃ k, d = k + 1 := ⟨d - 1, by omega⟩
  have l : ∀ (k : Nat) (x4 x3 : Int) (ρ : q_H) (t : Nat), x4 < (k : Int) → -1 ≤ x4 → x4 < x2 → WS n σ0 s0 ρ t → s ≤ t → lit t x3 → keep σ ρ → J ω m_Wo_none (d + 1) 0 0 0 0 7 [(0, .ref 49), (1, .int (zI x1)), (3, .int (zI x3)), (4, .int (zI x4))] [] ρ (q_ki K) := by
    intro k
    induction k with
    | zero =>
      intro x4 x3 ρ t hk h4 h4' hw hst hl hkp
      exact b_Wo_none_7 hw.1 ⟨⟨by omega, by omega⟩, fun _ => ⟨x3, lit_R (WS_s hw).2 hl, rfl, kk x3 ρ t hw hst hl hkp⟩, fun c => absurd c (by omega)⟩
    | succ k ih =>
      intro x4 x3 ρ t hk h4 h4' hw hst hl hkp
      exact b_Wo_none_7 hw.1 ⟨⟨by omega, by omega⟩, fun _ => ⟨x3, lit_R (WS_s hw).2 hl, rfl, kk x3 ρ t hw hst hl hkp⟩, fun c => ⟨⟨by omega, by omega⟩, w_and (by omega) hw hl (lit_x (WS_s hw).2 (WS_at hw (by omega) (by omega))).1 (fun v τ s' ht hs hv hk2 => b_Wo_none_31 ht.1 (ih (x4 - 1) v τ s' (by omega) (by omega) (by omega) ht (by omega) hv ⟨hk2.1.trans hkp.1, hk2.2.trans hkp.2⟩))⟩⟩
  exact b_Wo_none_0 h.1 (l 8 (x2 - 1) 0 σ s (by omega) (by omega) (by omega) h (Nat.le_refl _) (lit_0 h) ⟨rfl, rfl⟩)
theorem w_truth {K : Int → q_H → Prop} {a : Nat} (hd : 3 ≤ d) (hn : n ≤ 3200) (ha : a + 8 ≤ n) (h : WS n σ0 s0 σ s) (kk : ∀ v τ s', WS n σ0 s0 τ s' → s ≤ s' → lit s' v → K v τ) : J ω m_Wo_truth d 0 0 0 0 0 [(0, .ref 49), (1, .int (zI (a : Int)))] [] σ (q_ki K) := by
  obtain ⟨d, rfl⟩ : ∃ k, d = k + 1 := ⟨d - 1, by omega⟩
  refine b_Wo_truth_0 h.1 (w_none (by omega) hn (by omega) ⟨by decide, by decide⟩ (by omega) h (fun v τ s' ht hs hv _ => b_Wo_truth_7 ht.1 ?_))
  have := (lit_x (WS_s ht).2 hv).1
  exact ⟨_, lit_R (WS_s ht).2 this, rfl, kk _ τ s' ht hs this⟩
theorem w_choose {K : q_H → Prop} {a b c : Nat} (hd : 4 ≤ d) (hn : n ≤ 3200) (ha : a + 8 ≤ n) (hb : b + 8 ≤ n) (hc : c + 8 ≤ n) (h : WS n σ0 s0 σ s) (kk : ∀ τ s', WS n σ0 s0 τ s' → K τ) : J ω m_Wo_choose d 0 0 0 0 0 [(0, .ref 49), (1, .int (zI (a : Int))), (2, .int (zI (b : Int))), (3, .int (zI (c : Int)))] [] σ (q_kv K) := by
  obtain ⟨d, rfl⟩ : ∃ k, d = k + 1 := ⟨d - 1, by omega⟩
  have l : ∀ (k i : Nat) (x4 : Int) (ρ : q_H) (t : Nat), 8 ≤ i + k → i ≤ 8 → WS n σ0 s0 ρ t → lit t x4 → J ω m_Wo_choose (d + 1) 0 0 0 0 10 [(0, .ref 49), (1, .int (zI (a : Int))), (2, .int (zI (b : Int))), (3, .int (zI (c : Int))), (4, .int (zI x4)), (5, .int (zI (i : Int)))] [] ρ (q_kv K) := by
    intro k
    induction k with
    | zero =>
      intro i x4 ρ t hi h8 hw hl
      exact b_Wo_choose_10 hw.1 ⟨⟨by omega, by omega⟩, fun _ => ⟨rfl, kk ρ t hw⟩, fun c => absurd c (by omega)⟩
    | succ k ih =>
      intro i x4 ρ t hi h8 hw hl
      exact b_Wo_choose_10 hw.1 ⟨⟨by omega, by omega⟩, fun _ => ⟨rfl, kk ρ t hw⟩, fun c8 => ⟨⟨by omega, by omega⟩, ⟨by omega, by omega⟩, w_pick (by omega) hw hl (WS_at hw (by omega) (by omega)) (WS_at hw (by omega) (by omega)) (fun v τ s' ht hs hv _ => b_Wo_choose_52 ht.1 ⟨⟨by omega, by omega⟩, ih (i + 1) x4 _ s' (by omega) (by omega) (WS_58 ht hv) (lit_m hl hs)⟩)⟩⟩
  exact b_Wo_choose_0 h.1 (w_truth (by omega) hn ha h (fun v τ s' ht hs hv => b_Wo_choose_5 ht.1 (l 8 0 v τ s' (by decide) (by decide) ht hv)))
theorem w_single {K : q_H → Prop} {a : Nat} {x1 x3 : Int} (hd : 4 ≤ d) (hn : n ≤ 3200) (ha : a + 8 ≤ n) (i1 : inR x1) (h3 : 0 ≤ x3 ∧ x3 ≤ 8) (h : WS n σ0 s0 σ s) (kk : ∀ τ s', WS n σ0 s0 τ s' → K τ) : J ω m_Wo_single d 0 0 0 0 0 [(0, .ref 49), (1, .int (zI x1)), (2, .int (zI (a : Int))), (3, .int (zI x3))] [] σ (q_kv K) := by
  obtain ⟨d, rfl⟩ : ∃ k, d = k + 1 := ⟨d - 1, by omega⟩
  have l : ∀ (k i : Nat) (x4 : Int) (ρ : q_H) (t : Nat), 8 ≤ i + k → i ≤ 8 → WS n σ0 s0 ρ t → lit t x4 → J ω m_Wo_single (d + 1) 0 0 0 0 35 [(0, .ref 49), (2, .int (zI (a : Int))), (3, .int (zI x3)), (4, .int (zI x4)), (5, .int (zI (i : Int)))] [] ρ (q_kv K) := by
    intro k
    induction k with
    | zero =>
      intro i x4 ρ t hi h8 hw hl
      exact b_Wo_single_35 hw.1 ⟨⟨by omega, by omega⟩, ⟨by omega, by omega⟩, fun _ => ⟨rfl, kk ρ t hw⟩, fun c => absurd c (by omega)⟩
    | succ k ih =>
      intro i x4 ρ t hi h8 hw hl
      refine b_Wo_single_35 hw.1 ⟨⟨by omega, by omega⟩, ⟨by omega, by omega⟩, fun _ => ⟨rfl, kk ρ t hw⟩, fun c8 => ⟨⟨by omega, by omega⟩, ?_⟩⟩
      have hl6 := (lit_x (WS_s hw).2 (WS_at hw (e := (a : Int) + i) (by omega) (by omega))).1
      exact w_xor (by omega) hw hl6 hl (fun v τ s' ht hs hv _ => b_Wo_single_73 ht.1 ⟨⟨by omega, by omega⟩, w_and (by omega) (WS_58 ht hv) (lit_m hl6 hs) (lit_m hl hs) (fun v2 τ2 s2 ht2 hs2 hv2 _ => b_Wo_single_85 ht2.1 (ih (i + 1) v2 τ2 s2 (by omega) (by omega) ht2 hv2))⟩)
  refine b_Wo_single_0 h.1 ⟨i1, fun _ => ⟨fun _ => l 8 0 1 σ s (by decide) (by decide) h (lit_1 h), fun _ => l 8 0 0 σ s (by decide) (by decide) h (lit_0 h)⟩, fun _ => w_truth (by omega) hn ha h (fun v τ s' ht hs hv => b_Wo_single_13 ht.1 (w_leave (by omega) (by omega) ht (lit_x (WS_s ht).2 hv).1 (fun ρ hr => b_Wo_single_18 hr.1 ⟨rfl, kk ρ s' hr⟩)))⟩
theorem w_bitwise {K : q_H → Prop} {a b : Nat} {x1 : Int} (hd : 3 ≤ d) (hn : n ≤ 3200) (ha : a + 8 ≤ n) (hb : b + 8 ≤ n) (i1 : inR x1) (h : WS n σ0 s0 σ s) (kk : ∀ τ s', WS n σ0 s0 τ s' → K τ) : J ω m_Wo_bitwise d 0 0 0 0 0 [(0, .ref 49), (1, .int (zI x1)), (2, .int (zI (a : Int))), (3, .int (zI (b : Int)))] [] σ (q_kv K) := by
  obtain ⟨d, rfl⟩ : ∃ k, d = k + 1 := ⟨d - 1, by omega⟩
  have l : ∀ (k i : Nat) (ρ : q_H) (t : Nat), 8 ≤ i + k → i ≤ 8 → WS n σ0 s0 ρ t → J ω m_Wo_bitwise (d + 1) 0 0 0 0 3 [(0, .ref 49), (1, .int (zI x1)), (2, .int (zI (a : Int))), (3, .int (zI (b : Int))), (4, .int (zI (i : Int)))] [] ρ (q_kv K) := by
    intro k
    induction k with
    | zero =>
      intro i ρ t hi h8 hw
      exact b_Wo_bitwise_3 hw.1 ⟨⟨by omega, by omega⟩, fun _ => ⟨rfl, kk ρ t hw⟩, fun c => absurd c (by omega)⟩
    | succ k ih =>
      intro i ρ t hi h8 hw
      refine b_Wo_bitwise_3 hw.1 ⟨⟨by omega, by omega⟩, fun _ => ⟨rfl, kk ρ t hw⟩, fun c8 => ?_⟩
      have la := WS_at hw (e := (a : Int) + i) (by omega) (by omega)
      have lb := WS_at hw (e := (b : Int) + i) (by omega) (by omega)
      exact ⟨⟨by omega, by omega⟩, ⟨by omega, by omega⟩, i1, fun _ => ⟨fun _ => w_or (by omega) hw la lb (fun v τ s' ht hs hv _ => b_Wo_bitwise_89 ht.1 ⟨⟨by omega, by omega⟩, ih (i + 1) _ s' (by omega) (by omega) (WS_58 ht hv)⟩), fun _ => w_and (by omega) hw la lb (fun v τ s' ht hs hv _ => b_Wo_bitwise_75 ht.1 ⟨⟨by omega, by omega⟩, ih (i + 1) _ s' (by omega) (by omega) (WS_58 ht hv)⟩)⟩, fun _ => w_xor (by omega) hw la lb (fun v τ s' ht hs hv _ => b_Wo_bitwise_56 ht.1 ⟨⟨by omega, by omega⟩, ih (i + 1) _ s' (by omega) (by omega) (WS_58 ht hv)⟩)⟩
  exact b_Wo_bitwise_0 h.1 (l 8 0 σ s (by decide) (by decide) h)
theorem w_same {K : Int → q_H → Prop} {a b : Nat} (hd : 2 ≤ d) (hn : n ≤ 3200) (ha : a + 8 ≤ n) (hb : b + 8 ≤ n) (h : WS n σ0 s0 σ s) (kk : ∀ v τ s', WS n σ0 s0 τ s' → lit s' v → K v τ) : J ω m_Wo_same d 0 0 0 0 0 [(0, .ref 49), (1, .int (zI (a : Int))), (2, .int (zI (b : Int)))] [] σ (q_ki K) := by
  obtain ⟨d, rfl⟩ : ∃ k, d = k + 1 := ⟨d - 1, by omega⟩
  have l : ∀ (k i : Nat) (x3 : Int) (ρ : q_H) (t : Nat), 8 ≤ i + k → i ≤ 8 → WS n σ0 s0 ρ t → lit t x3 → J ω m_Wo_same (d + 1) 0 0 0 0 5 [(0, .ref 49), (1, .int (zI (a : Int))), (2, .int (zI (b : Int))), (3, .int (zI x3)), (4, .int (zI (i : Int)))] [] ρ (q_ki K) := by
    intro k
    induction k with
    | zero =>
      intro i x3 ρ t hi h8 hw hl
      exact b_Wo_same_5 hw.1 ⟨⟨by omega, by omega⟩, fun _ => ⟨x3, lit_R (WS_s hw).2 hl, rfl, kk x3 ρ t hw hl⟩, fun c => absurd c (by omega)⟩
    | succ k ih =>
      intro i x3 ρ t hi h8 hw hl
      exact b_Wo_same_5 hw.1 ⟨⟨by omega, by omega⟩, fun _ => ⟨x3, lit_R (WS_s hw).2 hl, rfl, kk x3 ρ t hw hl⟩, fun c8 => ⟨⟨by omega, by omega⟩, ⟨by omega, by omega⟩, w_xor (by omega) hw (WS_at hw (by omega) (by omega)) (WS_at hw (by omega) (by omega)) (fun v τ s' ht hs hv _ => b_Wo_same_42 ht.1 (w_and (by omega) ht (lit_m hl hs) (lit_x (WS_s ht).2 hv).1 (fun v2 τ2 s2 ht2 hs2 hv2 _ => b_Wo_same_47 ht2.1 (ih (i + 1) v2 τ2 s2 (by omega) (by omega) ht2 hv2))))⟩⟩
  exact b_Wo_same_0 h.1 (l 8 0 0 σ s (by decide) (by decide) h (lit_0 h))
theorem w_below {K : Int → q_H → Prop} {a b : Nat} (hd : 3 ≤ d) (hn : n ≤ 3200) (ha : a + 8 ≤ n) (hb : b + 8 ≤ n) (h : WS n σ0 s0 σ s) (kk : ∀ v τ s', WS n σ0 s0 τ s' → lit s' v → K v τ) : J ω m_Wo_below d 0 0 0 0 0 [(0, .ref 49), (1, .int (zI (a : Int))), (2, .int (zI (b : Int)))] [] σ (q_ki K) := by
  obtain ⟨d, rfl⟩ : ∃ k, d = k + 1 := ⟨d - 1, by omega⟩
  have l : ∀ (k i : Nat) (x3 : Int) (ρ : q_H) (t : Nat), 8 ≤ i + k → i ≤ 8 → WS n σ0 s0 ρ t → lit t x3 → J ω m_Wo_below (d + 1) 0 0 0 0 5 [(0, .ref 49), (1, .int (zI (a : Int))), (2, .int (zI (b : Int))), (3, .int (zI x3)), (4, .int (zI (i : Int)))] [] ρ (q_ki K) := by
    intro k
    induction k with
    | zero =>
      intro i x3 ρ t hi h8 hw hl
      exact b_Wo_below_5 hw.1 ⟨⟨by omega, by omega⟩, fun _ => ⟨x3, lit_R (WS_s hw).2 hl, rfl, kk x3 ρ t hw hl⟩, fun c => absurd c (by omega)⟩
    | succ k ih =>
      intro i x3 ρ t hi h8 hw hl
      refine b_Wo_below_5 hw.1 ⟨⟨by omega, by omega⟩, fun _ => ⟨x3, lit_R (WS_s hw).2 hl, rfl, kk x3 ρ t hw hl⟩, fun c8 => ?_⟩
      have lb := WS_at hw (e := (b : Int) + i) (by omega) (by omega)
      exact ⟨⟨by omega, by omega⟩, ⟨by omega, by omega⟩, w_xor (by omega) hw (WS_at hw (by omega) (by omega)) lb (fun v τ s' ht hs hv _ => b_Wo_below_45 ht.1 (w_pick (by omega) ht hv (lit_m lb hs) (lit_m hl hs) (fun v2 τ2 s2 ht2 hs2 hv2 _ => b_Wo_below_51 ht2.1 (ih (i + 1) v2 τ2 s2 (by omega) (by omega) ht2 hv2))))⟩
  exact b_Wo_below_0 h.1 (l 8 0 1 σ s (by decide) (by decide) h (lit_1 h))
theorem w_sum {K : q_H → Prop} {a b : Nat} {x3 x4 : Int} (hd : 3 ≤ d) (hn : n ≤ 3200) (ha : a + 8 ≤ n) (hb : b + 8 ≤ n) (h3 : 0 ≤ x3 ∧ x3 ≤ 8) (h4 : x4 = 0 ∨ x4 = 1) (h : WS n σ0 s0 σ s) (kk : ∀ τ s', WS n σ0 s0 τ s' → K τ) : J ω m_Wo_sum d 0 0 0 0 0 [(0, .ref 49), (1, .int (zI (a : Int))), (2, .int (zI (b : Int))), (3, .int (zI x3)), (4, .int (zI x4))] [] σ (q_kv K) := by
  obtain ⟨d, rfl⟩ : ∃ k, d = k + 1 := ⟨d - 1, by omega⟩
  have l : ∀ (x5 : Int), x5 = 0 ∨ x5 = 1 → ∀ (k i : Nat) (x6 : Int) (ρ : q_H) (t : Nat), 8 ≤ i + k → i ≤ 8 → WS n σ0 s0 ρ t → lit t x6 → J ω m_Wo_sum (d + 1) 0 0 0 0 19 [(0, .ref 49), (1, .int (zI (a : Int))), (2, .int (zI (b : Int))), (3, .int (zI x3)), (5, .int (zI x5)), (6, .int (zI x6)), (7, .int (zI (i : Int)))] [] ρ (q_kv K) := by
    intro x5 h5 k
    induction k with
    | zero =>
      intro i x6 ρ t hi h8 hw hl
      exact b_Wo_sum_19 hw.1 ⟨⟨by omega, by omega⟩, ⟨by omega, by omega⟩, fun _ => ⟨rfl, kk ρ t hw⟩, fun c => absurd c (by omega)⟩
    | succ k ih =>
      intro i x6 ρ t hi h8 hw hl
      refine b_Wo_sum_19 hw.1 ⟨⟨by omega, by omega⟩, ⟨by omega, by omega⟩, fun _ => ⟨rfl, kk ρ t hw⟩, fun c8 => ?_⟩
      have la := WS_at hw (e := (a : Int) + i) (by omega) (by omega)
      have lb := WS_at hw (e := (b : Int) + i) (by omega) (by omega)
      exact ⟨⟨by omega, by omega⟩, ⟨by omega, by omega⟩, w_xor (by omega) hw la (lit_b (WS_s hw).2 lb h5) (fun v τ s' ht hs hv _ => b_Wo_sum_57 ht.1 (w_xor (by omega) ht hv (lit_m hl hs) (fun v2 τ2 s2 ht2 hs2 hv2 _ => b_Wo_sum_78 ht2.1 ⟨⟨by omega, by omega⟩, w_pick (by omega) (WS_58 ht2 hv2) (lit_m hv hs2) (lit_m hl (by omega)) (lit_m la (by omega)) (fun v3 τ3 s3 ht3 hs3 hv3 _ => b_Wo_sum_92 ht3.1 (ih (i + 1) v3 τ3 s3 (by omega) (by omega) ht3 hv3))⟩)))⟩
  have l4 : lit s x4 := by rcases h4 with rfl | rfl; exact lit_0 h; exact lit_1 h
  exact b_Wo_sum_0 h.1 ⟨⟨by omega, by omega⟩, fun _ => l 0 (Or.inl rfl) 8 0 x4 σ s (by decide) (by decide) h l4, fun _ => l 1 (Or.inr rfl) 8 0 x4 σ s (by decide) (by decide) h l4⟩
end WoJ
