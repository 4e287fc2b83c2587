/-! Scanner.sign and Scanner.cut -/
section CutJ
variable {ω : q_W} {d : Nat} {Q : q_R → q_H → Prop}
theorem sg1_R (a : Int) : inR (sg1 a) := by
  have := sg1_P (P := fun v => 1 ≤ v ∧ v ≤ 47) (by decide) a
  exact ⟨by omega, by omega⟩
theorem sg2_R (a b : Int) : inR (sg2 a b) := by
  have := sg2_P (P := fun v => 1 ≤ v ∧ v ≤ 47) (by decide) a b
  exact ⟨by omega, by omega⟩
theorem c_Sc_doubleSign {σ : q_H} {K : Int → q_H → Prop} {x y : Int} (hE : q_E σ) (rx : inR x) (ry : inR y) (kk : K (sg2 x y) σ) : J ω m_Sc_doubleSign d 0 0 0 0 0 [(0, .int (zI x)), (1, .int (zI y))] [] σ (q_ki K) := by
  have H : ∀ v : Int, sg2 x y = v → inR v → q_ki K (.inl (some (.int (zI v)))) σ := fun v e r => ⟨v, r, rfl, e ▸ kk⟩
  refine b_Sc_doubleSign_0 hE ⟨rx, fun c => ⟨ry, fun e => H _ ?_ ⟨by decide, by decide⟩, fun e => H _ ?_ ⟨by decide, by decide⟩⟩, fun c => ⟨ry, fun e => H _ ?_ ⟨by decide, by decide⟩, fun e => H _ ?_ ⟨by decide, by decide⟩⟩,
    fun c => ⟨ry, fun e => ⟨fun e2 => H _ ?_ ⟨by decide, by decide⟩, fun e2 => H _ ?_ ⟨by decide, by decide⟩⟩, fun e => H _ ?_ ⟨by decide, by decide⟩⟩,
    fun c => ⟨ry, fun e => H _ ?_ ⟨by decide, by decide⟩, fun e => H _ ?_ ⟨by decide, by decide⟩⟩,
    fun c => ⟨ry, fun e => ⟨fun e2 => H _ ?_ ⟨by decide, by decide⟩, fun e2 => H _ ?_ ⟨by decide, by decide⟩⟩, fun e => H _ ?_ ⟨by decide, by decide⟩⟩,
    fun c => ⟨ry, fun e => H _ ?_ ⟨by decide, by decide⟩, fun e => H _ ?_ ⟨by decide, by decide⟩⟩, fun c => H _ ?_ ⟨by decide, by decide⟩⟩
  all_goals first
    | (obtain ⟨a1, a2, a3, a4, a5, a6⟩ := c; simp only [sg2, a1, a2, a3, a4, a5, a6, if_false])
    | (subst c; simp only [sg2, e, e2, if_false, if_true]; done)
    | (subst c; simp [sg2, e, e2]; done)
    | (subst c; simp [sg2, e]; done)
theorem c_Sc_singleSign {σ : q_H} {K : Int → q_H → Prop} {x : Int} (hd : 1 ≤ d) (hE : q_E σ) (rx : inR x) (kk : K (sg1 x) σ) : J ω m_Sc_singleSign d 0 0 0 0 0 [(0, .int (zI x))] [] σ (q_ki K) := by
  obtain ⟨d, rfl⟩ : ∃ k, d = k + 1 := ⟨d - 1, by omega⟩
  have H : ∀ v : Int, sg1 x = v → inR v → q_ki K (.inl (some (.int (zI v)))) σ := fun v e r => ⟨v, r, rfl, e ▸ kk⟩
  refine b_Sc_singleSign_0 hE ⟨rx, fun c => H _ (by subst c; rfl) ⟨by decide, by decide⟩, fun c => H _ (by subst c; rfl) ⟨by decide, by decide⟩, fun c => H _ (by subst c; rfl) ⟨by decide, by decide⟩, fun c => H _ (by subst c; rfl) ⟨by decide, by decide⟩, fun c => H _ (by subst c; rfl) ⟨by decide, by decide⟩, fun c => H _ (by subst c; rfl) ⟨by decide, by decide⟩, fun c => H _ (by subst c; rfl) ⟨by decide, by decide⟩, fun c => H _ (by subst c; rfl) ⟨by decide, by decide⟩, fun c => H _ (by subst c; rfl) ⟨by decide, by decide⟩, fun c => H _ (by subst c; rfl) ⟨by decide, by decide⟩, fun c => ?_⟩
  have G : ∀ v : Int, sg1 x = v → inR v → q_ki (fun v τ => J ω m_Sc_singleSign (d + 1) 0 0 0 0 126 [] [.int (zI v)] τ (q_ki K)) (.inl (some (.int (zI v)))) σ := fun v e r => ⟨v, r, rfl, b_Sc_singleSign_126 hE (H v e r)⟩
  refine b_Sc_operatorSign_0 hE ⟨rx, fun c => G _ (by subst c; rfl) ⟨by decide, by decide⟩, fun c => G _ (by subst c; rfl) ⟨by decide, by decide⟩, fun c => G _ (by subst c; rfl) ⟨by decide, by decide⟩, fun c => G _ (by subst c; rfl) ⟨by decide, by decide⟩, fun c => G _ (by subst c; rfl) ⟨by decide, by decide⟩, fun c => G _ (by subst c; rfl) ⟨by decide, by decide⟩, fun c => G _ (by subst c; rfl) ⟨by decide, by decide⟩, fun c => G _ (by subst c; rfl) ⟨by decide, by decide⟩, fun c => G _ (by subst c; rfl) ⟨by decide, by decide⟩, fun c => G _ (by subst c; rfl) ⟨by decide, by decide⟩, fun c2 => G _ ?_ ⟨by decide, by decide⟩⟩
  obtain ⟨a1, a2, a3, a4, a5, a6, a7, a8, a9, a10⟩ := c
  obtain ⟨b1, b2, b3, b4, b5, b6, b7, b8, b9, b10⟩ := c2
  simp only [sg1, a1, a2, a3, a4, a5, a6, a7, a8, a9, a10, b1, b2, b3, b4, b5, b6, b7, b8, b9, b10, if_false]
theorem nx_R {σ : q_H} {n s : Nat} : inR (nx (z σ 3) n s) := by
  unfold nx
  split
  · exact z_R _ _ _
  · exact ⟨by decide, by decide⟩
theorem c_Sc_sign {σ : q_H} {K : Int → q_H → Prop} {n i : Nat} (hd : 2 ≤ d) (hE : q_E σ) (hn2 : n ≤ 4096) (hn : z σ 2 2 = (n : Int)) (hi : z σ 2 3 = (i : Int)) (hin : i < n)
    (kk : ∀ v, v = (if sg2 (z σ 3 i) (nx (z σ 3) n i) = 47 then sg1 (z σ 3 i) else sg2 (z σ 3 i) (nx (z σ 3) n i)) → K v (zs σ 2 3 (if sg2 (z σ 3 i) (nx (z σ 3) n i) = 47 then (i + 1 : Nat) else (i + 2 : Nat)))) :
    J ω m_Sc_sign d 0 0 0 0 0 [(0, .ref 2)] [] σ (q_ki K) := by
  obtain ⟨d, rfl⟩ : ∃ k, d = k + 1 := ⟨d - 1, by omega⟩
  have main : J ω m_Sc_sign (d + 1) 0 0 0 0 38 [(0, .ref 2), (1, .int (zI (z σ 3 i)))] [.int (zI (nx (z σ 3) n i))] σ (q_ki K) := by
    refine b_Sc_sign_38 hE (c_Sc_doubleSign hE (z_R _ _ _) nx_R (b_Sc_sign_44 hE ?_))
    rw [hi]
    refine ⟨?_, fun c => ?_, fun c => ?_⟩
    · exact sg2_R _ _
    · refine b_Sc_sign_61 hE ⟨?_, fun _ => ⟨_, ?_, rfl, ?_⟩, fun c2 => absurd c2 c⟩
      · exact sg2_R _ _
      · exact sg2_R _ _
      · have := kk _ rfl
        rw [if_neg c, if_neg c] at this
        exact this
    · refine b_Sc_sign_61 hE ⟨?_, fun c2 => absurd c c2, fun _ => c_Sc_singleSign (by omega) (zs_E hE) (z_R _ _ _) (b_Sc_sign_75 (zs_E hE) ⟨_, ?_, rfl, ?_⟩)⟩
      · rw [c]; exact ⟨by decide, by decide⟩
      · exact sg1_R _
      · have := kk _ rfl
        rw [if_pos c, if_pos c] at this
        exact this
  refine b_Sc_sign_0 hE ?_
  rw [hi, hn, Int.toNat_natCast, show ((i : Int) + 1).toNat = i + 1 by omega]
  unfold nx at main
  refine ⟨⟨by omega, by omega⟩, ⟨by omega, by omega⟩, fun c => ?_, fun c => ⟨⟨by omega, by omega⟩, ?_⟩⟩
  · rw [if_neg (by omega)] at main; exact main
  · rw [if_pos (by omega)] at main; exact main
theorem tkE_bd {f : Nat → Int} {n s : Nat} (h : s < n) : s < tkE f n s ∧ tkE f n s ≤ n := by
  unfold tkE
  rw [if_pos h]
  split
  · next c => exact ⟨rn_gt h c, rn_bd (by omega)⟩
  · split
    · next c => exact ⟨rn_gt h c, rn_bd (by omega)⟩
    · split
      · omega
      · next c =>
        refine ⟨by omega, ?_⟩
        by_cases h2 : s + 1 < n
        · omega
        · exfalso
          apply c
          unfold nx sg2
          rw [if_neg h2]
          simp
/-- where the tokens begin -/
def sp (f : Nat → Int) (n : Nat) : Nat → Nat
  | 0 => rn lxB f n 0
  | i + 1 => rn lxB f n (tkE f n (sp f n i))
theorem sp_lt {f : Nat → Int} {n i : Nat} (h : sp f n i < n) : sp f n i < sp f n (i + 1) :=
  Nat.lt_of_lt_of_le (tkE_bd h).1 (rn_le _ _ _ _)
theorem sp_bd {f : Nat → Int} {n : Nat} : ∀ i, (∀ j, j < i → sp f n j < n) → sp f n i ≤ n ∧ i ≤ sp f n i
  | 0, _ => ⟨rn_bd (Nat.zero_le _), Nat.zero_le _⟩
  | i + 1, h => by
    have a := sp_bd i (fun j hj => h j (by omega))
    have b := h i (by omega)
    have c := sp_lt b
    exact ⟨rn_bd (tkE_bd b).2, by omega⟩
theorem l_Sc_cut_24 {x1 : Int} {n : Nat} (hn2 : n ≤ 4096) : ∀ (k i : Nat) (σ : q_H), n - i = k → i ≤ n → q_E σ → z σ 2 2 = (n : Int) → z σ 2 3 = (i : Int) →
    J ω m_Sc_cut (d + 1) 0 0 0 0 76 [(0, .ref 2), (1, .int (zI x1))] [] (zs σ 2 3 (rn lxB (z σ 3) n i : Nat)) Q →
    J ω m_Sc_cut (d + 1) 0 0 0 0 24 [(0, .ref 2), (1, .int (zI x1))] [] σ Q := by
  intro k
  induction k with
  | zero =>
    intro i σ hk hin hE hn hi kk
    refine b_Sc_cut_24 hE ?_
    rw [hi, hn]
    refine ⟨fun _ => ?_, fun c => absurd c (by omega)⟩
    rw [rn_ge (by omega), zs_self hi] at kk
    exact kk
  | succ k ih =>
    intro i σ hk hin hE hn hi kk
    refine b_Sc_cut_24 hE ?_
    rw [hi, hn, Int.toNat_natCast]
    have go : lxB (z σ 3 i) = true → J ω m_Sc_cut (d + 1) 0 0 0 0 24 [(0, .ref 2), (1, .int (zI x1))] [] (zs σ 2 3 ((i : Int) + 1)) Q := by
      intro hb
      rw [rn_yes (by omega) hb] at kk
      refine ih (i + 1) _ (by omega) (by omega) (zs_E hE) ?_ ?_ ?_
      · rw [z_k (by decide), hn]
      · rw [z_s ⟨by omega, by omega⟩]; omega
      · rw [z_oF (by decide), zs_zs]
        exact kk
    refine ⟨fun c => absurd c (by omega), fun c => ⟨⟨by omega, by omega⟩, fun c2 => go (lxB_iff.mpr (Or.inl c2)), fun c2 => ⟨fun c3 => ?_, fun c3 => go (lxB_iff.mpr (Or.inr c3))⟩⟩⟩
    rw [rn_no (lxB_no.mpr (fun h => h.elim c2 c3)), zs_self hi] at kk
    exact kk
/-- the tokens up to t -/
def TKi (f : Nat → Int) (n : Nat) (σ : q_H) (t : Nat) : Prop := ∀ i, i < t → z σ 5 i = (sp f n i : Nat) ∧ z σ 4 i = tkK f n (sp f n i) ∧ q_l σ 6 i = tkC f n (sp f n i)
theorem tkK_P {P : Int → Prop} {f : Nat → Int} {n s : Nat} (h : s < n) (h1 : ∀ v ∈ [39, 40, 41, 42, 43, 44, 45, 30], P v) (h2 : ∀ v ∈ [32, 33, 35, 36, 37, 38, 31, 34, 19, 20, 14, 15, 16, 17, 18, 5, 3, 4, 8, 10, 47], P v) (h3 : ∀ v ∈ [6, 7, 9, 12, 11, 13, 2, 1, 47], P v) (h4 : P 23) : P (tkK f n s) := by
  unfold tkK
  rw [if_pos h]
  exact q_ite (q_ite (h2 _ (by decide)) (wk_P h1 _)) (q_ite (q_ite (h2 _ (by decide)) h4) (q_ite (sg1_P h2 _) (sg2_P h3 _ _)))
theorem tkK_46 {f : Nat → Int} {n s : Nat} (h : s < n) : tkK f n s ≠ 46 := tkK_P (P := fun v => v ≠ 46) h (by decide) (by decide) (by decide) (by decide)
theorem tkK_R {f : Nat → Int} {n s : Nat} : 1 ≤ tkK f n s ∧ tkK f n s ≤ 47 := by
  by_cases h : s < n
  · exact tkK_P (P := fun v => 1 ≤ v ∧ v ≤ 47) h (by decide) (by decide) (by decide) (by decide)
  · unfold tkK
    rw [if_neg h]
    decide
theorem zI_n {m : Nat} (h : m ≤ 100000) : (zI (m : Int)).toInt = m := zI_toInt ⟨by omega, by omega⟩
theorem l_Sc_cut_76 {x1 : Int} {σ : q_H} {f : Nat → Int} {n t s : Nat} (hd : 2 ≤ d) (hE : q_E σ) (hn2 : n ≤ 4096) (hf : z σ 3 = f) (hw : ∀ j, j < 7 → q_l σ 7 j = wds.getD j 0) (hn : z σ 2 2 = (n : Int)) (h4 : z σ 2 4 = (t : Int)) (ht : t < 4097) (h3 : z σ 2 3 = (s : Int)) (hs : s ≤ n)
    (kk : ∀ τ, fr [2, 4, 5, 6] σ τ → z τ 2 2 = (n : Int) → z τ 2 8 = z σ 2 8 → z τ 2 4 = (t : Int) → z τ 2 3 = (tkE f n s : Nat) → (∀ i, i ≠ t → z τ 5 i = z σ 5 i ∧ q_l τ 6 i = q_l σ 6 i) → z τ 4 = z σ 4 → z τ 5 t = (s : Int) → q_l τ 6 t = tkC f n s →
      J ω m_Sc_cut (d + 1) 0 0 0 0 171 [(0, .ref 2), (1, .int (zI x1))] [.int (zI (tkK f n s)), .int (zI (t : Int)), .ref 4] τ Q) :
    J ω m_Sc_cut (d + 1) 0 0 0 0 76 [(0, .ref 2), (1, .int (zI x1))] [] σ Q := by
  subst hf
  have F1 : fr [2, 4, 5, 6] σ (zt (zs σ 5 t (s : Int)) 6 t 0) := fr_t (fr_s fr_refl (by decide)) (by decide)
  have E1 : q_E (zt (zs σ 5 t (s : Int)) 6 t 0) := fr_E F1 hE
  have f1 : z (zt (zs σ 5 t (s : Int)) 6 t 0) 3 = z σ 3 := z_oF (by decide)
  have g2 : z (zt (zs σ 5 t (s : Int)) 6 t 0) 2 2 = (n : Int) := (z_o (by decide)).trans hn
  have g3 : z (zt (zs σ 5 t (s : Int)) 6 t 0) 2 3 = (s : Int) := (z_o (by decide)).trans h3
  have g4 : z (zt (zs σ 5 t (s : Int)) 6 t 0) 2 4 = (t : Int) := (z_o (by decide)).trans h4
  have g5 : z (zt (zs σ 5 t (s : Int)) 6 t 0) 5 t = (s : Int) := z_s ⟨by omega, by omega⟩
  refine b_Sc_cut_76 hE ?_
  rw [h4, h3, hn, Int.toNat_natCast, Int.toNat_natCast]
  refine ⟨⟨by omega, by omega⟩, fun c => ⟨⟨by omega, by omega⟩, fun c2 => ⟨fun c3 => ?_, fun c3 => ?_⟩, fun c2 => ?_⟩, fun c => ?_⟩
  · have n1 := lxL_no.mpr (zIf_eq.mp c2)
    have n2 := lxD_no.mpr (zIf_eq.mp c3)
    refine c_Sc_sign hd E1 hn2 g2 g3 (by omega) (fun v hv => ?_)
    rw [f1] at hv ⊢
    have eE : tkE (z σ 3) n s = if sg2 (z σ 3 s) (nx (z σ 3) n s) = 47 then s + 1 else s + 2 := by
      unfold tkE; rw [if_pos (by omega), n1, n2]; simp
    have eK : v = tkK (z σ 3) n s := by
      unfold tkK; rw [if_pos (by omega), n1, n2, hv]; simp
    have eI : (if sg2 (z σ 3 s) (nx (z σ 3) n s) = 47 then ((s + 1 : Nat) : Int) else ((s + 2 : Nat) : Int)) = (tkE (z σ 3) n s : Nat) := by
      rw [eE]; split <;> rfl
    have hb := (tkE_bd (f := z σ 3) (n := n) (s := s) (by omega)).2
    rw [eI, eK]
    refine kk _ (fr_s F1 (by decide)) ?_ ?_ ?_ ?_ (fun i hi => ⟨?_, ?_⟩) ?_ ?_ ?_
    · rw [z_k (by decide)]; exact g2
    · rw [z_k (by decide)]; exact z_o (by decide)
    · rw [z_k (by decide)]; exact g4
    · exact z_s ⟨by omega, by omega⟩
    · rw [z_o (by decide)]; exact z_k hi
    · show q_l (zt (zs σ 5 t (s : Int)) 6 t 0) 6 i = _
      rw [zt_k hi]; rfl
    · rw [z_oF (by decide)]; exact z_oF (by decide)
    · rw [z_o (by decide)]; exact g5
    · show q_l (zt (zs σ 5 t (s : Int)) 6 t 0) 6 t = _
      rw [zt_s]; unfold tkC; rw [if_pos (by omega), n1, n2]; simp
  · have n1 := lxL_no.mpr (zIf_eq.mp c2)
    have n2 := lxD_iff.mpr (zIf_ne.mp c3)
    refine c_Sc_digits (t := t) (by omega) E1 hn2 g2 g3 (by omega) g4 ht ?_
    rw [f1]
    have eE : tkE (z σ 3) n s = rn lxD (z σ 3) n s := by
      unfold tkE; rw [if_pos (by omega), n1, n2]; simp
    have eK : (if nva (z σ 3) s (rn lxD (z σ 3) n s - s) 0 > 255 then (47 : Int) else 23) = tkK (z σ 3) n s := by
      unfold tkK; rw [if_pos (by omega : s < n), n1, n2]; simp
    have eC : (zI (nva (z σ 3) s (rn lxD (z σ 3) n s - s) 0)).toInt64 = tkC (z σ 3) n s := by
      unfold tkC; rw [if_pos (by omega), n1, n2]; simp
    have hb := (tkE_bd (f := z σ 3) (n := n) (s := s) (by omega)).2
    rw [eK, eC, ← eE]
    refine b_Sc_cut_164 (zt_E (zs_E E1)) ?_
    refine kk _ (fr_t (fr_s F1 (by decide)) (by decide)) ?_ ?_ ?_ ?_ (fun i hi => ⟨?_, ?_⟩) ?_ ?_ ?_
    · rw [z_t, z_k (by decide)]; exact g2
    · rw [z_t, z_k (by decide)]; exact z_o (by decide)
    · rw [z_t, z_k (by decide)]; exact g4
    · rw [z_t]; exact z_s ⟨by omega, by omega⟩
    · rw [z_t, z_o (by decide)]; exact z_k hi
    · rw [zt_k hi]
      show q_l (zt (zs σ 5 t (s : Int)) 6 t 0) 6 i = _
      rw [zt_k hi]; rfl
    · rw [z_tF, z_oF (by decide)]; exact z_oF (by decide)
    · rw [z_t, z_o (by decide)]; exact g5
    · exact zt_s
  · have n1 := lxL_iff.mpr (zIf_ne.mp c2)
    refine c_Sc_word (t := t) (by omega) E1 hn2 g2 g3 (by omega) g4 ht (fun j hj => (zt_o (by decide)).trans (hw j hj)) ?_
    rw [f1]
    have eE : tkE (z σ 3) n s = rn lxL (z σ 3) n s := by
      unfold tkE; rw [if_pos (by omega), n1]; simp
    have eK : (if rn lxL (z σ 3) n s - s > 8 then (47 : Int) else wk (wva (z σ 3) s (rn lxL (z σ 3) n s - s) 0)) = tkK (z σ 3) n s := by
      unfold tkK; rw [if_pos (by omega : s < n), n1]; simp
    have eC : wva (z σ 3) s (rn lxL (z σ 3) n s - s) 0 = tkC (z σ 3) n s := by
      unfold tkC; rw [if_pos (by omega), n1]; simp
    have hb := (tkE_bd (f := z σ 3) (n := n) (s := s) (by omega)).2
    rw [eK, eC, ← eE]
    refine b_Sc_cut_142 (zt_E (zs_E E1)) ?_
    refine kk _ (fr_t (fr_s F1 (by decide)) (by decide)) ?_ ?_ ?_ ?_ (fun i hi => ⟨?_, ?_⟩) ?_ ?_ ?_
    · rw [z_t, z_k (by decide)]; exact g2
    · rw [z_t, z_k (by decide)]; exact z_o (by decide)
    · rw [z_t, z_k (by decide)]; exact g4
    · rw [z_t]; exact z_s ⟨by omega, by omega⟩
    · rw [z_t, z_o (by decide)]; exact z_k hi
    · rw [zt_k hi]
      show q_l (zt (zs σ 5 t (s : Int)) 6 t 0) 6 i = _
      rw [zt_k hi]; rfl
    · rw [z_tF, z_oF (by decide)]; exact z_oF (by decide)
    · rw [z_t, z_o (by decide)]; exact g5
    · exact zt_s
  · have hsn : s = n := by omega
    have eE : tkE (z σ 3) n s = s := by unfold tkE; rw [if_neg (by omega)]
    have eK : tkK (z σ 3) n s = 46 := by unfold tkK; rw [if_neg (by omega)]
    have eC : tkC (z σ 3) n s = 0 := by unfold tkC; rw [if_neg (by omega)]
    rw [eK] at kk
    refine kk _ F1 g2 (z_o (by decide)) g4 (by rw [eE]; exact g3) (fun i hi => ⟨z_k hi, ?_⟩) (z_oF (by decide)) g5 ?_
    · rw [zt_k hi]; rfl
    · rw [zt_s, eC]
theorem l_Sc_cut_17 {σ0 : q_H} {f : Nat → Int} {n : Nat} (hd : 2 ≤ d) (hn2 : n ≤ 4096)
    (kk : ∀ (τ : q_H) (T : Nat), fr [2, 4, 5, 6] σ0 τ → z τ 2 2 = (n : Int) → z τ 2 8 = z σ0 2 8 → z τ 2 4 = ((T + 1 : Nat) : Int) → (∀ i, i < T → sp f n i < n) → sp f n T = n → TKi f n τ (T + 1) → Q (.inl none) τ) :
    ∀ (k t a : Nat) (σ : q_H), n - sp f n t = k → fr [2, 4, 5, 6] σ0 σ → q_E σ → z σ 3 = f → (∀ j, j < 7 → q_l σ 7 j = wds.getD j 0) → z σ 2 2 = (n : Int) → z σ 2 8 = z σ0 2 8 → z σ 2 4 = (t : Int) → z σ 2 3 = (a : Int) → a ≤ n → rn lxB f n a = sp f n t → (∀ i, i < t → sp f n i < n) → TKi f n σ t →
      J ω m_Sc_cut (d + 1) 0 0 0 0 17 [(0, .ref 2), (1, .int (zI (t : Int)))] [] σ Q := by
  intro k
  induction k using Nat.strongRecOn with
  | _ k ih =>
  intro t a σ hk F hE hf hw hn h8 h4 h3 ha hr hlt hT
  have hb := sp_bd (f := f) (n := n) t hlt
  refine b_Sc_cut_17 hE ⟨⟨by omega, by omega⟩, fun c => absurd c (by omega), fun _ => l_Sc_cut_24 hn2 _ a σ rfl ha hE hn h3 ?_⟩
  rw [hf, hr]
  have E1 : q_E (zs σ 2 3 ((sp f n t : Nat) : Int)) := zs_E hE
  refine l_Sc_cut_76 (f := f) (n := n) (t := t) (s := sp f n t) hd E1 hn2 ((z_oF (by decide)).trans hf) hw ((z_k (by decide)).trans hn) ((z_k (by decide)).trans h4) (by omega) (z_s ⟨by omega, by omega⟩) hb.1 (fun τ G e2 e8 e4 e3 eo ek e5 e6 => ?_)
  have G2 : fr [2, 4, 5, 6] σ0 τ := fr_trans (fr_s F (by decide)) G
  have E2 : q_E τ := fr_E G E1
  have TK : TKi f n (zs τ 4 t (tkK f n (sp f n t))) (t + 1) := by
    intro i hi
    by_cases c : i = t
    · subst c
      exact ⟨(z_o (by decide)).trans e5, z_s ⟨by have := tkK_R (f := f) (n := n) (s := sp f n i); omega, by have := tkK_R (f := f) (n := n) (s := sp f n i); omega⟩, e6⟩
    · have h := hT i (by omega)
      refine ⟨?_, ?_, ?_⟩
      · rw [z_o (by decide), (eo i c).1, z_o (by decide)]; exact h.1
      · rw [z_k c, ek, z_o (by decide)]; exact h.2.1
      · show q_l τ 6 i = _
        rw [(eo i c).2]; exact h.2.2
  have TK2 : ∀ e, TKi f n (zs (zs τ 4 t (tkK f n (sp f n t))) 2 4 e) (t + 1) := by
    intro e i hi
    have h := TK i hi
    exact ⟨(z_o (by decide)).trans h.1, (z_o (by decide)).trans h.2.1, h.2.2⟩
  refine b_Sc_cut_171 E2 ?_
  rw [e4, Int.toNat_natCast, z_s ⟨by have := tkK_R (f := f) (n := n) (s := sp f n t); omega, by have := tkK_R (f := f) (n := n) (s := sp f n t); omega⟩]
  refine ⟨⟨by omega, by omega⟩, ⟨by omega, by omega⟩, fun c => ?_, fun c => ?_⟩
  · have hlt2 : sp f n t < n := by
      rcases Nat.lt_or_ge (sp f n t) n with h | h
      · exact h
      · exact absurd (by unfold tkK; rw [if_neg (by omega)]) c
    have hs := sp_lt hlt2
    have hbd := tkE_bd (f := f) hlt2
    have := ih (n - sp f n (t + 1)) (by omega) (t + 1) (tkE f n (sp f n t)) (zs (zs τ 4 t (tkK f n (sp f n t))) 2 4 ((t : Int) + 1)) rfl (fr_s (fr_s G2 (by decide)) (by decide)) (zs_E (zs_E E2)) ?_ ?_ ?_ ?_ ?_ ?_ hbd.2 rfl (fun i hi => ?_) (TK2 _)
    · exact this
    · rw [z_oF (by decide), z_oF (by decide), fr_zF G (by decide), z_oF (by decide)]; exact hf
    · intro j hj
      show q_l τ 7 j = _
      rw [fr_l G (by decide)]; exact hw j hj
    · rw [z_k (by decide), z_o (by decide)]; exact e2
    · rw [z_k (by decide), z_o (by decide), e8, z_k (by decide)]; exact h8
    · exact z_s ⟨by omega, by omega⟩
    · rw [z_k (by decide), z_o (by decide)]; exact e3
    · rcases Nat.lt_or_ge i t with h | h
      · exact hlt i h
      · rw [show i = t by omega]; exact hlt2
  · have hge : sp f n t = n := by
      rcases Nat.lt_or_ge (sp f n t) n with h | h
      · exact absurd c (tkK_46 h)
      · omega
    refine kk _ t (fr_s (fr_s G2 (by decide)) (by decide)) ?_ ?_ ?_ hlt hge (TK2 _)
    · rw [z_k (by decide), z_o (by decide)]; exact e2
    · rw [z_k (by decide), z_o (by decide), e8, z_k (by decide)]; exact h8
    · exact z_s ⟨by omega, by omega⟩
theorem c_Sc_cut {σ : q_H} {K : q_H → Prop} {n : Nat} (hd : 3 ≤ d) (hE : q_E σ) (hn2 : n ≤ 4096) (hn : z σ 2 2 = (n : Int)) (hw : ∀ j, j < 7 → q_l σ 7 j = wds.getD j 0)
    (kk : ∀ (τ : q_H) (T : Nat), fr [2, 4, 5, 6] σ τ → z τ 2 2 = (n : Int) → z τ 2 8 = 0 → z τ 2 4 = ((T + 1 : Nat) : Int) → (∀ i, i < T → sp (z σ 3) n i < n) → sp (z σ 3) n T = n → TKi (z σ 3) n τ (T + 1) → K τ) :
    J ω m_Sc_cut d 0 0 0 0 0 [(0, .ref 2)] [] σ (q_kv K) := by
  obtain ⟨d, rfl⟩ : ∃ k, d = k + 1 := ⟨d - 1, by omega⟩
  refine b_Sc_cut_0 hE ?_
  have F : fr [2, 4, 5, 6] σ (zs (zs (zs σ 2 3 0) 2 4 0) 2 8 0) := fr_s (fr_s (fr_s fr_refl (by decide)) (by decide)) (by decide)
  have h8 : z (zs (zs (zs σ 2 3 0) 2 4 0) 2 8 0) 2 8 = 0 := z_s ⟨by decide, by decide⟩
  refine l_Sc_cut_17 (σ0 := zs (zs (zs σ 2 3 0) 2 4 0) 2 8 0) (f := z σ 3) (n := n) (by omega) hn2 (fun τ T G a1 a2 a3 a4 a5 a6 => ⟨rfl, kk τ T (fr_trans F G) a1 (a2.trans h8) a3 a4 a5 a6⟩) _ 0 0 _ rfl fr_refl (fr_E F hE) ?_ ?_ ?_ rfl ?_ ?_ (Nat.zero_le _) rfl (fun i hi => absurd hi (Nat.not_lt_zero _)) (fun i hi => absurd hi (Nat.not_lt_zero _))
  · rw [z_oF (by decide), z_oF (by decide), z_oF (by decide)]
  · exact hw
  · rw [z_k (by decide), z_k (by decide), z_k (by decide)]; exact hn
  · rw [z_k (by decide)]; exact z_s ⟨by decide, by decide⟩
  · rw [z_k (by decide), z_k (by decide)]; exact z_s ⟨by decide, by decide⟩
end CutJ
