/-! THE ENCODER, a step each: setting, assert, assume -/
theorem dfc_1 {f f' g : Nat → Int} {k : Nat} (h : ∀ j, j ≠ k → f' j = f j) : ∀ n, dfc f' g n ≤ dfc f g n + 1 ∧ (n ≤ k → dfc f' g n = dfc f g n)
  | 0 => ⟨Nat.le_add_right _ _, fun _ => rfl⟩
  | n + 1 => by
    obtain ⟨h1, h2⟩ := dfc_1 (g := g) h n
    refine ⟨?_, fun q => ?_⟩
    · show dfc f' g n + (if f' n = g n then 0 else 1) ≤ dfc f g n + (if f n = g n then 0 else 1) + 1
      by_cases c : n = k
      · rw [h2 (by omega)]
        split <;> split <;> omega
      · rw [h n c]; omega
    · show dfc f' g n + (if f' n = g n then 0 else 1) = dfc f g n + (if f n = g n then 0 else 1)
      rw [h2 (by omega), h n (by omega)]
theorem dfc_cg {f f' g : Nat → Int} : ∀ n, (∀ j, j < n → f' j = f j) → dfc f' g n = dfc f g n
  | 0, _ => rfl
  | n + 1, h => by
    show dfc f' g n + (if f' n = g n then 0 else 1) = dfc f g n + (if f n = g n then 0 else 1)
    rw [dfc_cg n (fun j hj => h j (by omega)), h n (by omega)]
section StP
variable {ω : q_W} {d p V fm s n i : Nat} {σ0 σ : q_H} {WI WU : Nat → Int} {S : List q_St} {L : q_Lr} {dn : Nat → Bool} {ot : Nat} {K : q_H → Prop}
theorem y_nx {j : Nat} {τ : q_H} (hp : p = 16 ∨ p = 29) (hE : q_E τ) (r1 : q_r τ 48 1 = p) (hj : j ≤ 2048) (k : J ω m_En_encode (d + 1) 0 0 0 0 54 [(0, .ref 48), (2, .int (zI (j : Int))), (3, .int (zI ((n + 1 : Nat) : Int)))] [] τ (q_kv K)) : q_ki (fun v ρ => J ω m_En_encode (d + 1) 0 0 0 0 107 [(0, .ref 48), (3, .int (zI (n : Int)))] [.int (zI v)] ρ (q_kv K)) (.inl (some (.int (zI (j : Int))))) τ := by
  refine ⟨(j : Int), ⟨by omega, by omega⟩, rfl, b_En_encode_107 hp r1 hE ?_⟩
  rw [show (n : Int) + 1 = ((n + 1 : Nat) : Int) by omega]
  exact k
theorem EI_tr {τ : q_H} {t : Nat} {L2 : q_Lr} (hc : CT0 p V WI WU S σ0) (h : EI p V WI WU fm σ0 σ s L dn ot) (w : WT 8 σ s τ t) (cv : CovA V WI fm τ t L2) : EI p V WI WU fm σ0 τ t L2 dn ot := by
  obtain ⟨h1, h2, h3, h4, h5, h6, h7, h8⟩ := h
  have g := (ME_WT w).2.2
  have e : ∀ o, o ∉ SWo → z τ o = z σ o := fun o ho => fr_zF w.1.2.2.2.1 ho
  refine ⟨NX_WS hc.1 h1 w.1 (fun q => absurd q id), w.2.1, w.2.2.1.trans h3, fun v cv2 q i hi => ?_, ?_, ?_, cv, DnI_mv hc.2.2.1 h8 g (e 61 (by decide)) (fun j _ => by rw [e 62 (by decide)]) (by rw [e 48 (by decide)]) (e 69 (by decide))⟩
  · rw [e 48 (by decide)] at q hi
    rw [e 69 (by decide)]
    exact h4 v (CSv_GM cv2 g) q i hi
  · rw [e 62 (by decide), e 64 (by decide)]; exact h5
  · rw [e 62 (by decide), e 64 (by decide)]; exact h6
theorem UvN_cg {τ : q_H} {v : Nat → Bool} (h : ∀ j, j < 96 → z τ 62 j = z σ 62 j) : UvN τ v = UvN σ v := by
  funext k
  unfold UvN
  by_cases c : k < 12
  · rw [if_pos c, if_pos c]
    exact nV_cf 8 (fun j hj => h _ (by omega))
  · rw [if_neg c, if_neg c]
theorem IvN_cg {τ : q_H} {v : Nat → Bool} (h : z τ 61 = z σ 61) : IvN τ v = IvN σ v := by
  funext k
  unfold IvN
  rw [h]
theorem L_assert {e : q_Ex} {k : Nat} (hd : 7 ≤ d) (hc : CT0 p V WI WU S σ0) (h : EI p V WI WU fm σ0 σ s L dn ot) (hx : S[i]? = some (2, (k : Int), 0, e.1)) (pe : PE (cI WI WU V) e) (hg : hB e.1 0 = some 1) (hk : k < 512) (hn : n < 1000000) (hB : s + lsum L + 4 * e.2.2.1 + 8 < 10240)
    (kk : ∀ τ s' L', EI p V WI WU fm σ0 τ s' L' dn ot → ME s s' σ τ → (∀ o, 61 ≤ o → o ≠ 63 → z τ o = z σ o) → s' + lsum L' + nf τ ≤ s + lsum L + nf σ + 4 * e.2.2.1 + 4 → (∀ v, CSv s' τ v → lvb v (z τ 48 4) = (lvb v (z σ 48 4) && decide (wth (IvN σ v) (UvN σ v) e.1 ≠ 0)) ∧ (∀ j, j ≠ k → z τ 63 j = z σ 63 j) ∧ lvb v (z τ 63 k) = (lvb v (z σ 63 k) || (lvb v (z σ 48 4) && !decide (wth (IvN σ v) (UvN σ v) e.1 ≠ 0)))) → J ω m_En_encode (d + 1) 0 0 0 0 54 [(0, .ref 48), (2, .int (zI ((i + 1 : Nat) : Int))), (3, .int (zI ((n + 1 : Nat) : Int)))] [] τ (q_kv K)) : J ω m_En_encode (d + 1) 0 0 0 0 54 [(0, .ref 48), (2, .int (zI (i : Int))), (3, .int (zI (n : Int)))] [] σ (q_kv K) := by
  have hp := hc.1
  refine y_ev hd hc h hx rfl pe hg hn (by omega) (fun τ t w1 w3 w4 w5 w6 w7 ⟨c5, c6, c9⟩ i16 => ?_)
  obtain ⟨d, rfl⟩ : ∃ k, d = k + 1 := ⟨d - 1, by omega⟩
  have no : ∀ a : Int, a ≠ 2 → ¬ z τ (p + 5) i = a := fun a ha q => ha (by rw [← q, c5])
  refine b_En_perform_0 hp (by rw [fr_r w1.1.2.2.2.1]; exact h.1.1.2) w1.1.1 ⟨⟨by omega, by omega⟩, ?_⟩
  rw [Int.toNat_natCast]
  refine ⟨fun c => absurd c (no 1 (by decide)), fun _ => ?_, fun c => absurd c (no 3 (by decide)), fun c => absurd c (no 4 (by decide)), fun c => absurd c (no 5 (by decide)), fun c => absurd c (no 6 (by decide)), fun c => absurd c (no 7 (by decide)), fun c => absurd c (no 8 (by decide)), fun c => absurd c5 c.2.1⟩
  refine y_truth (by omega) hc h w1 w3 w4 w5 w6 w7 hB (fun r τ2 t2 L2 v1 v2 v3 v4 v5 v6 => ?_)
  have h2 := EI_tr hc h v1 v4
  have f2 : ∀ o, o ∉ SWo → z τ2 o = z σ o := fun o ho => fr_zF v1.1.2.2.2.1 ho
  refine b_En_perform_97 hp h2.1.1.2 h2.1.1.1 (y_claim (by omega) hp h2.1 h2.2.1 hk v2 (by omega) (fun τ3 t3 n3 m3 b3 o3 e48 e63 val => b_En_perform_100 hp n3.1.2 n3.1.1 ?_))
  rw [show (i : Int) + 1 = ((i + 1 : Nat) : Int) by omega]
  refine y_nx hp n3.1.1 n3.1.2 (by omega) (kk τ3 t3 L2 ?_ (ME_tr (ME_WT v1) m3) (fun o q1 q2 => by rw [o3 o (by omega) q2, f2 o (by unfold SWo; simp; omega)]) ?_ (fun v cv => ?_))
  · refine ⟨n3, m3.1, m3.2.1.trans h2.2.2.1, fun v cv q j hj => ?_, ?_, ?_, CovA_mv hc.2.2.1 h2.2.2.2.2.2.2.1 m3.2.2 (Nat.le_refl _) (o3 61 (by decide) (by decide)) (fun j _ => by rw [o3 62 (by decide) (by decide)]) (fun j _ => by rw [o3 64 (by decide) (by decide)]), DnI_mv hc.2.2.1 h2.2.2.2.2.2.2.2 m3.2.2 (o3 61 (by decide) (by decide)) (fun j _ => by rw [o3 62 (by decide) (by decide)]) (e48 15 (by decide)) (o3 69 (by decide) (by decide))⟩
    · rw [o3 69 (by decide) (by decide)]
      rw [e48 15 (by decide)] at hj
      refine h2.2.2.2.1 v (CSv_GM cv m3.2.2) ?_ j hj
      rw [(val v cv).1] at q
      exact (Bool.and_eq_true_iff.mp q).1
    · rw [o3 62 (by decide) (by decide), o3 64 (by decide) (by decide)]; exact h2.2.2.2.2.1
    · rw [o3 62 (by decide) (by decide), o3 64 (by decide) (by decide)]; exact h2.2.2.2.2.2.1
  · have : nf τ3 ≤ nf σ + 1 := by
      unfold nf
      have := (dfc_1 (f := z σ 63) (f' := z τ3 63) (g := fun _ => 1) (k := k) (fun j hj => by rw [e63 j hj, f2 63 (by decide)]) 512).1
      exact this
    omega
  · obtain ⟨q1, q2⟩ := val v cv
    obtain ⟨-, q3⟩ := v3 v (CSv_GM cv m3.2.2)
    rw [f2 48 (by decide)] at q1 q2
    rw [f2 63 (by decide)] at q2
    exact ⟨by rw [q1, q3], fun j hj => by rw [e63 j hj, f2 63 (by decide)], by rw [q2, q3]⟩
theorem L_assume {e : q_Ex} {a : Int} (hd : 7 ≤ d) (hc : CT0 p V WI WU S σ0) (h : EI p V WI WU fm σ0 σ s L dn ot) (hx : S[i]? = some (3, a, 0, e.1)) (pe : PE (cI WI WU V) e) (hg : hB e.1 0 = some 1) (hn : n < 1000000) (hB : s + lsum L + 4 * e.2.2.1 + 8 < 10240)
    (kk : ∀ τ s' L', EI p V WI WU fm σ0 τ s' L' dn ot → ME s s' σ τ → (∀ o, 61 ≤ o → z τ o = z σ o) → s' + lsum L' ≤ s + lsum L + 4 * e.2.2.1 + 1 → (∀ v, CSv s' τ v → lvb v (z τ 48 4) = (lvb v (z σ 48 4) && decide (wth (IvN σ v) (UvN σ v) e.1 ≠ 0))) → J ω m_En_encode (d + 1) 0 0 0 0 54 [(0, .ref 48), (2, .int (zI ((i + 1 : Nat) : Int))), (3, .int (zI ((n + 1 : Nat) : Int)))] [] τ (q_kv K)) : J ω m_En_encode (d + 1) 0 0 0 0 54 [(0, .ref 48), (2, .int (zI (i : Int))), (3, .int (zI (n : Int)))] [] σ (q_kv K) := by
  have hp := hc.1
  refine y_ev hd hc h hx rfl pe hg hn (by omega) (fun τ t w1 w3 w4 w5 w6 w7 ⟨c5, c6, c9⟩ i16 => ?_)
  obtain ⟨d, rfl⟩ : ∃ k, d = k + 1 := ⟨d - 1, by omega⟩
  have no : ∀ a : Int, a ≠ 3 → ¬ z τ (p + 5) i = a := fun a ha q => ha (by rw [← q, c5])
  refine b_En_perform_0 hp (by rw [fr_r w1.1.2.2.2.1]; exact h.1.1.2) w1.1.1 ⟨⟨by omega, by omega⟩, ?_⟩
  rw [Int.toNat_natCast]
  refine ⟨fun c => absurd c (no 1 (by decide)), fun c => absurd c (no 2 (by decide)), fun _ => ?_, fun c => absurd c (no 4 (by decide)), fun c => absurd c (no 5 (by decide)), fun c => absurd c (no 6 (by decide)), fun c => absurd c (no 7 (by decide)), fun c => absurd c (no 8 (by decide)), fun c => absurd c5 c.2.2.1⟩
  refine y_truth (by omega) hc h w1 w3 w4 w5 w6 w7 hB (fun r τ2 t2 L2 v1 v2 v3 v4 v5 v6 => ?_)
  have h2 := EI_tr hc h v1 v4
  have f2 : ∀ o, o ∉ SWo → z τ2 o = z σ o := fun o ho => fr_zF v1.1.2.2.2.1 ho
  have fτ : z τ 48 4 = z τ2 48 4 := by rw [f2 48 (by decide), fr_zF w1.1.2.2.2.1 (by decide)]
  refine b_En_perform_123 hp h2.1.1.2 h2.1.1.1 ?_
  rw [fτ]
  refine y_assume (by omega) hp h2.1 h2.2.1 v2 (by omega) (fun r3 τ3 t3 n3 E3 r3' m3 b3 _ o3 e48 val => b_En_perform_126 hp r3' E3 ?_)
  rw [show (i : Int) + 1 = ((i + 1 : Nat) : Int) by omega]
  refine y_nx hp n3.1.1 n3.1.2 (by omega) (kk _ t3 L2 ?_ (ME_tr (ME_WT v1) m3) (fun o q1 => by rw [o3 o (by omega), f2 o (by unfold SWo; simp; omega)]) (by omega) (fun v cv => ?_))
  · refine ⟨n3, m3.1, m3.2.1.trans h2.2.2.1, fun v cv q j hj => ?_, ?_, ?_, CovA_mv hc.2.2.1 h2.2.2.2.2.2.2.1 m3.2.2 (Nat.le_refl _) (o3 61 (by decide)) (fun j _ => by rw [o3 62 (by decide)]) (fun j _ => by rw [o3 64 (by decide)]), DnI_mv hc.2.2.1 h2.2.2.2.2.2.2.2 m3.2.2 (o3 61 (by decide)) (fun j _ => by rw [o3 62 (by decide)]) (e48 15 (by decide)) (o3 69 (by decide))⟩
    · rw [o3 69 (by decide)]
      rw [e48 15 (by decide)] at hj
      refine h2.2.2.2.1 v (CSv_GM cv m3.2.2) ?_ j hj
      rw [val v cv] at q
      exact (Bool.and_eq_true_iff.mp q).1
    · rw [o3 62 (by decide), o3 64 (by decide)]; exact h2.2.2.2.2.1
    · rw [o3 62 (by decide), o3 64 (by decide)]; exact h2.2.2.2.2.2.1
  · obtain ⟨-, q3⟩ := v3 v (CSv_GM cv m3.2.2)
    rw [val v cv, f2 48 (by decide), q3]
/-- a number cut to its WIDTH -/
theorem nV_cut {v : Nat → Bool} {f g : Nat → Int} {w : Nat} (hv : v 0 = true) (h8 : w ≤ 8) (h1 : ∀ j, j < w → f j = g j) (h2 : wdt f w) : nV v f 8 = nV v g 8 % 2 ^ w := by
  rw [nV_w hv h2 8 h8 (Nat.le_refl _), nV_cf w h1]
  obtain ⟨r, hr⟩ := nV_sp (v := v) (f := g) w 8 h8
  rw [hr, Nat.add_mul_mod_self_left, Nat.mod_eq_of_lt (nV_lt w)]
theorem L_set {e : q_Ex} {k : Nat} (hd : 7 ≤ d) (hc : CT0 p V WI WU S σ0) (h : EI p V WI WU fm σ0 σ s L dn ot) (hx : S[i]? = some (1, (k : Int), 0, e.1)) (pe : PE (cI WI WU V) e) (hg : hB e.1 0 = some 1) (hk : k < V) (hn : n < 1000000) (hB : s + 3 * e.2.2.1 < 10240)
    (kk : ∀ τ s' L' dn', EI p V WI WU fm σ0 τ s' L' dn' (ot + 1) → ME s s' σ τ → (∀ o, 61 ≤ o → o ≠ 62 → z τ o = z σ o) → z τ 48 = z σ 48 → s' + lsum L' ≤ s + lsum L + 3 * e.2.2.1 + 7 → cnt dn (12 + V) ≤ cnt dn' (12 + V) + 1 → (∀ v, CSv s' τ v → UvN τ v = upq (UvN σ v) k (wth (IvN σ v) (UvN σ v) e.1 % 2 ^ (WU k).toNat)) → J ω m_En_encode (d + 1) 0 0 0 0 54 [(0, .ref 48), (2, .int (zI ((i + 1 : Nat) : Int))), (3, .int (zI ((n + 1 : Nat) : Int)))] [] τ (q_kv K)) : J ω m_En_encode (d + 1) 0 0 0 0 54 [(0, .ref 48), (2, .int (zI (i : Int))), (3, .int (zI (n : Int)))] [] σ (q_kv K) := by
  have hp := hc.1
  have V12 := hc.2.2.1
  have Wk := hc.2.2.2.2.2.1 k hk
  refine y_ev hd hc h hx rfl pe hg hn (by omega) (fun τ t w1 w3 w4 w5 w6 w7 ⟨c5, c6, c9⟩ i16 => ?_)
  obtain ⟨d, rfl⟩ : ∃ k, d = k + 1 := ⟨d - 1, by omega⟩
  have no : ∀ a : Int, a ≠ 1 → ¬ z τ (p + 5) i = a := fun a ha q => ha (by rw [← q, c5])
  have cv1 : CovA V WI fm τ t L := CovA_mv V12 h.2.2.2.2.2.2.1 (ME_WT w1).2.2 (Nat.le_refl _) (fr_zF w1.1.2.2.2.1 (by decide)) (fun j _ => by rw [fr_zF w1.1.2.2.2.1 (by decide)]) (fun j _ => by rw [fr_zF w1.1.2.2.2.1 (by decide)])
  have h2 := EI_tr hc h w1 cv1
  have f2 : ∀ o, o ∉ SWo → z τ o = z σ o := fun o ho => fr_zF w1.1.2.2.2.1 ho
  have ew : z τ (p + 3) k = WU k := by rw [EI_p hp h2.1 (by omega) (by omega), hc.2.2.2.2.1]
  refine b_En_perform_0 hp h2.1.1.2 h2.1.1.1 ⟨⟨by omega, by omega⟩, ?_⟩
  rw [Int.toNat_natCast]
  refine ⟨fun _ => ?_, fun c => absurd c (no 2 (by decide)), fun c => absurd c (no 3 (by decide)), fun c => absurd c (no 4 (by decide)), fun c => absurd c (no 5 (by decide)), fun c => absurd c (no 6 (by decide)), fun c => absurd c (no 7 (by decide)), fun c => absurd c (no 8 (by decide)), fun c => absurd c5 c.1⟩
  refine ⟨⟨by show (0 : Int) ≤ (k : Int); omega, by show (k : Int) < 12; omega⟩, ?_⟩
  rw [show ((1, (k : Int), (0 : Int), e.1) : q_St).2.1.toNat = k from Int.toNat_natCast k, ew]
  refine ⟨⟨by omega, by show (0 : Int) ≤ (k : Int) * 8; omega, by omega, by omega, by show (k : Int) * 8 + WU k ≤ _; omega⟩, ?_⟩
  rw [show (((1, (k : Int), (0 : Int), e.1) : q_St).2.1 * 8).toNat = 8 * k by show ((k : Int) * 8).toNat = 8 * k; omega, show (i : Int) + 1 = ((i + 1 : Nat) : Int) by omega]
  have N := NX_set (k := 8 * k) (m := (WU k).toNat) hp (NX_WS (R' := True) hp h.1 w1.1 (fun _ => Nat.le_refl _)) trivial (by omega)
  have eo : ∀ o, o ≠ 62 → z (zcp τ 58 0 62 (8 * k) (WU k).toNat) o = z τ o := fun o ho => funext fun j => z_cp_o ho
  have ein : ∀ j, j < (WU k).toNat → z (zcp τ 58 0 62 (8 * k) (WU k).toNat) 62 (8 * k + j) = z τ 58 j := fun j hj => by rw [z_cp_in (by omega), Nat.zero_add, show 8 * k + j - 8 * k = j by omega]
  have eout : ∀ j, ¬ (8 * k ≤ j ∧ j < 8 * k + (WU k).toNat) → z (zcp τ 58 0 62 (8 * k) (WU k).toNat) 62 j = z σ 62 j := fun j hj => by rw [z_cp_out hj, f2 62 (by decide)]
  generalize hρ : zcp τ 58 0 62 (8 * k) (WU k).toNat = ρ at N eo ein eout
  have m3 : ME t t τ ρ := ME_z (fun o q1 q2 => eo o (by omega)) w1.2.1
  have wk : wdt (fun j => z ρ 62 (8 * k + j)) (WU k).toNat := fun j a b => by
    show z ρ 62 (8 * k + j) = 1
    rw [eout _ (by omega)]
    exact (h.2.2.2.2.1 k hk).1 j a b
  refine y_nx hp N.1.1 N.1.2 (by omega) (kk ρ t ((fun j => z ρ 62 (8 * k + j), 7) :: L) (upq dn (12 + k) false) ?_ (ME_tr (ME_WT w1) m3) (fun o q1 q2 => by rw [eo o q2, f2 o (by unfold SWo; simp; omega)]) (by rw [eo 48 (by decide), f2 48 (by decide)]) (by show t + (7 + lsum L) ≤ _; omega) (cnt_clr _) (fun v cv => ?_))
  · obtain ⟨g1, g2, g3, g4, g5, g6, g7, g8⟩ := h2
    refine ⟨NX_R N (fun q => absurd q id), m3.1, m3.2.1.trans g3, fun v cv q j hj => ?_, fun i' hi => ⟨?_, fun f hf => ?_⟩, fun j a b => ⟨?_, fun f hf => ?_⟩, ⟨fun i' a b => ?_, fun i' a => ?_, fun f i' a b => ?_⟩, ⟨fun k' a b => ?_, ?_⟩⟩
    · rw [eo 48 (by decide)] at q hj
      rw [eo 69 (by decide)]
      exact g4 v (CSv_GM cv m3.2.2) q j hj
    · by_cases c : i' = k
      · subst c; exact wk
      · refine wdt_cg (h.2.2.2.2.1 i' hi).1 (fun j hj => eout _ (by omega))
    · rw [eo 64 (by decide)]; exact (g5 i' hi).2 f hf
    · rw [eout j (by omega)]; exact (h.2.2.2.2.2.1 j a b).1
    · rw [eo 64 (by decide)]; exact (g6 j a b).2 f hf
    · rw [eo 61 (by decide)]; exact Cov_sub (fun x hx => List.mem_cons_of_mem _ hx) (Cov_GM (g7.1 i' a b) m3.2.2)
    · by_cases c : i' = k
      · subst c
        exact Or.inr ⟨_, List.mem_cons_self, fun _ _ => rfl, Nat.le_refl 7⟩
      · exact Cov_sub (fun x hx => List.mem_cons_of_mem _ hx) (Cov_cg (fun j hj => by rw [f2 62 (by decide), eout _ (by omega)]) (Cov_GM (g7.2.1 i' a) m3.2.2))
    · rw [eo 64 (by decide)]; exact Cov_sub (fun x hx => List.mem_cons_of_mem _ hx) (Cov_GM (g7.2.2 f i' a b) m3.2.2)
    · unfold upq at b
      split at b
      · cases b
      · next ne =>
        obtain ⟨r, q1, j, q2, q3⟩ := g8.1 k' a b
        refine ⟨r, ?_, j, by rw [eo 48 (by decide)]; exact q2, by rw [eo 69 (by decide)]; exact q3⟩
        rcases q1 with ⟨c1, c2⟩ | ⟨c1, c2, c3⟩ | c1
        · exact Or.inl ⟨c1, by rw [eo 61 (by decide)]; exact RT8_GM c2 m3.2.2⟩
        · exact Or.inr (Or.inl ⟨c1, c2, RT8_cg (fun j hj => by rw [f2 62 (by decide), eout _ (by omega)]) (RT8_GM c3 m3.2.2)⟩)
        · exact Or.inr (Or.inr c1)
    · rw [eo 48 (by decide)]
      have := cnt_clr (dn := dn) (k := 12 + k) (14 + V)
      have := g8.2
      omega
  · have cvt := CSv_GM cv m3.2.2
    obtain ⟨-, ev⟩ := w5 v cvt
    funext k'
    unfold upq
    by_cases c : k' = k
    · rw [if_pos c, c, EV_wth ev]
      unfold UvN
      rw [if_pos (by omega)]
      exact nV_cut cv.1 (by omega) (fun j hj => ein j hj) wk
    · rw [if_neg c]
      unfold UvN
      by_cases c12 : k' < 12
      · rw [if_pos c12, if_pos c12]
        exact nV_cf 8 (fun j hj => eout _ (by omega))
      · rw [if_neg c12, if_neg c12]
end StP
