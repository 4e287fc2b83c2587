/-! THE ENCODER: an EXPR of a step, and whether it isn't 0 -/
/-- the PROGRAM that is encoded -/
def CT0 (p V : Nat) (WI WU : Nat → Int) (S : List q_St) (σ0 : q_H) : Prop :=
  (p = 16 ∨ p = 29) ∧ PS2 p WI V S σ0 ∧ V ≤ 12 ∧ z σ0 p 4 = (V : Int) ∧ WU = z σ0 (p + 3) ∧ (∀ i, i < V → 1 ≤ WU i ∧ WU i ≤ 8) ∧ ∀ i, i < 12 → WI i ≤ 8 → wdt (fun j => z σ0 61 (8 * i + j)) (WI i).toNat
/-- while steps are encoded -/
def EI (p V : Nat) (WI WU : Nat → Int) (fm : Nat) (σ0 σ : q_H) (s : Nat) (L : q_Lr) (dn : Nat → Bool) (ot : Nat) : Prop :=
  NX p fm False σ0 σ s ∧ HI s σ ∧ z σ 50 8 = z σ0 50 8 ∧ DI s σ ∧ (∀ i, i < V → wdt (fun j => z σ 62 (8 * i + j)) (WU i).toNat ∧ ∀ f, f < fm → wdt (fun j => z σ 64 (96 * f + 8 * i + j)) (WU i).toNat) ∧ (∀ j, 8 * V ≤ j → j < 96 → z σ 62 j = 1 ∧ ∀ f, f < fm → z σ 64 (96 * f + j) = 1) ∧ CovA V WI fm σ s L ∧ DnI V σ s dn ot
/-- failures that may hold -/
def nf (σ : q_H) : Nat := dfc (z σ 63) (fun _ => 1) 512
def pot (V lam b s : Nat) (L : q_Lr) (σ : q_H) (dn : Nat → Bool) (ot : Nat) : Nat := 52 * (s + lsum L + nf σ) + lam * (12 + V - cnt dn (12 + V)) + b * ot
section CoP
variable {ω : q_W} {d p V fm s n i : Nat} {σ0 σ : q_H} {WI WU : Nat → Int} {S : List q_St} {L : q_Lr} {dn : Nat → Bool} {ot : Nat} {K : q_H → Prop}
theorem NX_R {R R' : Prop} (h : NX p fm R σ0 σ s) (hR : R' → R) : NX p fm R' σ0 σ s := by
  obtain ⟨a0, a1, a2, a3, a4, a5, a6, a7, a8, a9, a10, a11⟩ := h
  exact ⟨a0, a1, a2, a3, a4, a5, a6, a7, a8, a9, fun r => a10 (hR r), a11⟩
theorem EI_61 (h : EI p V WI WU fm σ0 σ s L dn ot) : z σ 61 = z σ0 61 := fr_zF h.1.2.2.2.2.2.2.2.2.2.2.2 (by decide)
theorem EI_p (hp : p = 16 ∨ p = 29) {R : Prop} (h : NX p fm R σ0 σ s) {o : Nat} (h1 : p ≤ o) (h2 : o ≤ p + 12) : z σ o = z σ0 o := fr_zF h.2.2.2.2.2.2.2.2.2.2.2 (by unfold SEn; simp; omega)
theorem EI_EB (hc : CT0 p V WI WU S σ0) (h : EI p V WI WU fm σ0 σ s L dn ot) : EB0 p V WI WU σ s := by
  refine ⟨hc.1, h.1.1.2, h.1.2.2.2.1, fun i h1 h2 => ?_, fun i h1 h2 => (h.2.2.2.2.1 i h1).1⟩
  rw [EI_61 h]
  exact hc.2.2.2.2.2.2 i h1 h2
/-- a step, up to perform -/
theorem y_ev {x : q_St} {e : q_Ex} (hd : 7 ≤ d) (hc : CT0 p V WI WU S σ0) (h : EI p V WI WU fm σ0 σ s L dn ot) (hx : S[i]? = some x) (he : e.1 = x.2.2.2) (pe : PE (cI WI WU V) e) (hg : hB e.1 0 = some 1) (hn : n < 1000000) (hB : s + 3 * e.2.2.1 < 10240)
    (kk : ∀ τ t, WT 8 σ s τ t → t ≤ s + 3 * e.2.2.1 → wdt (z τ 58) e.2.1.toNat → (∀ v, CSv t τ v → CSv s σ v ∧ EV (IvN σ v) (UvN σ v) e.1 (nV v (z τ 58) 8)) → EPl (cI WI WU V) e → (∀ it, e.1 = [it] → LF σ it (z τ 58)) → z τ (p + 5) i = x.1 ∧ z τ (p + 6) i = x.2.1 ∧ z τ (p + 9) i = x.2.2.1 → i < 1638 → J ω m_En_perform d 0 0 0 0 0 [(0, .ref 48), (1, .int (zI (i : Int))), (2, .int (zI x.2.1))] [] τ (q_ki (fun v ρ => J ω m_En_encode (d + 1) 0 0 0 0 107 [(0, .ref 48), (3, .int (zI (n : Int)))] [.int (zI v)] ρ (q_kv K)))) : J ω m_En_encode (d + 1) 0 0 0 0 54 [(0, .ref 48), (2, .int (zI (i : Int))), (3, .int (zI (n : Int)))] [] σ (q_kv K) := by
  obtain ⟨g, h11, hls, ⟨h17, hli⟩, -⟩ := id hc.2.1
  have hp := hc.1
  have np : ∀ {o}, p ≤ o → o ≤ p + 12 → z σ o = z σ0 o := fun h1 h2 => EI_p hp h.1 h1 h2
  obtain ⟨q, a1, a2, a3, a4, a5, a6, a7⟩ := lsS_get S 0 0 hls i x hx
  rw [Nat.zero_add] at a1 a2 a3 a4 a5
  rw [Nat.zero_add] at a4 a5
  have iS : i < S.length := (List.getElem?_eq_some_iff.mp hx).1
  have g11 := g.2.2.2.1.2.1
  have g17 := g.2.2.1.2.1
  have iA : itA p σ q e.1 := fun j y hy => by
    rw [he] at hy
    have := hli _ _ (a7 j y hy)
    rw [np (by omega) (by omega), np (by omega) (by omega), np (by omega) (by omega)]
    exact this
  refine b_En_encode_54 hp h.1.1.2 h.1.1.1 ⟨⟨by omega, by omega⟩, fun c => absurd c (by omega), fun _ => ⟨⟨by omega, by omega⟩, fun c => absurd c ?_, fun _ => ⟨⟨by omega, by omega⟩, ?_⟩⟩⟩
  · rw [np (Nat.le_refl _) (by omega), h11]; omega
  · rw [Int.toNat_natCast, np (show p ≤ p + 7 by omega) (by omega), np (show p ≤ p + 8 by omega) (by omega), a4, a5, ← he]
    refine k_evaluate hd (EI_EB hc h) h.1.1.1 h.1.2.2.1 h.2.1 pe hg iA (by rw [he]; omega) hB (fun τ t w1 w2 w3 w4 w5 w6 w7 => ?_)
    have ep : ∀ {o}, p ≤ o → o ≤ p + 12 → z τ o = z σ0 o := fun h1 h2 => (fr_zF w1.1.2.2.2.1 (by unfold SWo; simp; omega)).trans (np h1 h2)
    refine b_En_encode_93 hp (by rw [fr_r w1.1.2.2.2.1]; exact h.1.1.2) w1.1.1 ⟨⟨by omega, by omega⟩, ?_⟩
    rw [Int.toNat_natCast, ep (show p ≤ p + 6 by omega) (by omega), a2]
    refine kk τ t w1 w3 w4 w5 w6 w7 ⟨?_, ?_, ?_⟩ (by omega)
    · rw [ep (by omega) (by omega)]; exact a1
    · rw [ep (by omega) (by omega)]; exact a2
    · rw [ep (by omega) (by omega)]; exact a3
/-- a step without an EXPR -/
theorem y_ev0 {x : q_St} (hd : 1 ≤ d) (hc : CT0 p V WI WU S σ0) (h : EI p V WI WU fm σ0 σ s L dn ot) (hx : S[i]? = some x) (he : x.2.2.2 = []) (hn : n < 1000000)
    (kk : z σ (p + 5) i = x.1 ∧ z σ (p + 6) i = x.2.1 ∧ z σ (p + 9) i = x.2.2.1 → i < 1638 → J ω m_En_perform d 0 0 0 0 0 [(0, .ref 48), (1, .int (zI (i : Int))), (2, .int (zI x.2.1))] [] σ (q_ki (fun v ρ => J ω m_En_encode (d + 1) 0 0 0 0 107 [(0, .ref 48), (3, .int (zI (n : Int)))] [.int (zI v)] ρ (q_kv K)))) : J ω m_En_encode (d + 1) 0 0 0 0 54 [(0, .ref 48), (2, .int (zI (i : Int))), (3, .int (zI (n : Int)))] [] σ (q_kv K) := by
  obtain ⟨d, rfl⟩ : ∃ k, d = k + 1 := ⟨d - 1, by omega⟩
  obtain ⟨g, h11, hls, ⟨h17, hli⟩, -⟩ := id hc.2.1
  have hp := hc.1
  have np : ∀ {o}, p ≤ o → o ≤ p + 12 → z σ o = z σ0 o := fun h1 h2 => EI_p hp h.1 h1 h2
  obtain ⟨q, a1, a2, a3, a4, a5, a6, a7⟩ := lsS_get S 0 0 hls i x hx
  rw [Nat.zero_add] at a1 a2 a3 a4 a5
  rw [Nat.zero_add] at a4 a5
  rw [he] at a5 a6
  have iS : i < S.length := (List.getElem?_eq_some_iff.mp hx).1
  have g11 := g.2.2.2.1.2.1
  have g17 := g.2.2.1.2.1
  have ql : q ≤ (itF S).length := by simpa using a6
  refine b_En_encode_54 hp h.1.1.2 h.1.1.1 ⟨⟨by omega, by omega⟩, fun c => absurd c (by omega), fun _ => ⟨⟨by omega, by omega⟩, fun c => absurd c ?_, fun _ => ⟨⟨by omega, by omega⟩, ?_⟩⟩⟩
  · rw [np (Nat.le_refl _) (by omega), h11]; omega
  · rw [Int.toNat_natCast, np (show p ≤ p + 7 by omega) (by omega), np (show p ≤ p + 8 by omega) (by omega), a4, a5]
    refine b_En_evaluate_0 hp h.1.1.2 h.1.1.1 (b_En_evaluate_5 hp h.1.1.2 h.1.1.1 ⟨⟨by omega, by omega⟩, ⟨by simp only [List.length_nil]; omega, by simp only [List.length_nil]; omega⟩, fun _ => ⟨rfl, ?_⟩, fun c => absurd c (by simp)⟩)
    refine b_En_encode_93 hp h.1.1.2 h.1.1.1 ⟨⟨by omega, by omega⟩, ?_⟩
    rw [Int.toNat_natCast, np (show p ≤ p + 6 by omega) (by omega), a2]
    refine kk ⟨?_, ?_, ?_⟩ (by omega)
    · rw [np (by omega) (by omega)]; exact a1
    · rw [np (by omega) (by omega)]; exact a2
    · rw [np (by omega) (by omega)]; exact a3
/-- whether an EXPR isn't 0 -/
theorem y_truth {K0 : Int → q_H → Prop} {e : q_Ex} {τ : q_H} {t : Nat} (hd : 3 ≤ d) (hc : CT0 p V WI WU S σ0) (h : EI p V WI WU fm σ0 σ s L dn ot) (w1 : WT 8 σ s τ t) (w3 : t ≤ s + 3 * e.2.2.1) (w4 : wdt (z τ 58) e.2.1.toNat) (w5 : ∀ v, CSv t τ v → CSv s σ v ∧ EV (IvN σ v) (UvN σ v) e.1 (nV v (z τ 58) 8)) (w6 : EPl (cI WI WU V) e) (w7 : ∀ it, e.1 = [it] → LF σ it (z τ 58)) (hB : s + lsum L + 4 * e.2.2.1 + 8 < 10240)
    (kk : ∀ r τ2 t2 L2, WT 8 σ s τ2 t2 → lit t2 r → (∀ v, CSv t2 τ2 v → CSv s σ v ∧ lvb v r = decide (wth (IvN σ v) (UvN σ v) e.1 ≠ 0)) → CovA V WI fm τ2 t2 L2 → t2 + lsum L2 ≤ s + lsum L + 4 * e.2.2.1 → ((1 ≤ e.2.2.1 ∧ t2 + lsum L2 + 1 ≤ s + lsum L + 4 * e.2.2.1) ∨ (e.2.2.1 = 0 ∧ ∃ k, k < 14 + V ∧ TLn V t2 τ2 k r ∧ (12 + V ≤ k → r ≤ 1))) → K0 r τ2) : J ω m_Wo_truth d 0 0 0 0 0 [(0, .ref 49), (1, .int (zI 0))] [] τ (q_ki K0) := by
  have st := w1.1.2.2.2.2
  have we := w6.1
  have V12 := hc.2.2.1
  have z0 : (fun j => z τ 58 (0 + j)) = z τ 58 := funext fun j => by rw [Nat.zero_add]
  have wl : e.2.1.toNat - 1 ≤ 7 := by omega
  have tr : t + (e.2.1.toNat - 1) < 10240 := by
    by_cases c : e.2.2.1 = 0
    · omega
    · have := w6.2.2.2.2 c; omega
  rw [show zI 0 = zI ((0 : Nat) : Int) from rfl]
  refine k_truth (x1 := 0) (w := e.2.1.toNat) (B := 0) (a := 0) (π := τ) (sπ := t) hd (by omega) (by omega) (PO_refl w1) (by omega) (by rw [z0]; exact w4) tr (fun r τ2 t2 hp2 hx hb hl hR hv hf => ?_)
  rw [z0] at hR hv hf
  have G12 : GM s t2 σ τ2 := GM_tr (ME_WT w1).2.2 (ME_CX hx).2.2
  have fS := hp2.1.1.2.2.2.1
  have e61 : z τ2 61 = z σ 61 := fr_zF fS (by decide)
  have e62 : z τ2 62 = z σ 62 := fr_zF fS (by decide)
  have e64 : z τ2 64 = z σ 64 := fr_zF fS (by decide)
  have val : ∀ v, CSv t2 τ2 v → CSv s σ v ∧ lvb v r = decide (wth (IvN σ v) (UvN σ v) e.1 ≠ 0) := fun v cv => by
    obtain ⟨c1, ev⟩ := w5 v (CSv_2 cv hx)
    exact ⟨c1, by rw [hv v cv, EV_wth ev]⟩
  have cov : CovA V WI fm τ2 t2 L := CovA_mv V12 h.2.2.2.2.2.2.1 G12 (Nat.le_refl _) e61 (fun j _ => by rw [e62]) (fun j _ => by rw [e64])
  by_cases c : e.2.2.1 = 0
  · obtain ⟨it, q1, q2, q3, q4⟩ := w6.2.2.2.1 c
    obtain ⟨f3, f4, f5⟩ := w7 it q1
    have ts : t = s := by omega
    -- a row that is in the book, or known
    have nm : ∀ (g : Nat → Int) (k : Nat), (∀ j, j < 8 → z τ 58 j = g j) → Cov s σ L (it.2.2).toNat g → k < 12 + V → TLn V t2 τ2 k r → K0 r τ2 := by
      intro g k hg hcv hk hT
      rcases hcv with ⟨r0, k0⟩ | ⟨x, x1, x2, x3⟩
      · have : t2 = t := hf ⟨r0, RT8_cg (fun j hj => (hg j hj).symm) (by rw [ts]; exact RT8_GM k0 (by have := (ME_WT w1).2.2; rwa [ts] at this))⟩
        exact kk r τ2 t2 L hp2.1 hl val cov (by omega) (Or.inr ⟨c, k, by omega, hT, fun q => by omega⟩)
      · obtain ⟨L1, L2, el⟩ := List.append_of_mem x1
        have kg : KT8 t2 τ2 g := ⟨r, RT8_cg hg hR⟩
        have ls : lsum L = lsum (L1 ++ L2) + x.2 := by rw [el, lsum_app, lsum_app]; show lsum L1 + (x.2 + lsum L2) = _; omega
        rw [el] at cov
        refine kk r τ2 t2 (L1 ++ L2) hp2.1 hl val ⟨fun i a b => Cov_rm kg x2 (cov.1 i a b), fun i a => Cov_rm kg x2 (cov.2.1 i a), fun f i a b => Cov_rm kg x2 (cov.2.2 f i a b)⟩ ?_ (Or.inr ⟨c, k, by omega, hT, fun q => by omega⟩)
        rw [q4] at hb
        omega
    rcases (show it.1 = 23 ∨ it.1 = 24 ∨ it.1 = 25 by omega) with u | u | u
    · obtain ⟨r0, hr0, k0⟩ := RT8_num (s := t) (σ := τ) (f3 u)
      have e2 : t2 = t := hf ⟨r0, k0⟩
      have er : r = r0 := RT8_uq hx.2.1 (RT8_GM k0 (ME_CX hx).2.2) hR
      refine kk r τ2 t2 L hp2.1 hl val cov (by omega) (Or.inr ⟨c, 12 + V + r.toNat, by omega, ?_, fun _ => by omega⟩)
      rcases (show r = 0 ∨ r = 1 by omega) with q | q
      · rw [q]; exact Or.inr (Or.inr (Or.inl ⟨rfl, rfl⟩))
      · rw [q]; exact Or.inr (Or.inr (Or.inr ⟨by show 12 + V + 1 = 13 + V; omega, rfl⟩))
    · obtain ⟨i1, i2⟩ := q2.2.2.1 u
      have w8 := q2.1
      refine nm (fun j => z σ 61 (8 * it.2.1.toNat + j)) it.2.1.toNat (f4 u) ?_ (by omega) (Or.inl ⟨by omega, ?_⟩)
      · rw [i2]; exact h.2.2.2.2.2.2.1.1 _ (by omega) (by omega)
      · rw [e61]; exact RT8_cg (f4 u) hR
    · obtain ⟨i1, i2, i3⟩ := q2.2.2.2 u
      have w8 := q2.1
      refine nm (fun j => z σ 62 (8 * it.2.1.toNat + j)) (12 + it.2.1.toNat) (f5 u) ?_ (by omega) (Or.inr (Or.inl ⟨by omega, by omega, ?_⟩))
      · rcases h.2.2.2.2.2.2.1.2.1 it.2.1.toNat (by omega) with q | ⟨x, x1, x2, x3⟩
        · exact Or.inl q
        · exact Or.inr ⟨x, x1, x2, by omega⟩
      · rw [e62, show 12 + it.2.1.toNat - 12 = it.2.1.toNat by omega]; exact RT8_cg (f5 u) hR
  · have w5' := w6.2.2.2.2 c
    exact kk r τ2 t2 L hp2.1 hl val cov (by omega) (Or.inl ⟨by omega, by omega⟩)
end CoP
