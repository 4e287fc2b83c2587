/-! THE TRAIL goes back; assign and backTo -/
section SbP
variable {s ts lv : Nat} {M M' : Nat → Int} {cs cs' : List Nat} {V V' L Rs T St : Nat → Int}
theorem St_lt (h : TRp s ts lv M cs V L Rs T St) {a : Nat} (ha : 1 ≤ a) : ∀ b, a < b → b ≤ lv → St a < St b := by
  intro b
  induction b with
  | zero => intro h1 _; omega
  | succ b ih =>
    intro h1 h2
    have g := h.2.2.2.2.2.1 b (by omega) (by omega)
    by_cases c : a = b
    · rw [c]; exact g
    · have := ih (by omega) (by omega); omega
theorem TR_back {k0 : Nat} (h : TRp s ts lv M cs V L Rs T St) (hk : k0 < lv) (hv0 : ∀ i, (St (k0 + 1)).toNat ≤ i → i < ts → V' (T i).toNat = 0 ∧ V' (ng (T i)).toNat = 0) (hv1 : ∀ l : Nat, (∀ i, (St (k0 + 1)).toNat ≤ i → i < ts → (l : Int) ≠ T i ∧ (l : Int) ≠ ng (T i)) → V' l = V l) : TRp s (St (k0 + 1)).toNat k0 M cs V' L Rs T St := by
  obtain ⟨a, b, c, e, f, g, p, q⟩ := id h
  obtain ⟨f1, f2, f3⟩ := f (k0 + 1) (by omega) (by omega)
  have keepV : ∀ (l : Nat) (i : Nat), i < (St (k0 + 1)).toNat → T i / 2 = (l : Int) / 2 → V' l = V l := by
    intro l i hi e2
    refine hv1 l (fun j h1 h2 => ?_)
    have := b i j (by omega) h2
    have h3 := ng_2 (T j)
    omega
  refine ⟨fun i hi => ?_, fun i j h1 h2 => b i j h1 (by omega), fun l hl => ?_, fun i hi => ?_, fun k h1 h2 => ?_, fun k h1 h2 => g k h1 (by omega), fun i hi => p i (by omega), fun i hi h1 => q i (by omega) h1⟩
  · obtain ⟨a1, a2, a3⟩ := a i (by omega)
    have n0 := (ng_lit a1).1
    refine ⟨a1, ?_, ?_⟩
    · rw [keepV (T i).toNat i hi (by have := a1.1; omega)]; exact a2
    · rw [keepV (ng (T i)).toNat i hi (by have := ng_2 (T i); omega)]; exact a3
  · rcases c l hl with e1 | ⟨e1, i, hi, e2⟩
    · left
      by_cases c2 : ∃ i, (St (k0 + 1)).toNat ≤ i ∧ i < ts ∧ ((l : Int) = T i ∨ (l : Int) = ng (T i))
      · obtain ⟨i, h1, h2, h3⟩ := c2
        have := hv0 i h1 h2
        rcases h3 with h3 | h3
        · rw [show l = (T i).toNat by omega]; exact this.1
        · rw [show l = (ng (T i)).toNat by omega]; exact this.2
      · rw [hv1 l (fun i h1 h2 => ⟨fun e3 => c2 ⟨i, h1, h2, Or.inl e3⟩, fun e3 => c2 ⟨i, h1, h2, Or.inr e3⟩⟩)]; exact e1
    · by_cases c2 : i < (St (k0 + 1)).toNat
      · rw [keepV l i c2 e2]; exact Or.inr ⟨e1, i, c2, e2⟩
      · left
        have := hv0 i (by omega) hi
        rcases ng_or e2.symm with e3 | e3
        · rw [show l = (T i).toNat by omega]; exact this.1
        · rw [show l = (ng (T i)).toNat by omega]; exact this.2
  · have := f3 i (by omega)
    have := (e i (by omega)).1
    omega
  · obtain ⟨g1, g2, g3⟩ := f k h1 (by omega)
    have := St_lt h h1 (k0 + 1) (by omega) (by omega)
    exact ⟨g1, by omega, fun i hi => g3 i (by omega)⟩
/-- clauses may move their literals, and be more -/
theorem TR_cl (h : TRp s ts lv M cs V L Rs T St) (hs : ∀ c ∈ cs, c ∈ cs' ∧ ∀ x, inC M' c x ↔ inC M c x) : TRp s ts lv M' cs' V L Rs T St := by
  obtain ⟨a, b, c, e, f, g, p, q⟩ := h
  refine ⟨a, b, c, e, f, g, fun i hi => ?_, q⟩
  rcases p i hi with e1 | ⟨c1, m1, e1, i1, o1, o2⟩
  · exact Or.inl e1
  · refine Or.inr ⟨c1, (hs c1 m1).1, e1, ((hs c1 m1).2 _).mpr i1, fun x hx hne => o1 x (((hs c1 m1).2 x).mp hx) hne, fun h1 => ?_⟩
    obtain ⟨y, hy, hyx, ey⟩ := o2 h1
    exact ⟨y, ((hs c1 m1).2 y).mpr hy, hyx, ey⟩
end SbP
section SbJ
variable {ω : q_W} {d s : Nat} {σ : q_H}
theorem gt_sh {x : Int} (hs : s ≤ 10240) (h : lit s x) : (zShr x 1).toNat = gt x ∧ 0 ≤ zShr x 1 ∧ zShr x 1 < 10240 := by
  have h0 := h.1
  have h1 := h.2
  rw [zShr_1 ⟨by omega, by omega⟩]
  exact ⟨rfl, by omega, by omega⟩
theorem s_assign {K : q_H → Prop} {x r : Int} {ts : Nat} (hE : q_E σ) (hs : s ≤ 10240) (hx : lit s x) (ir : inR r) (ht : z σ 70 6 = (ts : Int)) (hts : ts < 10240) (kk : ∀ τ, fr [70, 78, 79, 80, 81] σ τ → z τ 78 = up (up (z σ 78) x.toNat 1) (ng x).toNat (-1) → z τ 79 = up (z σ 79) (gt x) (z σ 70 10) → z τ 80 = up (z σ 80) (gt x) r → z τ 81 = up (z σ 81) ts x → z τ 70 6 = (ts : Int) + 1 → (∀ k, k ≠ 6 → z τ 70 k = z σ 70 k) → K τ) : J ω m_So_assign d 0 0 0 0 0 [(0, .ref 70), (1, .int (zI x)), (2, .int (zI r))] [] σ (q_kv K) := by
  obtain ⟨g1, g2, g3⟩ := gt_sh hs hx
  have hn := ng_lit hx
  have i1 := lit_R hs hx
  refine b_So_assign_0 hE ?_
  rw [zX_ng hs hx, g1, ht, Int.toNat_natCast]
  refine ⟨⟨hx.1, by have := hx.2; omega⟩, ⟨hn.1, by have := hn.2; omega⟩, ⟨g2, g3⟩, ⟨by omega, by omega⟩, rfl, kk _ (fr_s (fr_s (fr_s (fr_s (fr_s (fr_s fr_refl (by simp)) (by simp)) (by simp)) (by simp)) (by simp)) (by simp)) ?_ ?_ ?_ ?_ ?_ (fun k hk => ?_)⟩
  · rw [z_oF (by decide), z_oF (by decide), z_oF (by decide), z_oF (by decide), z_up ⟨by decide, by decide⟩, z_up ⟨by decide, by decide⟩]
  · rw [z_oF (by decide), z_oF (by decide), z_oF (by decide), z_up (z_R _ _ _), z_oF (by decide), z_oF (by decide)]
  · rw [z_oF (by decide), z_oF (by decide), z_up ir, z_oF (by decide), z_oF (by decide), z_oF (by decide)]
  · rw [z_oF (by decide), z_up i1, z_oF (by decide), z_oF (by decide), z_oF (by decide), z_oF (by decide)]
  · rw [z_s ⟨by omega, by omega⟩]
  · rw [z_k hk, z_o (by decide), z_o (by decide), z_o (by decide), z_o (by decide), z_o (by decide)]
/-- the trail in the heap -/
def TX (s ts lv : Nat) (cs : List Nat) (σ : q_H) : Prop := z σ 70 6 = (ts : Int) ∧ z σ 70 10 = (lv : Int) ∧ lv ≤ 12 ∧ TRp s ts lv (z σ 72) cs (z σ 78) (z σ 79) (z σ 80) (z σ 81) (z σ 82)
theorem s_backTo {K : q_H → Prop} {ts lv k0 : Nat} {cs : List Nat} (hE : q_E σ) (hs : s ≤ 10240) (h : TX s ts lv cs σ) (hk0 : inR (k0 : Int)) (h0 : lv ≤ k0 → K σ)
    (kk : k0 < lv → ∀ (τ : q_H) (ts' : Nat), (ts' : Int) = z σ 82 (k0 + 1) → ts' < ts → fr [70, 78] σ τ → TX s ts' k0 cs τ → z τ 70 7 = (ts' : Int) → (∀ k, k ≠ 6 → k ≠ 7 → k ≠ 10 → z τ 70 k = z σ 70 k) → (∀ l : Nat, z τ 78 l = z σ 78 l ∨ (z τ 78 l = 0 ∧ ∃ i : Nat, ts' ≤ i ∧ i < ts ∧ z σ 81 i / 2 = (l : Int) / 2)) → (∀ i : Nat, ts' ≤ i → i < ts → z τ 78 (z σ 81 i).toNat = 0 ∧ z τ 78 (ng (z σ 81 i)).toNat = 0) → K τ) : J ω m_So_backTo d 0 0 0 0 0 [(0, .ref 70), (1, .int (zI (k0 : Int)))] [] σ (q_kv K) := by
  obtain ⟨t6, t10, h12, hT⟩ := id h
  refine b_So_backTo_0 hE ?_
  rw [t10]
  by_cases c : lv ≤ k0
  · exact ⟨hk0, fun c2 => absurd c2 (by omega), fun _ => ⟨rfl, h0 c⟩⟩
  · refine ⟨⟨by omega, by omega⟩, fun _ => ⟨⟨by omega, by omega⟩, ?_⟩, fun c2 => absurd c2 (by omega)⟩
    rw [show ((k0 : Int) + 1).toNat = k0 + 1 by omega]
    obtain ⟨f1, f2, f3⟩ := hT.2.2.2.2.1 (k0 + 1) (by omega) (by omega)
    have hlen := TR_len hT
    obtain ⟨t', ht'⟩ : ∃ t' : Nat, z σ 82 (k0 + 1) = (t' : Int) := ⟨(z σ 82 (k0 + 1)).toNat, by omega⟩
    rw [ht'] at f1 f2 f3 ⊢
    have l : ∀ (m i : Nat) (ρ : q_H), ts ≤ i + m → t' ≤ i → i ≤ ts → fr [78] σ ρ → (∀ j, t' ≤ j → j < i → z ρ 78 (z σ 81 j).toNat = 0 ∧ z ρ 78 (ng (z σ 81 j)).toNat = 0) → (∀ q : Nat, (∀ j, t' ≤ j → j < i → (q : Int) ≠ z σ 81 j ∧ (q : Int) ≠ ng (z σ 81 j)) → z ρ 78 q = z σ 78 q) → J ω m_So_backTo d 0 0 0 0 20 [(0, .ref 70), (1, .int (zI (k0 : Int))), (2, .int (zI (t' : Int))), (3, .int (zI (i : Int)))] [] ρ (q_kv K) := by
      intro m
      have out : ∀ (i : Nat) (ρ : q_H), ts ≤ i → i ≤ ts → fr [78] σ ρ → (∀ j, t' ≤ j → j < i → z ρ 78 (z σ 81 j).toNat = 0 ∧ z ρ 78 (ng (z σ 81 j)).toNat = 0) → (∀ q : Nat, (∀ j, t' ≤ j → j < i → (q : Int) ≠ z σ 81 j ∧ (q : Int) ≠ ng (z σ 81 j)) → z ρ 78 q = z σ 78 q) → q_kv K (.inl none) (zs (zs (zs ρ 70 6 (t' : Int)) 70 7 (t' : Int)) 70 10 (k0 : Int)) := by
        intro i ρ h1 h2 f z0 z1
        have e : i = ts := by omega
        subst e
        have u : ∀ a, a ≠ 70 → z (zs (zs (zs ρ 70 6 (t' : Int)) 70 7 (t' : Int)) 70 10 (k0 : Int)) a = z ρ a := fun a h => by rw [z_oF h, z_oF h, z_oF h]
        have u78 := u 78 (by decide)
        refine ⟨rfl, kk (by omega) _ t' ht'.symm (by omega) (fr_s (fr_s (fr_s (fr_mono f (by simp)) (by simp)) (by simp)) (by simp)) ⟨?_, ?_, by omega, ?_⟩ ?_ (fun k q1 q2 q3 => ?_) (fun q => ?_) (fun j h3 h4 => by rw [u78]; exact z0 j h3 h4)⟩
        · rw [z_k (by decide), z_k (by decide), z_s ⟨by omega, by omega⟩]
        · rw [z_s ⟨by omega, by omega⟩]
        · rw [u 72 (by decide), u78, u 79 (by decide), u 80 (by decide), u 81 (by decide), u 82 (by decide), fr_zF f (show (72 : Nat) ∉ [78] by decide), fr_zF f (show (79 : Nat) ∉ [78] by decide), fr_zF f (show (80 : Nat) ∉ [78] by decide), fr_zF f (show (81 : Nat) ∉ [78] by decide), fr_zF f (show (82 : Nat) ∉ [78] by decide)]
          have := TR_back (V' := z ρ 78) hT (show k0 < lv by omega)
          rw [ht', Int.toNat_natCast] at this
          exact this z0 z1
        · rw [z_k (by decide), z_s ⟨by omega, by omega⟩]
        · rw [z_k q3, z_k q2, z_k q1, fr_zF f (by decide)]
        · rw [u78]
          by_cases c2 : ∃ j, t' ≤ j ∧ j < i ∧ ((q : Int) = z σ 81 j ∨ (q : Int) = ng (z σ 81 j))
          · obtain ⟨j, h3, h4, h5⟩ := c2
            have := z0 j h3 h4
            refine Or.inr ⟨?_, j, h3, h4, ?_⟩
            · rcases h5 with h5 | h5
              · rw [show q = (z σ 81 j).toNat by omega]; exact this.1
              · rw [show q = (ng (z σ 81 j)).toNat by omega]; exact this.2
            · have := ng_2 (z σ 81 j)
              rcases h5 with h5 | h5
              · rw [h5]
              · rw [h5, this]
          · exact Or.inl (z1 q (fun j h3 h4 => ⟨fun e => c2 ⟨j, h3, h4, Or.inl e⟩, fun e => c2 ⟨j, h3, h4, Or.inr e⟩⟩))
      induction m with
      | zero =>
        intro i ρ h1 h2 h3 f z0 z1
        refine b_So_backTo_20 (fr_E f hE) ?_
        rw [fr_zF f (by decide), t6]
        exact ⟨⟨by omega, by omega⟩, fun _ => out i ρ (by omega) h3 f z0 z1, fun c => absurd c (by omega)⟩
      | succ m ih =>
        intro i ρ h1 h2 h3 f z0 z1
        refine b_So_backTo_20 (fr_E f hE) ?_
        rw [fr_zF f (show (70 : Nat) ∉ [78] by decide), t6, fr_zF f (show (81 : Nat) ∉ [78] by decide), Int.toNat_natCast]
        refine ⟨⟨by omega, by omega⟩, fun _ => out i ρ (by omega) h3 f z0 z1, fun ci => ?_⟩
        have hl := (hT.1 i (by omega)).1
        have hn := ng_lit hl
        have hl0 := hl.1
        have hn0 := hn.1
        rw [zX_ng hs hl]
        refine ⟨⟨by omega, by omega⟩, ⟨hl.1, by have := hl.2; omega⟩, ⟨hn.1, by have := hn.2; omega⟩, ih (i + 1) _ (by omega) (by omega) (by omega) (fr_s (fr_s f (by simp)) (by simp)) (fun j h4 h5 => ?_) (fun q hq => ?_)⟩
        · by_cases c2 : j = i
          · subst c2
            have hne := ng_ne (z σ 81 j)
            refine ⟨?_, z_s ⟨by decide, by decide⟩⟩
            rw [z_k (by omega), z_s ⟨by decide, by decide⟩]
          · have o := z0 j h4 (by omega)
            have g1 : ∀ q : Nat, z ρ 78 q = 0 → z (zs (zs ρ 78 (z σ 81 i).toNat 0) 78 (ng (z σ 81 i)).toNat 0) 78 q = 0 := fun q hq => by
              rw [z_if ⟨by decide, by decide⟩, z_if ⟨by decide, by decide⟩]
              split
              · rfl
              · split
                · rfl
                · exact hq
            exact ⟨g1 _ o.1, g1 _ o.2⟩
        · have o := hq i h2 (by omega)
          rw [z_k (by omega), z_k (by omega)]
          exact z1 q (fun j h4 h5 => hq j h4 (by omega))
    exact l ts t' σ (by omega) (Nat.le_refl _) (by omega) fr_refl (fun j h4 h5 => absurd h5 (by omega)) (fun q _ => rfl)
end SbJ
