/-! The reference's WORK of STATEMENTS -/
def wS (l : List q_St) : Prop := ∀ x, x ∈ l → wI x.2.2.2
theorem wS_app {a b : List q_St} : wS (a ++ b) ↔ wS a ∧ wS b := by
  unfold wS
  constructor
  · intro h; exact ⟨fun x hx => h x (List.mem_append.mpr (Or.inl hx)), fun x hx => h x (List.mem_append.mpr (Or.inr hx))⟩
  · intro h x hx
    rcases List.mem_append.mp hx with q | q
    · exact h.1 x q
    · exact h.2 x q
theorem wS_cons {a : q_St} {b : List q_St} : wS (a :: b) ↔ wI a.2.2.2 ∧ wS b := by
  unfold wS
  constructor
  · intro h; exact ⟨h a (by simp), fun x hx => h x (by simp [hx])⟩
  · intro h x hx
    rcases List.mem_cons.mp hx with q | q
    · rw [q]; exact h.1
    · exact h.2 x q
theorem cap8 {a b : Nat} : min (min a 1000000 + b) 1000000 = min (a + b) 1000000 := by omega
theorem cap_m {r a b V : Nat} : min (r * (min a 1000000 + min b 1000000 + 8 * V) + min a 1000000) 1000000 = min (r * (a + b + 8 * V) + a) 1000000 := by
  generalize hx : min a 1000000 + min b 1000000 + 8 * V = x
  generalize hy : a + b + 8 * V = y
  have hxy : x = y ∨ (1000000 ≤ x ∧ 1000000 ≤ y) := by omega
  rcases Nat.eq_zero_or_pos r with r0 | r0
  · subst r0; omega
  · rcases hxy with q | ⟨q1, q2⟩
    · subst q
      generalize r * x = rx
      omega
    · have a1 : 1000000 ≤ r * x := Nat.le_trans q1 (Nat.le_mul_of_pos_left x r0)
      have a2 : 1000000 ≤ r * y := Nat.le_trans q2 (Nat.le_mul_of_pos_left y r0)
      omega
def WO (ω : q_W) (Nt : Nat → q_It) (V s : Nat) (σ : q_H) (lo k : Nat) : Prop := ∀ (n i lp : Nat) (l : List q_St) (w d : Nat) (Kk : Int64 → q_H → Prop), NS Nt V s σ lo k n i lp l w → n ≤ 4096 → wS l → 3 * k + 780 ≤ d → (∀ v : Int64, v.toInt = ((min w 1000000 : Nat) : Int) → Kk v σ) → J ω m_M_workOfOne d 0 0 0 0 0 [(0, .ref 94), (1, .int (zI (n : Int)))] [] σ (q_kl Kk)
section WnP
variable {ω : q_W} {Nt : Nat → q_It} {V s lo : Nat} {σ : q_H}
theorem k_all {k : Nat} {Kk : Int64 → q_H → Prop} {lp d : Nat} (wo : WO ω Nt V s σ lo k) (hq : RQ s σ) (hd : 3 * k + 781 ≤ d) : ∀ (ns : List Nat) (i : Nat) (l : List q_St) (w : Nat) (f : Int) (S : Nat) (x2 : Int64), (∀ y, y ∈ ns → y ≤ 4096) → lnk (z σ (s + 4)) ns f → NSs (fun m i l w => NS Nt V s σ lo k m i lp l w) ns i l w → wS l → x2.toInt = ((min S 1000000 : Nat) : Int) → (∀ v : Int64, v.toInt = ((min (S + w) 1000000 : Nat) : Int) → Kk v σ) → J ω m_M_workOfAll (d + 1) 0 0 0 0 5 [(0, .ref 94), (2, .long x2), (4, .int (zI f))] [] σ (q_kl Kk) := by
  obtain ⟨⟨hs, r0, r1, r2, r3, r4, r5⟩, hE⟩ := id hq
  intro ns
  induction ns with
  | nil =>
    intro i l w f S x2 _ hl hn _ hS kk
    have hf : f = -1 := hl
    obtain ⟨-, hw⟩ := hn
    subst hf hw
    exact b_M_workOfAll_5 hs r0 r1 r2 r3 r4 r5 hE ⟨⟨by decide, by decide⟩, fun _ => ⟨_, rfl, kk x2 hS⟩, fun c => absurd c (by decide)⟩
  | cons n ns ih =>
    intro i l w f S x2 hb hl hn hw hS kk
    obtain ⟨hf, hl⟩ := hl
    obtain ⟨l1, w1, l2, w2, g1, g2, g3, g4⟩ := hn
    subst hf g3 g4
    have nb := hb n (by simp)
    obtain ⟨hw1, hw2⟩ := wS_app.mp hw
    refine b_M_workOfAll_5 hs r0 r1 r2 r3 r4 r5 hE ⟨⟨by omega, by omega⟩, fun c => absurd c (by omega), fun _ => wo n i lp l1 w1 d _ g1 nb hw1 (by omega) (fun v hv => ?_)⟩
    refine b_M_workOfAll_17 hs r0 r1 r2 r3 r4 r5 hE (k_most (by omega) hE (l_add hS hv (by omega)) (fun v2 hv2 => ?_))
    refine b_M_workOfAll_21 hs r0 r1 r2 r3 r4 r5 hE ⟨⟨by omega, by omega⟩, ?_⟩
    rw [Int.toNat_natCast]
    refine ih (i + l1.length) l2 w2 _ (S + w1) v2 (fun y hy => hb y (by simp [hy])) hl g2 hw2 (by rw [hv2]; omega) (fun v3 hv3 => kk v3 ?_)
    rw [hv3]; omega
/-- WORK of STATEMENTS that follow each other -/
theorem k_workOfAll {k : Nat} {Kk : Int64 → q_H → Prop} {lp d i w : Nat} {ns : List Nat} {l : List q_St} {f : Int} (wo : WO ω Nt V s σ lo k) (hq : RQ s σ) (hd : 3 * k + 782 ≤ d) (hb : ∀ y, y ∈ ns → y ≤ 4096) (hl : lnk (z σ (s + 4)) ns f) (hn : NSs (fun m i l w => NS Nt V s σ lo k m i lp l w) ns i l w) (hw : wS l) (kk : ∀ v : Int64, v.toInt = ((min w 1000000 : Nat) : Int) → Kk v σ) : J ω m_M_workOfAll d 0 0 0 0 0 [(0, .ref 94), (1, .int (zI f))] [] σ (q_kl Kk) := by
  obtain ⟨d, rfl⟩ : ∃ k, d = k + 1 := ⟨d - 1, by omega⟩
  obtain ⟨⟨hs, r0, r1, r2, r3, r4, r5⟩, hE⟩ := id hq
  refine b_M_workOfAll_0 hs r0 r1 r2 r3 r4 r5 hE (k_all wo hq (by omega) ns i l w f 0 0 hb hl hn hw (by decide) (fun v hv => kk v ?_))
  rw [hv, Nat.zero_add]
theorem k_workOfOne (hq : RQ s σ) (hV : z σ 94 19 = (V : Int)) (hV12 : V ≤ 12) (k : Nat) : WO ω Nt V s σ lo k := by
  obtain ⟨⟨hs, r0, r1, r2, r3, r4, r5⟩, hE⟩ := id hq
  have eV : ((zI (z σ 94 19)).toInt64).toInt = ((V : Nat) : Int) := by rw [hV, l_of ⟨by omega, by omega⟩]; omega
  have e8 : (8 : Int64).toInt = ((8 : Nat) : Int) := by decide
  have e8V := l_mul e8 eV (by omega)
  induction k with
  | zero => intro n i lp l w d Kk h; exact False.elim h
  | succ k ih =>
    intro n i lp l w d Kk h nb hw hd kk
    obtain ⟨d, rfl⟩ : ∃ k, d = k + 1 := ⟨d - 1, by omega⟩
    refine b_M_workOfOne_0 hs r0 r1 r2 r3 r4 r5 hE ?_
    rw [Int.toNat_natCast]
    refine ⟨⟨by omega, by omega⟩, ?_⟩
    have wk : WX ω s n σ 384 := k_workOf hq (by omega) 384
    rcases h with ⟨x, e, t, h1, h2, h3, h4, h5, h6⟩ | ⟨x, e, h1, h2, h3, h4, h5⟩ | ⟨x, e, b, l1, w1, h1, h2, h3, h4, h5, h6, h7, h8, h9⟩ | ⟨x, e, b, l1, w1, c, l2, w2, h1, h2, h3, h4, h5, h6, h7, h8, h9, h10, h11⟩ | ⟨x, e, b, l1, w1, h1, h2, h3, h4, h5, h6, h7, h8, h9⟩ | ⟨ns, h1, h2, h3, h4⟩
    · rw [h1, h2]
      refine ⟨fun q => absurd q (by decide), fun q => absurd q (by decide), fun q => absurd q (by decide), fun _ => ?_, fun q => absurd rfl q.2.2.2⟩
      subst h5 h6
      have we := (wS_cons.mp hw).1
      refine wk x e d _ h3 we (by omega) (fun v hv => b_M_workOfOne_69 hs r0 r1 r2 r3 r4 r5 hE (k_most (by omega) hE (l_add hv e8 (by omega)) (fun v2 hv2 => b_M_workOfOne_76 hs r0 r1 r2 r3 r4 r5 hE ⟨_, rfl, kk v2 ?_⟩)))
      rw [hv2, cap8]
    · rw [h2]
      refine ⟨fun q => absurd q (by omega), fun q => absurd q (by omega), fun q => absurd q (by omega), fun q => absurd q (by omega), fun _ => ?_⟩
      subst h4 h5
      have we := (wS_cons.mp hw).1
      refine wk x e d _ h3 we (by omega) (fun v hv => b_M_workOfOne_200 hs r0 r1 r2 r3 r4 r5 hE (k_most (by omega) hE (l_add hv e8 (by omega)) (fun v2 hv2 => b_M_workOfOne_207 hs r0 r1 r2 r3 r4 r5 hE ⟨_, rfl, kk v2 ?_⟩)))
      rw [hv2, cap8]
    · rw [h1, h2]
      refine ⟨fun _ => ?_, fun q => absurd q (by decide), fun q => absurd q (by decide), fun q => absurd q (by decide), fun q => absurd rfl q.1⟩
      subst h8 h9
      obtain ⟨we, hw2⟩ := wS_cons.mp hw
      obtain ⟨hw1, -⟩ := wS_app.mp hw2
      refine wk x e d _ h3 we (by omega) (fun v hv => b_M_workOfOne_87 hs r0 r1 r2 r3 r4 r5 hE ⟨⟨by omega, by omega⟩, ?_⟩)
      rw [Int.toNat_natCast, h4]
      refine ih b (i + 1) lp l1 w1 d _ h6 (by omega) hw1 (by omega) (fun v2 hv2 => b_M_workOfOne_97 hs r0 r1 r2 r3 r4 r5 hE ⟨⟨by omega, by omega⟩, ?_⟩)
      rw [Int.toNat_natCast, h7]
      refine ⟨fun q => absurd q (by decide), fun _ => b_M_workOfOne_121 hs r0 r1 r2 r3 r4 r5 hE ?_⟩
      have e0 : (0 : Int64).toInt = ((0 : Nat) : Int) := by decide
      refine k_most (by omega) hE (l_add (l_add (l_add hv hv2 (by omega)) e0 (by omega)) e8V (by omega)) (fun v3 hv3 => b_M_workOfOne_135 hs r0 r1 r2 r3 r4 r5 hE ⟨_, rfl, kk v3 ?_⟩)
      rw [hv3]; omega
    · rw [h1, h2]
      refine ⟨fun _ => ?_, fun q => absurd q (by decide), fun q => absurd q (by decide), fun q => absurd q (by decide), fun q => absurd rfl q.1⟩
      subst h10 h11
      obtain ⟨we, hw2⟩ := wS_cons.mp hw
      obtain ⟨hw1, hw3⟩ := wS_app.mp hw2
      obtain ⟨-, hw4⟩ := wS_cons.mp hw3
      obtain ⟨hw5, -⟩ := wS_app.mp hw4
      refine wk x e d _ h3 we (by omega) (fun v hv => b_M_workOfOne_87 hs r0 r1 r2 r3 r4 r5 hE ⟨⟨by omega, by omega⟩, ?_⟩)
      rw [Int.toNat_natCast, h4]
      refine ih b (i + 1) lp l1 w1 d _ h6 (by omega) hw1 (by omega) (fun v2 hv2 => b_M_workOfOne_97 hs r0 r1 r2 r3 r4 r5 hE ⟨⟨by omega, by omega⟩, ?_⟩)
      rw [Int.toNat_natCast, h7]
      refine ⟨fun _ => ?_, fun q => absurd q (by omega)⟩
      refine ih c _ lp l2 w2 d _ h9 (by omega) hw5 (by omega) (fun v3 hv3 => b_M_workOfOne_121 hs r0 r1 r2 r3 r4 r5 hE ?_)
      refine k_most (by omega) hE (l_add (l_add (l_add hv hv2 (by omega)) hv3 (by omega)) e8V (by omega)) (fun v4 hv4 => b_M_workOfOne_135 hs r0 r1 r2 r3 r4 r5 hE ⟨_, rfl, kk v4 ?_⟩)
      rw [hv4]; omega
    · rw [h1, h2]
      refine ⟨fun q => absurd q (by decide), fun _ => ?_, fun q => absurd q (by decide), fun q => absurd q (by decide), fun q => absurd rfl q.2.1⟩
      subst h8
      obtain ⟨-, hw0⟩ := wS_cons.mp hw
      obtain ⟨we, hw2⟩ := wS_cons.mp hw0
      obtain ⟨hw1, -⟩ := wS_app.mp hw2
      have ec := l_of (x := z σ (s + 3) n) ⟨h7.1, by omega⟩
      refine wk x e d _ h3 we (by omega) (fun v hv => b_M_workOfOne_153 hs r0 r1 r2 r3 r4 r5 hE ⟨⟨by omega, by omega⟩, ?_⟩)
      rw [Int.toNat_natCast, h4]
      refine ih b (i + 2) (lp + 1) l1 w1 d _ h6 (by omega) hw1 (by omega) (fun v2 hv2 => b_M_workOfOne_163 hs r0 r1 r2 r3 r4 r5 hE ⟨⟨by omega, by omega⟩, ?_⟩)
      rw [Int.toNat_natCast, h2]
      have hsum := l_add (l_add hv hv2 (by omega)) e8V (by omega)
      have hc8 : (z σ (s + 3) n).toNat ≤ 8 := by omega
      have hbd : (z σ (s + 3) n).toNat * (min e.2.2.1 1000000 + min w1 1000000 + 8 * V) ≤ 8 * 3000000 := Nat.mul_le_mul hc8 (by omega)
      have hmul := l_mul ec hsum (by omega)
      refine wk x e d _ h3 we (by omega) (fun v3 hv3 => b_M_workOfOne_185 hs r0 r1 r2 r3 r4 r5 hE (k_most (by omega) hE (l_add hmul hv3 (by omega)) (fun v4 hv4 => b_M_workOfOne_189 hs r0 r1 r2 r3 r4 r5 hE ⟨_, rfl, kk v4 ?_⟩)))
      rw [hv4, cap_m, h9]
    · rw [h1]
      refine ⟨fun q => absurd q (by decide), fun q => absurd q (by decide), fun _ => ?_, fun q => absurd q (by decide), fun q => absurd rfl q.2.2.1⟩
      exact k_workOfAll ih hq (by omega) (fun y hy => by have := h2 y hy; omega) h3 h4 hw (fun v hv => b_M_workOfOne_58 hs r0 r1 r2 r3 r4 r5 hE ⟨_, rfl, kk v hv⟩)
end WnP
