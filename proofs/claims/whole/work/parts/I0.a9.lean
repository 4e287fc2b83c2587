/-! CLAUSES: what they say; values of all gates, once those of the wishes stand -/
def satL (l : List Int) (v : Nat → Bool) : Prop := ∃ x, x ∈ l ∧ lvb v x = true
def unL (V : Nat → Int) (l : List Int) : Prop := ∀ y, y ∈ l → (∀ x, x ∈ l → x ≠ y → V x.toNat = -1) → V y.toNat = 1
theorem sat_3 {v : Nat → Bool} {a b c : Int} (hc : c ≠ 0) : satL (pl3 a b c) v ↔ lvb v a = true ∨ lvb v b = true ∨ lvb v c = true := by
  unfold satL pl3
  rw [if_neg hc]
  simp
theorem sat_2 {v : Nat → Bool} {a b : Int} : satL (pl3 a b 0) v ↔ lvb v a = true ∨ lvb v b = true := by
  unfold satL pl3
  rw [if_pos rfl]
  simp
theorem un_3 {V : Nat → Int} {a b c : Int} (h : unL V (pl3 a b c)) (hb : V b.toNat = -1) (hc : c ≠ 0 → V c.toNat = -1) : V a.toNat = 1 := by
  refine h a (List.mem_cons_self ..) (fun x hx ne => ?_)
  rcases List.mem_cons.mp hx with q | hx
  · exact absurd q ne
  · rcases List.mem_cons.mp hx with q | hx
    · rw [q]; exact hb
    · by_cases c0 : c = 0
      · rw [if_pos c0] at hx; exact absurd hx (by simp)
      · rw [if_neg c0] at hx
        rw [List.mem_singleton.mp hx]; exact hc c0
/-- a gate's clauses say what it is -/
theorem gcl_sem {v : Nat → Bool} {g s : Nat} {k a b c : Int} (hs : s ≤ 10240) (hg : 1 ≤ g ∧ g < s) (hk : 1 ≤ k ∧ k ≤ 3) (ha : 2 ≤ a ∧ lit s a) (hb : 2 ≤ b ∧ lit s b) (hc : k = 3 → 2 ≤ c ∧ lit s c) : (∀ l ∈ gcl k (2 * (g : Int)) a b c, satL l v) ↔ v g = gvb k (lvb v a) (lvb v b) (lvb v c) := by
  have o0 : lvb v (2 * (g : Int)) = v g := lvb_g g
  have o1 : lvb v (2 * (g : Int) + 1) = !v g := by
    have := lvb_ng (v := v) (x := 2 * (g : Int)) (by omega)
    unfold ng at this
    rw [show 2 * (g : Int) + 1 - 2 * (2 * (g : Int) % 2) = 2 * (g : Int) + 1 by omega, o0] at this
    exact this
  have a1 : lvb v (zXor a 1) = !lvb v a := by rw [zX_ng hs ha.2, lvb_ng ha.2.1]
  have b1 : lvb v (zXor b 1) = !lvb v b := by rw [zX_ng hs hb.2, lvb_ng hb.2.1]
  have b0 : zXor b 1 ≠ 0 := by rw [zX_ng hs hb.2]; unfold ng; omega
  unfold gcl gvb
  rcases (show k = 1 ∨ k = 2 ∨ k = 3 by omega) with q | q | q
  · subst q
    rw [if_pos rfl, if_pos rfl]
    simp only [List.mem_cons, List.mem_nil_iff, or_false, forall_eq_or_imp, forall_eq]
    rw [sat_3 b0, sat_2, sat_2, o0, o1, a1, b1]
    cases v g <;> cases lvb v a <;> cases lvb v b <;> decide
  · subst q
    rw [if_neg (by decide), if_pos rfl, if_neg (by decide), if_pos rfl]
    simp only [List.mem_cons, List.mem_nil_iff, or_false, forall_eq_or_imp, forall_eq]
    rw [sat_3 b0, sat_3 (by omega), sat_3 b0, sat_3 (by omega), o0, o1, a1, b1]
    cases v g <;> cases lvb v a <;> cases lvb v b <;> decide
  · subst q
    obtain ⟨c2, lc⟩ := hc rfl
    have c1 : lvb v (zXor c 1) = !lvb v c := by rw [zX_ng hs lc, lvb_ng lc.1]
    have c0 : zXor c 1 ≠ 0 := by rw [zX_ng hs lc]; unfold ng; omega
    rw [if_neg (by decide), if_neg (by decide), if_pos rfl, if_neg (by decide), if_neg (by decide)]
    simp only [List.mem_cons, List.mem_nil_iff, or_false, forall_eq_or_imp, forall_eq]
    rw [sat_3 (by omega), sat_3 c0, sat_3 (by omega), sat_3 b0, o0, o1, a1, b1, c1]
    cases v g <;> cases lvb v a <;> cases lvb v b <;> cases lvb v c <;> decide
theorem V_3 {s : Nat} {V : Nat → Int} {x : Int} (ht : tri s V) (lx : lit s x) (h : V x.toNat ≠ 0) : (V x.toNat = 1 ∧ V (ng x).toNat = -1) ∨ (V x.toNat = -1 ∧ V (ng x).toNat = 1) := by
  have l0 := lx.1
  have l1 := lx.2
  rcases ht.1 x.toNat (by omega) with q | q | q
  · exact absurd q h
  · exact Or.inl ⟨q, (ht.2 x lx).1 q⟩
  · exact Or.inr ⟨q, (ht.2 x lx).2 q⟩
theorem V_gt2 {s : Nat} {V : Nat → Int} {x : Int} (ht : tri s V) (lx : lit s x) (h : V x.toNat ≠ 0) : V (2 * gt x) ≠ 0 := by
  have l0 := lx.1
  have e : x = 2 * (gt x : Int) ∨ ng x = 2 * (gt x : Int) := by unfold gt ng; omega
  rcases V_3 ht lx h with ⟨q1, q2⟩ | ⟨q1, q2⟩ <;> rcases e with e | e
  · rw [show 2 * gt x = x.toNat by omega, q1]; decide
  · rw [show 2 * gt x = (ng x).toNat by omega, q2]; decide
  · rw [show 2 * gt x = x.toNat by omega, q1]; decide
  · rw [show 2 * gt x = (ng x).toNat by omega, q2]; decide
/-- a gate has a value once what it is made of has -/
theorem gcl_val {V : Nat → Int} {g s : Nat} {k a b c : Int} (hs : s ≤ 10240) (ht : tri s V) (hg : 1 ≤ g ∧ g < s) (hk : 1 ≤ k ∧ k ≤ 3) (ha : 2 ≤ a ∧ lit s a) (hb : 2 ≤ b ∧ lit s b) (hc : k = 3 → 2 ≤ c ∧ lit s c) (hu : ∀ l ∈ gcl k (2 * (g : Int)) a b c, unL V l) (va : V a.toNat ≠ 0) (vb : V b.toNat ≠ 0) (vc : k = 3 → V c.toNat ≠ 0) : V (2 * g) ≠ 0 := by
  have lo : lit s (2 * (g : Int)) := ⟨by omega, by omega⟩
  have en : ng (2 * (g : Int)) = 2 * (g : Int) + 1 := by unfold ng; omega
  have pos : V (2 * (g : Int)).toNat = 1 → V (2 * g) ≠ 0 := fun q => by rw [show 2 * g = (2 * (g : Int)).toNat by omega, q]; decide
  have neg : V (2 * (g : Int) + 1).toNat = 1 → V (2 * g) ≠ 0 := fun q => by
    have ln := ng_lit lo
    rw [en] at ln
    have := (ht.2 _ ln).1 q
    rw [show ng (2 * (g : Int) + 1) = 2 * (g : Int) by unfold ng; omega] at this
    rw [show 2 * g = (2 * (g : Int)).toNat by omega, this]; decide
  unfold gcl at hu
  have A := V_3 ht ha.2 va
  have B := V_3 ht hb.2 vb
  rw [← zX_ng hs ha.2] at A
  rw [← zX_ng hs hb.2] at B
  rcases (show k = 1 ∨ k = 2 ∨ k = 3 by omega) with q | q | q
  · subst q
    rw [if_pos rfl] at hu
    simp only [List.mem_cons, List.mem_nil_iff, or_false, forall_eq_or_imp, forall_eq] at hu
    obtain ⟨u1, u2, u3⟩ := hu
    rcases A with ⟨A1, A2⟩ | ⟨A1, A2⟩
    · rcases B with ⟨B1, B2⟩ | ⟨B1, B2⟩
      · exact pos (un_3 u1 A2 (fun _ => B2))
      · exact neg (un_3 u2 B1 (fun q => absurd rfl q))
    · exact neg (un_3 u3 A1 (fun q => absurd rfl q))
  · subst q
    rw [if_neg (by decide), if_pos rfl] at hu
    simp only [List.mem_cons, List.mem_nil_iff, or_false, forall_eq_or_imp, forall_eq] at hu
    obtain ⟨u1, u2, u3, u4⟩ := hu
    rcases A with ⟨A1, A2⟩ | ⟨A1, A2⟩ <;> rcases B with ⟨B1, B2⟩ | ⟨B1, B2⟩
    · exact neg (un_3 u3 A2 (fun _ => B2))
    · exact pos (un_3 u2 A2 (fun _ => B1))
    · exact pos (un_3 u1 A1 (fun _ => B2))
    · exact neg (un_3 u4 A1 (fun _ => B1))
  · subst q
    obtain ⟨c2, lc⟩ := hc rfl
    have C := V_3 ht lc (vc rfl)
    rw [← zX_ng hs lc] at C
    rw [if_neg (by decide), if_neg (by decide), if_pos rfl] at hu
    simp only [List.mem_cons, List.mem_nil_iff, or_false, forall_eq_or_imp, forall_eq] at hu
    obtain ⟨u1, u2, u3, u4⟩ := hu
    rcases A with ⟨A1, A2⟩ | ⟨A1, A2⟩
    · rcases B with ⟨B1, B2⟩ | ⟨B1, B2⟩
      · exact pos (un_3 u4 A2 (fun _ => B2))
      · exact neg (un_3 u3 A2 (fun _ => B1))
    · rcases C with ⟨C1, C2⟩ | ⟨C1, C2⟩
      · exact pos (un_3 u2 A1 (fun _ => C2))
      · exact neg (un_3 u1 A1 (fun _ => C1))
theorem mem_gls {K A B C Mk : Nat → Int} {l : List Int} : ∀ n, l ∈ gls K A B C Mk n ↔ ∃ g : Nat, 1 ≤ g ∧ g < n ∧ Mk g = 1 ∧ l ∈ gcl (K g) (2 * (g : Int)) (A g) (B g) (C g)
  | 0 => ⟨fun h => absurd h (by simp [gls]), fun ⟨g, _, h, _⟩ => absurd h (by omega)⟩
  | n + 1 => by
    show l ∈ (if 1 ≤ n ∧ Mk n = 1 then gcl (K n) (2 * (n : Int)) (A n) (B n) (C n) ++ gls K A B C Mk n else gls K A B C Mk n) ↔ _
    by_cases c : 1 ≤ n ∧ Mk n = 1
    · rw [if_pos c, List.mem_append, mem_gls n]
      constructor
      · rintro (h | ⟨g, a1, a2, a3, a4⟩)
        · exact ⟨n, c.1, by omega, c.2, h⟩
        · exact ⟨g, a1, by omega, a3, a4⟩
      · rintro ⟨g, a1, a2, a3, a4⟩
        by_cases e : g = n
        · rw [e] at a4; exact Or.inl a4
        · exact Or.inr ⟨g, a1, by omega, a3, a4⟩
    · rw [if_neg c, mem_gls n]
      constructor
      · rintro ⟨g, a1, a2, a3, a4⟩; exact ⟨g, a1, by omega, a3, a4⟩
      · rintro ⟨g, a1, a2, a3, a4⟩
        by_cases e : g = n
        · rw [e] at a1 a3; exact absurd ⟨a1, a3⟩ c
        · exact ⟨g, a1, by omega, a3, a4⟩
/-- a value for every gate, from those of the leaves -/
def exv (K A B C : Nat → Int) (v : Nat → Bool) : Nat → Nat → Bool
  | 0 => v
  | n + 1 => fun g => if g = n ∧ 1 ≤ n ∧ K n ≠ 0 then gvb (K n) (lvb (exv K A B C v n) (A n)) (lvb (exv K A B C v n) (B n)) (lvb (exv K A B C v n) (C n)) else exv K A B C v n g
section ExP
variable {K A B C : Nat → Int} {v : Nat → Bool}
theorem exv_up {g n : Nat} : ∀ k, g < n → exv K A B C v (n + k) g = exv K A B C v n g
  | 0, _ => rfl
  | k + 1, h => by
    show (if g = n + k ∧ _ then _ else exv K A B C v (n + k) g) = _
    rw [if_neg (fun q => absurd q.1 (by omega))]
    exact exv_up k h
theorem exv_no {g : Nat} (h : g = 0 ∨ K g = 0) : ∀ n, exv K A B C v n g = v g
  | 0 => rfl
  | n + 1 => by
    show (if g = n ∧ 1 ≤ n ∧ K n ≠ 0 then _ else exv K A B C v n g) = _
    rw [if_neg (fun q => by
      obtain ⟨q1, q2, q3⟩ := q
      rw [← q1] at q2 q3
      rcases h with h | h
      · omega
      · exact q3 h)]
    exact exv_no h n
theorem exv_at {g n : Nat} (h : g < n) (h1 : 1 ≤ g) (hk : K g ≠ 0) : exv K A B C v n g = gvb (K g) (lvb (exv K A B C v g) (A g)) (lvb (exv K A B C v g) (B g)) (lvb (exv K A B C v g) (C g)) := by
  have := exv_up (K := K) (A := A) (B := B) (C := C) (v := v) (g := g) (n := g + 1) (n - (g + 1)) (by omega)
  rw [show g + 1 + (n - (g + 1)) = n by omega] at this
  rw [this]
  show (if g = g ∧ 1 ≤ g ∧ K g ≠ 0 then _ else _) = _
  rw [if_pos ⟨rfl, h1, hk⟩]
theorem exv_l {g n : Nat} {x : Int} (h : g ≤ n) (hx : gt x < g) : lvb (exv K A B C v g) x = lvb (exv K A B C v n) x := by
  have := exv_up (K := K) (A := A) (B := B) (C := C) (v := v) (g := gt x) (n := g) (n - g) hx
  rw [show g + (n - g) = n by omega] at this
  unfold lvb
  show xor (exv K A B C v g (gt x)) _ = xor (exv K A B C v n (gt x)) _
  rw [this]
end ExP
theorem CI_ch {s g : Nat} {σ : q_H} (hci : CI s σ) (h1 : 1 ≤ g) (h2 : g < s) (hk : z σ 51 g ≠ 0) : (1 ≤ z σ 51 g ∧ z σ 51 g ≤ 3) ∧ (2 ≤ z σ 52 g ∧ lit s (z σ 52 g) ∧ gt (z σ 52 g) < g) ∧ (2 ≤ z σ 53 g ∧ lit s (z σ 53 g) ∧ gt (z σ 53 g) < g) ∧ (z σ 51 g = 3 → 2 ≤ z σ 54 g ∧ lit s (z σ 54 g)) ∧ gt (z σ 54 g) < g ∧ (z σ 51 g ≠ 3 → z σ 54 g = 0) := by
  obtain ⟨g1, g2⟩ := hci.2.2.2 g h1 h2
  obtain ⟨q1, q2, q3, q4, q5, -⟩ := g2 hk
  refine ⟨⟨by omega, by omega⟩, ⟨q1.1, ⟨by omega, by omega⟩, by unfold gt; omega⟩, ⟨q2.1, ⟨by omega, by omega⟩, by unfold gt; omega⟩, fun e => ?_, ?_, q5⟩
  · have := q4 e; exact ⟨this.1, by omega, by omega⟩
  · by_cases e : z σ 51 g = 3
    · have := q4 e; unfold gt; omega
    · rw [q5 e]; show ((0 : Int) / 2).toNat < g; omega
theorem CSv_ex {s : Nat} {σ : q_H} {v : Nat → Bool} (hci : CI s σ) (h0 : v 0 = true) : CSv s σ (exv (z σ 51) (z σ 52) (z σ 53) (z σ 54) v s) := by
  refine ⟨by rw [exv_no (Or.inl rfl)]; exact h0, fun g h1 h2 hk => ?_⟩
  obtain ⟨-, ⟨-, -, a⟩, ⟨-, -, b⟩, -, c, -⟩ := CI_ch hci h1 h2 hk
  rw [exv_at h2 h1 hk, exv_l (Nat.le_of_lt h2) a, exv_l (Nat.le_of_lt h2) b, exv_l (Nat.le_of_lt h2) c]
theorem lvb_cg {u v : Nat → Bool} {x : Int} (h : u (gt x) = v (gt x)) : lvb u x = lvb v x := by
  unfold lvb
  show xor (u (gt x)) _ = xor (v (gt x)) _
  rw [h]
/-- gates that a question is about -/
def RLv (Mk : Nat → Int) (wc : Nat) (w : Nat → Int) (g : Nat) : Prop := g = 0 ∨ Mk g = 1 ∨ ∃ i, i < wc ∧ gt (w i) = g
def Gm0 (s : Nat) (K A B C Mk : Nat → Int) (v : Nat → Bool) : Prop := v 0 = true ∧ ∀ l ∈ gls K A B C Mk s, satL l v
section G0P
variable {s wc : Nat} {σ τ : q_H} {v : Nat → Bool} {w : Nat → Int}
theorem Gm0_g (hci : CI s σ) {Mk : Nat → Int} (h : Gm0 s (z σ 51) (z σ 52) (z σ 53) (z σ 54) Mk v) {g : Nat} (h1 : 1 ≤ g) (h2 : g < s) (hm : Mk g = 1) (hk : z σ 51 g ≠ 0) : v g = gvb (z σ 51 g) (lvb v (z σ 52 g)) (lvb v (z σ 53 g)) (lvb v (z σ 54 g)) := by
  obtain ⟨k, a, b, c, -⟩ := CI_ch hci h1 h2 hk
  exact (gcl_sem hci.2.1.2 ⟨h1, h2⟩ k ⟨a.1, a.2.1⟩ ⟨b.1, b.2.1⟩ c).mp (fun l hl => h.2 l ((mem_gls s).mpr ⟨g, h1, h2, hm, hl⟩))
theorem Gm0_of (hci : CI s σ) {Mk : Nat → Int} (h : CSv s σ v) : Gm0 s (z σ 51) (z σ 52) (z σ 53) (z σ 54) Mk v := by
  refine ⟨h.1, fun l hl => ?_⟩
  obtain ⟨g, h1, h2, hm, hg⟩ := (mem_gls s).mp hl
  by_cases hk : z σ 51 g = 0
  · rw [hk] at hg
    unfold gcl at hg
    rw [if_neg (by decide), if_neg (by decide), if_neg (by decide)] at hg
    exact absurd hg (by simp)
  · obtain ⟨k, a, b, c, -⟩ := CI_ch hci h1 h2 hk
    exact (gcl_sem hci.2.1.2 ⟨h1, h2⟩ k ⟨a.1, a.2.1⟩ ⟨b.1, b.2.1⟩ c).mpr (h.2 g h1 h2 hk) l hg
theorem Gm0_ex (hci : CI s σ) {Mk : Nat → Int} (hc : ∀ g : Nat, 0 < g → g < s → Mk g = 1 → z σ 51 g ≠ 0 → Mk (gt (z σ 52 g)) = 1 ∧ Mk (gt (z σ 53 g)) = 1 ∧ Mk (gt (z σ 54 g)) = 1) (hw : ∀ i, i < wc → z σ 51 (gt (w i)) = 0) (h : Gm0 s (z σ 51) (z σ 52) (z σ 53) (z σ 54) Mk v) : ∃ u, CSv s σ u ∧ ∀ g, g < s → RLv Mk wc w g → u g = v g := by
  refine ⟨_, CSv_ex hci h.1, fun g => ?_⟩
  induction g using Nat.strongRecOn with
  | _ g ih =>
    intro h2 hr
    by_cases g0 : g = 0
    · exact exv_no (Or.inl g0) s
    · by_cases hk : z σ 51 g = 0
      · exact exv_no (Or.inr hk) s
      · have hm : Mk g = 1 := by
          rcases hr with q | q | ⟨i, hi, ei⟩
          · exact absurd q g0
          · exact q
          · exact absurd (ei ▸ hw i hi) hk
        have h1 : 1 ≤ g := by omega
        obtain ⟨-, ⟨-, -, a⟩, ⟨-, -, b⟩, -, c, -⟩ := CI_ch hci h1 h2 hk
        obtain ⟨m1, m2, m3⟩ := hc g (by omega) h2 hm hk
        rw [(CSv_ex hci h.1).2 g h1 h2 hk, Gm0_g hci h h1 h2 hm hk, lvb_cg (ih _ a (by omega) (Or.inr (Or.inl m1))), lvb_cg (ih _ b (by omega) (Or.inr (Or.inl m2))), lvb_cg (ih _ c (by omega) (Or.inr (Or.inl m3)))]
/-- with the wishes all gates in question have values -/
theorem TTo_w (hci : CI s σ) {Mk : Nat → Int} {M0 : Nat → Int} {cs0 : List Nat} (hc : ∀ g : Nat, 0 < g → g < s → Mk g = 1 → z σ 51 g ≠ 0 → Mk (gt (z σ 52 g)) = 1 ∧ Mk (gt (z σ 53 g)) = 1 ∧ Mk (gt (z σ 54 g)) = 1) (hl : ∀ i, i < wc → lit s (w i)) (hlf : ∀ g : Nat, 1 ≤ g → g < s → z σ 51 g = 0 → ∃ i, i < wc ∧ gt (w i) = g) (hW : WC M0 cs0 (gls (z σ 51) (z σ 52) (z σ 53) (z σ 54) Mk s)) : TTo s wc M0 cs0 (RLv Mk wc w) w := by
  intro V ht hu v0 hv g
  have un : ∀ l ∈ gls (z σ 51) (z σ 52) (z σ 53) (z σ 54) Mk s, unL V l := fun l hl y hy ho => by
    obtain ⟨c, hc, e⟩ := hW.1 l hl
    exact hu c hc y ((e y).mpr hy) (fun x xi ne => ho x ((e x).mp xi) ne)
  induction g using Nat.strongRecOn with
  | _ g ih =>
    intro h2 hr
    by_cases g0 : g = 0
    · rw [g0]; show V 0 ≠ 0; rw [v0]; decide
    · have wi : (∃ i, i < wc ∧ gt (w i) = g) → V (2 * g) ≠ 0 := fun ⟨i, hi, ei⟩ => by
        rw [← ei]; exact V_gt2 ht (hl i hi) (hv i hi)
      by_cases hk : z σ 51 g = 0
      · exact wi (hlf g (by omega) h2 hk)
      · rcases hr with q | q | q
        · exact absurd q g0
        · obtain ⟨k, ⟨a1, a2, a3⟩, ⟨b1, b2, b3⟩, c, c3, -⟩ := CI_ch hci (by omega) h2 hk
          obtain ⟨m1, m2, m3⟩ := hc g (by omega) h2 q hk
          exact gcl_val hci.2.1.2 ht ⟨by omega, h2⟩ k ⟨a1, a2⟩ ⟨b1, b2⟩ c (fun l hl => un l ((mem_gls s).mpr ⟨g, by omega, h2, q, hl⟩)) (V_gt ht a2 (ih _ a3 (by omega) (Or.inr (Or.inl m1)))) (V_gt ht b2 (ih _ b3 (by omega) (Or.inr (Or.inl m2)))) (fun e => V_gt ht (c e).2 (ih _ c3 (by omega) (Or.inr (Or.inl m3))))
        · exact wi q
end G0P
