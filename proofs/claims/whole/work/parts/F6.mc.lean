/-! The reference cuts a TEXT into the class's TOKENS, up to the first that is none -/
theorem rnF_end (P : Int → Bool) (f : Nat → Int) : ∀ k i, rnF P f k i < i + k → P (f (rnF P f k i)) = false
  | 0, i, h => absurd h (by unfold rnF; omega)
  | k + 1, i, h => by
    unfold rnF at h ⊢
    split at h
    · next c => rw [if_pos c]; exact rnF_end P f k (i + 1) (by omega)
    · next c => rw [if_neg c]; exact Bool.not_eq_true _ ▸ c
theorem rn_end {P : Int → Bool} {f : Nat → Int} {n i : Nat} (hi : i ≤ n) (h : rn P f n i < n) : P (f (rn P f n i)) = false := by
  unfold rn at h ⊢
  exact rnF_end P f (n - i) i (by omega)
theorem rn_all {P : Int → Bool} {f : Nat → Int} {n i j : Nat} (h1 : i ≤ j) (h2 : j < rn P f n i) : P (f j) = true := rnF_all P f _ i j h1 h2
theorem nva_app {f : Nat → Int} : ∀ (k s : Nat) (acc : Int), nva f s (k + 1) acc = min (nva f s k acc * 10 + (f (s + k) - 48)) 256
  | 0, s, acc => rfl
  | k + 1, s, acc => by
    show nva f (s + 1) (k + 1) _ = min (nva f (s + 1) k _ * 10 + _) 256
    rw [nva_app k (s + 1), show s + 1 + k = s + (k + 1) by omega]
theorem sg1_m : ∀ j : Nat, j < 256 → sg1 ((j : Int) - 128) = sg1 (((j : Int) - 128) % 256) := by decide +kernel
theorem sg1_ix : ∀ j : Nat, j < 256 → ((0 ≤ ixZ (j : Int) ↔ sg1 (j : Int) ≠ 47) ∧ (sg1 (j : Int) ≠ 47 → kmp (sg1 (j : Int)) = (j : Int))) := by decide +kernel
theorem sg2_k (a b : Int) : sg2 a b ≠ 47 → kmp (sg2 a b) ≠ 0 := sg2_P (P := fun v => v ≠ 47 → kmp v ≠ 0) (by decide) a b
theorem zL_64 {m : Int} (h : inR m) : zL (zI m).toInt64 = m := by
  unfold zL
  rw [Int32.toInt32_toInt64]
  exact zI_toInt h
def TRi (f : Nat → Int) (n : Nat) (σ : q_H) (i : Nat) : Prop :=
  z σ 97 i = ((sp f n i : Nat) : Int) ∧ z σ 96 i = kmp (tkK f n (sp f n i)) ∧ (tkK f n (sp f n i) = 23 → z σ 98 i = zL (tkC f n (sp f n i))) ∧ (tkK f n (sp f n i) = 30 → ∃ l, ltO l ∧ (tkC f n (sp f n i)).toInt = ((r32 l : Nat) : Int) ∧ vN (q_l σ 99 i) = r256 l)
def RC (s : Nat) (f : Nat → Int) (n : Nat) (σ0 σ : q_H) (t : Nat) : Prop :=
  RQ s σ ∧ fr [94, 96, 97, 98, 99] σ0 σ ∧ (∀ k, k ≠ 7 → z σ 94 k = z σ0 94 k) ∧ (z σ 94 7 = (t : Int) ∧ t ≤ n) ∧ ∀ i, i < t → TRi f n σ i
section McJ
variable {ω : q_W} {d s n : Nat} {f : Nat → Int} {σ0 σ : q_H} {t : Nat}
theorem RC_98 {e : Int} (h : RC s f n σ0 σ t) : RC s f n σ0 (zs σ 98 t e) t := by
  obtain ⟨⟨a, hE⟩, b, c, e1, g⟩ := h
  refine ⟨⟨a, zs_E hE⟩, fr_s b (by simp), fun k hk => by rw [z_o (by decide)]; exact c k hk, by rw [z_o (by decide)]; exact e1, fun i hi => ?_⟩
  obtain ⟨g1, g2, g3, g4⟩ := g i hi
  exact ⟨by rw [z_o (by decide)]; exact g1, by rw [z_o (by decide)]; exact g2, fun q => by rw [z_k (by omega)]; exact g3 q, g4⟩
theorem RC_99 {e : Int64} (h : RC s f n σ0 σ t) : RC s f n σ0 (zt σ 99 t e) t := by
  obtain ⟨⟨a, hE⟩, b, c, e1, g⟩ := h
  refine ⟨⟨a, zt_E hE⟩, fr_t b (by simp), c, e1, fun i hi => ?_⟩
  obtain ⟨g1, g2, g3, g4⟩ := g i hi
  refine ⟨g1, g2, g3, fun q => ?_⟩
  rw [zt_k (by omega)]; exact g4 q
/-- a TOKEN more -/
def TOK (s : Nat) (f : Nat → Int) (n : Nat) (σ0 τ : q_H) (t : Nat) : Prop := RQ s τ ∧ fr [94, 96, 97, 98, 99] σ0 τ ∧ (∀ k, k ≠ 7 → z τ 94 k = z σ0 94 k) ∧ z τ 94 7 = ((t + 1 : Nat) : Int) ∧ ∀ i, i < t + 1 → TRi f n τ i
theorem m_token {Kk : q_H → Prop} {x y : Int} (h : RC s f n σ0 σ t) (hy : y = ((sp f n t : Nat) : Int)) (hn : n ≤ 4096) (hs2 : sp f n t ≤ n) (hx : x = kmp (tkK f n (sp f n t))) (h23 : tkK f n (sp f n t) = 23 → z σ 98 t = zL (tkC f n (sp f n t))) (h30 : tkK f n (sp f n t) = 30 → ∃ l, ltO l ∧ (tkC f n (sp f n t)).toInt = ((r32 l : Nat) : Int) ∧ vN (q_l σ 99 t) = r256 l)
    (kk : ∀ τ, TOK s f n σ0 τ t → Kk τ) : J ω m_M_token d 0 0 0 0 0 [(0, .ref 94), (1, .int (zI x)), (2, .int (zI y))] [] σ (q_kv Kk) := by
  subst hy
  obtain ⟨⟨⟨hs, r0, r1, r2, r3, r4, r5⟩, hE⟩, b, c, ⟨e7, tn⟩, g⟩ := h
  have kR : inR x := by
    have a := tkK_R (f := f) (n := n) (s := sp f n t)
    have b := kmp_R (tkK f n (sp f n t)).toNat (by omega)
    rw [show (((tkK f n (sp f n t)).toNat : Nat) : Int) = tkK f n (sp f n t) by omega] at b
    rw [hx]; exact ⟨by omega, by omega⟩
  refine b_M_token_0 hs r0 r1 r2 r3 r4 r5 hE ?_
  rw [e7, Int.toNat_natCast]
  refine ⟨⟨by omega, by omega⟩, rfl, kk _ ⟨⟨⟨hs, r0, r1, r2, r3, r4, r5⟩, zs_E (zs_E (zs_E hE))⟩, fr_s (fr_s (fr_s b (by simp)) (by simp)) (by simp), fun k hk => by rw [z_k hk, z_o (by decide), z_o (by decide)]; exact c k hk, by rw [z_s ⟨by omega, by omega⟩]; omega, fun i hi => ?_⟩⟩
  by_cases q : i = t
  · subst q
    exact ⟨by rw [z_o (by decide), z_s ⟨by omega, by omega⟩], by rw [z_o (by decide), z_o (by decide), z_s kR]; exact hx, fun w => by rw [z_o (by decide), z_o (by decide), z_o (by decide)]; exact h23 w, h30⟩
  · obtain ⟨g1, g2, g3, g4⟩ := g i (by omega)
    exact ⟨by rw [z_o (by decide), z_k q, z_o (by decide)]; exact g1, by rw [z_o (by decide), z_o (by decide), z_k q]; exact g2, fun w => by rw [z_o (by decide), z_o (by decide), z_o (by decide)]; exact g3 w, g4⟩
section CsJ
variable {a : Nat} {Kk : q_H → Prop}
/-- a sign -/
theorem c_sign (hd : 3 ≤ d) (hn : n ≤ 4096) (hC : RC s f n σ0 σ t) (st : sp f n t = a) (an : a < n) (hb : ∀ j, j < n → -128 ≤ f j ∧ f j ≤ 127) (nl : lxL (f a) = false) (nd : lxD (f a) = false)
    (next : ∀ τ, tkK f n a ≠ 47 → TOK s f n σ0 τ t → J ω m_M_cut (d + 1) 0 0 0 0 7 [(0, .ref 94), (1, .int (zI ((tkE f n a : Nat) : Int)))] [] τ (q_kv Kk)) (out : ∀ τ, tkK f n a = 47 → TOK s f n σ0 τ t → Kk τ) :
    J ω m_M_cut (d + 1) 0 0 0 0 234 [(0, .ref 94), (1, .int (zI (a : Int))), (2, .int (zI (f a % 256))), (3, .int (zI (a : Int)))] [.int (zI (seeB f n (a + 1))), .int (zI (f a % 256))] σ (q_kv Kk) := by
  obtain ⟨⟨⟨hs, r0, r1, r2, r3, r4, r5⟩, hE⟩, -⟩ := id hC
  have fb := hb a an
  have kS : tkK f n a = if sg2 (f a) (nx f n a) = 47 then sg1 (f a) else sg2 (f a) (nx f n a) := by
    unfold tkK; rw [if_pos an, if_neg (by rw [nl]; decide), if_neg (by rw [nd]; decide)]
  have eS : tkE f n a = if sg2 (f a) (nx f n a) = 47 then a + 1 else a + 2 := by
    unfold tkE; rw [if_pos an, if_neg (by rw [nl]; decide), if_neg (by rw [nd]; decide)]
  have n23 : tkK f n a ≠ 23 ∧ tkK f n a ≠ 30 := by
    rw [kS]
    split
    · exact sg1_P (P := fun v => v ≠ 23 ∧ v ≠ 30) (by decide) _
    · exact sg2_P (P := fun v => v ≠ 23 ∧ v ≠ 30) (by decide) _ _
  have yb : ∀ c : Int, 33 ≤ c ∧ c ≤ 126 → (seeB f n (a + 1) = c ↔ nx f n a = c) := fun c hc => by
    unfold seeB nx
    by_cases q : a + 1 < n
    · have := hb (a + 1) q
      rw [if_pos q, if_pos q]; omega
    · rw [if_neg q, if_neg q]; omega
  have yR : inR (seeB f n (a + 1)) := by
    unfold seeB
    split
    · exact ⟨by omega, by omega⟩
    · exact ⟨by decide, by decide⟩
  obtain ⟨ix1, ix2⟩ := sg1_ix (f a % 256).toNat (by omega)
  rw [show (((f a % 256).toNat : Nat) : Int) = f a % 256 by omega] at ix1 ix2
  have s1 : sg1 (f a) = sg1 (f a % 256) := by
    have := sg1_m (f a + 128).toNat (by omega)
    rwa [show (((f a + 128).toNat : Nat) : Int) - 128 = f a by omega] at this
  rw [← s1] at ix1 ix2
  have w23 : tkK f n (sp f n t) = 23 → z σ 98 t = zL (tkC f n (sp f n t)) := fun q => absurd (by rw [st] at q; exact q) n23.1
  have w30 : tkK f n (sp f n t) = 30 → ∃ l, ltO l ∧ (tkC f n (sp f n t)).toInt = ((r32 l : Nat) : Int) ∧ vN (q_l σ 99 t) = r256 l := fun q => absurd (by rw [st] at q; exact q) n23.2
  have aS : (a : Int) = ((sp f n t : Nat) : Int) := by rw [st]
  have tok : ∀ {K2 : q_H → Prop} (x : Int), x = kmp (tkK f n a) → (∀ τ, TOK s f n σ0 τ t → K2 τ) → J ω m_M_token d 0 0 0 0 0 [(0, .ref 94), (1, .int (zI x)), (2, .int (zI (a : Int)))] [] σ (q_kv K2) := fun {K2} x hx k2 => m_token hC aS hn (by omega) (by rw [st]; exact hx) w23 w30 k2
  refine b_M_cut_234 hs r0 r1 r2 r3 r4 r5 hE (m_pair (a := f a) (b := nx f n a) hE ⟨by omega, by omega⟩ yR (fun c hc => by omega) yb ?_)
  by_cases c47 : sg2 (f a) (nx f n a) = 47
  · rw [if_pos c47] at kS eS ⊢
    refine b_M_cut_237 hs r0 r1 r2 r3 r4 r5 hE ⟨⟨by omega, by omega⟩, by omega, fun c => ?_, fun c => ?_⟩
    · have e47 : sg1 (f a) = 47 := Decidable.byContradiction fun q => by have := ix1.mpr q; omega
      refine b_M_cut_253 hs r0 r1 r2 r3 r4 r5 hE ⟨⟨by decide, by decide⟩, fun _ => ⟨⟨by decide, by decide⟩, fun _ => tok 274 (by rw [kS, e47]; decide) (fun τ hτ => ?_), fun c => absurd rfl c⟩, fun c => absurd rfl c⟩
      obtain ⟨⟨⟨-, r0, r1, r2, r3, r4, r5⟩, hE⟩, -⟩ := id hτ
      exact b_M_cut_282 hs r0 r1 r2 r3 r4 r5 hE ⟨⟨by decide, by decide⟩, fun c => absurd rfl c, fun _ => ⟨⟨by decide, by decide⟩, fun c => absurd rfl c, fun _ => ⟨rfl, out τ (kS.trans e47) hτ⟩⟩⟩
    · have n47 : sg1 (f a) ≠ 47 := ix1.mp c
      refine b_M_cut_253 hs r0 r1 r2 r3 r4 r5 hE ⟨⟨by decide, by decide⟩, fun _ => ⟨⟨by decide, by decide⟩, fun c => absurd c (by decide), fun _ => tok (f a % 256) (by rw [kS, ix2 n47]) (fun τ hτ => ?_)⟩, fun c => absurd rfl c⟩
      obtain ⟨⟨⟨-, r0, r1, r2, r3, r4, r5⟩, hE⟩, -⟩ := id hτ
      have nx7 := next τ (by rw [kS]; exact n47) hτ
      rw [eS, show ((a + 1 : Nat) : Int) = (a : Int) + 1 by omega] at nx7
      exact b_M_cut_282 hs r0 r1 r2 r3 r4 r5 hE ⟨⟨by decide, by decide⟩, fun c => absurd rfl c, fun _ => ⟨⟨by decide, by decide⟩, fun _ => b_M_cut_293 hs r0 r1 r2 r3 r4 r5 hE ⟨⟨by decide, by decide⟩, fun _ => nx7, fun c => absurd rfl c⟩, fun c => absurd c (by decide)⟩⟩
  · rw [if_neg c47] at kS eS ⊢
    have k0 := sg2_k (f a) (nx f n a) c47
    have kR : inR (kmp (sg2 (f a) (nx f n a))) := by
      have a1 := sg2_P (P := fun v => 1 ≤ v ∧ v ≤ 47) (by decide) (f a) (nx f n a)
      have b := kmp_R (sg2 (f a) (nx f n a)).toNat (by omega)
      rw [show (((sg2 (f a) (nx f n a)).toNat : Nat) : Int) = sg2 (f a) (nx f n a) by omega] at b
      exact ⟨by omega, by omega⟩
    have g253 : ∀ y : Int, inR y → J ω m_M_cut (d + 1) 0 0 0 0 253 [(0, .ref 94), (1, .int (zI (a : Int))), (2, .int (zI (f a % 256))), (3, .int (zI (a : Int))), (4, .int (zI (kmp (sg2 (f a) (nx f n a)))))] [.int (zI y)] σ (q_kv Kk) := fun y yR => by
      refine b_M_cut_253 hs r0 r1 r2 r3 r4 r5 hE ⟨kR, fun c => absurd c k0, fun _ => tok _ (by rw [kS]) (fun τ hτ => ?_)⟩
      obtain ⟨⟨⟨-, r0, r1, r2, r3, r4, r5⟩, hE⟩, -⟩ := id hτ
      have nx7 := next τ (by rw [kS]; exact c47) hτ
      rw [eS, show ((a + 2 : Nat) : Int) = (a : Int) + 2 by omega] at nx7
      exact b_M_cut_282 hs r0 r1 r2 r3 r4 r5 hE ⟨kR, fun _ => b_M_cut_293 hs r0 r1 r2 r3 r4 r5 hE ⟨kR, fun c => absurd c k0, fun _ => nx7⟩, fun c => absurd c k0⟩
    exact b_M_cut_237 hs r0 r1 r2 r3 r4 r5 hE ⟨⟨by omega, by omega⟩, by omega, fun c => g253 0 ⟨by decide, by decide⟩, fun c => g253 1 ⟨by decide, by decide⟩⟩
/-- a NUMBER -/
theorem c_num (hn : n ≤ 4096) (hC : RC s f n σ0 σ t) (s2 : z σ 94 2 = (n : Int)) (hf : ∀ j, j < n → z σ 95 j = f j) (st : sp f n t = a) (an : a < n) (hb : ∀ j, j < n → -128 ≤ f j ∧ f j ≤ 127) (nl : lxL (f a) = false) (nd : lxD (f a) = true)
    (next : ∀ τ, tkK f n a ≠ 47 → TOK s f n σ0 τ t → J ω m_M_cut (d + 1) 0 0 0 0 7 [(0, .ref 94), (1, .int (zI ((tkE f n a : Nat) : Int)))] [] τ (q_kv Kk)) (out : ∀ τ, tkK f n a = 47 → TOK s f n σ0 τ t → Kk τ) :
    ∀ (m k : Nat) (x : Int), a + k + m = rn lxD f n a → 0 ≤ x ∧ x ≤ 1000 → min x 256 = nva f a k 0 → J ω m_M_cut (d + 1) 0 0 0 0 142 [(0, .ref 94), (1, .int (zI ((a + k : Nat) : Int))), (3, .int (zI (a : Int))), (4, .int (zI x))] [] σ (q_kv Kk) := by
  obtain ⟨⟨⟨hs, r0, r1, r2, r3, r4, r5⟩, hE⟩, -, -, ⟨g7, tn⟩, -⟩ := id hC
  have ebd : rn lxD f n a ≤ n := rn_bd (by omega)
  have kS : tkK f n a = if nva f a (rn lxD f n a - a) 0 > 255 then 47 else 23 := by
    unfold tkK; rw [if_pos an, if_neg (by rw [nl]; decide), if_pos nd]
  have eS : tkE f n a = rn lxD f n a := by
    unfold tkE; rw [if_pos an, if_neg (by rw [nl]; decide), if_pos nd]
  have cS : tkC f n a = (zI (nva f a (rn lxD f n a - a) 0)).toInt64 := by
    unfold tkC; rw [if_pos an, if_neg (by rw [nl]; decide), if_pos nd]
  have aS : (a : Int) = ((sp f n t : Nat) : Int) := by rw [st]
  intro m
  induction m with
  | zero =>
    intro k x hk hx hv
    have see : ¬ (48 ≤ seeB f n (a + k) ∧ seeB f n (a + k) ≤ 57) := by
      unfold seeB
      by_cases q : a + k < n
      · rw [if_pos q]
        have e := rn_end (P := lxD) (f := f) (n := n) (i := a) (by omega) (by omega)
        rw [show rn lxD f n a = a + k by omega] at e
        have := lxD_no.mp e
        have := hb (a + k) q
        omega
      · rw [if_neg q]; omega
    have sR : inR (seeB f n (a + k)) := by
      unfold seeB
      split
      · exact ⟨by omega, by omega⟩
      · exact ⟨by decide, by decide⟩
    have ev : nva f a (rn lxD f n a - a) 0 = min x 256 := by rw [show rn lxD f n a - a = k by omega]; exact hv.symm
    rw [ev] at kS cS
    have fin : ∀ y : Int, y = kmp (tkK f n a) → J ω m_M_cut (d + 1) 0 0 0 0 210 [(0, .ref 94), (1, .int (zI ((a + k : Nat) : Int))), (3, .int (zI (a : Int))), (4, .int (zI x))] [.int (zI y), .ref 94] (zs σ 98 t x) (q_kv Kk) := fun y hy => by
      have hC2 := RC_98 (e := x) hC
      obtain ⟨⟨⟨-, q0, q1, q2, q3, q4, q5⟩, hE2⟩, -⟩ := id hC2
      refine b_M_cut_210 hs q0 q1 q2 q3 q4 q5 hE2 (m_token hC2 aS hn (by omega) (by rw [st]; exact hy) (fun q => ?_) (fun q => ?_) (fun τ hτ => ?_))
      · rw [st] at q ⊢
        rw [kS] at q
        split at q
        · omega
        · rw [z_s ⟨by omega, by omega⟩, cS, zL_64 ⟨by omega, by omega⟩]; omega
      · rw [st, kS] at q
        split at q <;> omega
      · obtain ⟨⟨⟨-, r0, r1, r2, r3, r4, r5⟩, hE⟩, -⟩ := id hτ
        refine b_M_cut_214 hs r0 r1 r2 r3 r4 r5 hE ⟨⟨by omega, by omega⟩, fun c => ?_, fun c => ⟨rfl, out τ (by rw [kS, if_pos (by omega)]) hτ⟩⟩
        have := next τ (by rw [kS, if_neg (by omega)]; decide) hτ
        rw [eS, show rn lxD f n a = a + k by omega] at this
        exact this
    refine b_M_cut_142 hs r0 r1 r2 r3 r4 r5 hE (m_look hC.1 s2 hn (by omega) hf (b_M_cut_147 hs r0 r1 r2 r3 r4 r5 hE ?_))
    rw [g7, Int.toNat_natCast]
    refine ⟨sR, fun _ => ⟨⟨by omega, by omega⟩, ⟨by omega, by omega⟩, fun c => fin 264 (by rw [kS, if_neg (by omega)]; decide), fun c => fin 274 (by rw [kS, if_pos (by omega)]; decide)⟩, fun c => absurd (zIf_ne.mp c) see⟩
  | succ m ih =>
    intro k x hk hx hv
    have lt : a + k < n := by omega
    have dg := rn_all (P := lxD) (f := f) (n := n) (i := a) (j := a + k) (by omega) (by omega)
    have d1 := lxD_iff.mp dg
    have sk : seeB f n (a + k) = f (a + k) % 256 := if_pos lt
    have sk2 : f (a + k) % 256 = f (a + k) := by omega
    refine b_M_cut_142 hs r0 r1 r2 r3 r4 r5 hE (m_look hC.1 s2 hn (by omega) hf (b_M_cut_147 hs r0 r1 r2 r3 r4 r5 hE ?_))
    rw [sk, sk2]
    refine ⟨⟨by omega, by omega⟩, fun c => absurd c (by rw [zIf_eq]; omega), fun _ => m_look hC.1 s2 hn (by omega) hf ?_⟩
    rw [sk, sk2]
    refine b_M_cut_163 hs r0 r1 r2 r3 r4 r5 hE ⟨⟨by omega, by omega⟩, ?_⟩
    rw [show ((a + k : Nat) : Int) + 1 = ((a + (k + 1) : Nat) : Int) by omega]
    refine ih (k + 1) _ (by omega) ⟨by omega, by omega⟩ ?_
    rw [nva_app, ← hv]
    omega
/-- a word -/
theorem c_wrd (hd : 6 ≤ d) (hn : n ≤ 4096) (hC : RC s f n σ0 σ t) (s2 : z σ 94 2 = (n : Int)) (hf : ∀ j, j < n → z σ 95 j = f j) (st : sp f n t = a) (an : a < n) (hb : ∀ j, j < n → -128 ≤ f j ∧ f j ≤ 127) (nl : lxL (f a) = true)
    (next : ∀ τ, tkK f n a ≠ 47 → TOK s f n σ0 τ t → J ω m_M_cut (d + 1) 0 0 0 0 7 [(0, .ref 94), (1, .int (zI ((tkE f n a : Nat) : Int)))] [] τ (q_kv Kk)) (out : ∀ τ, tkK f n a = 47 → TOK s f n σ0 τ t → Kk τ) :
    ∀ (m k : Nat) (x : Int64), a + k + m = rn lxL f n a → (k ≤ 8 → vN x = r256 (lr f a k)) → J ω m_M_cut (d + 1) 0 0 0 0 51 [(0, .ref 94), (1, .int (zI ((a + k : Nat) : Int))), (3, .int (zI (a : Int))), (4, .long x)] [] σ (q_kv Kk) := by
  obtain ⟨⟨⟨hs, r0, r1, r2, r3, r4, r5⟩, hE⟩, -, -, ⟨g7, tn⟩, -⟩ := id hC
  have ebd : rn lxL f n a ≤ n := rn_bd (by omega)
  have kS : tkK f n a = if rn lxL f n a - a > 8 then 47 else wk (wva f a (rn lxL f n a - a) 0) := by
    unfold tkK; rw [if_pos an, if_pos nl]
  have eS : tkE f n a = rn lxL f n a := by
    unfold tkE; rw [if_pos an, if_pos nl]
  have cS : tkC f n a = wva f a (rn lxL f n a - a) 0 := by
    unfold tkC; rw [if_pos an, if_pos nl]
  have aS : (a : Int) = ((sp f n t : Nat) : Int) := by rw [st]
  have all : ∀ j, a ≤ j → j < rn lxL f n a → lxL (f j) = true := fun j h1 h2 => rn_all h1 h2
  intro m
  induction m with
  | zero =>
    intro k x hk hx
    have see : ¬ (97 ≤ seeB f n (a + k) ∧ seeB f n (a + k) ≤ 122) := by
      unfold seeB
      by_cases q : a + k < n
      · rw [if_pos q]
        have e := rn_end (P := lxL) (f := f) (n := n) (i := a) (by omega) (by omega)
        rw [show rn lxL f n a = a + k by omega] at e
        have := lxL_no.mp e
        have := hb (a + k) q
        omega
      · rw [if_neg q]; omega
    have sR : inR (seeB f n (a + k)) := by
      unfold seeB
      split
      · exact ⟨by omega, by omega⟩
      · exact ⟨by decide, by decide⟩
    rw [show rn lxL f n a - a = k by omega] at kS cS
    refine b_M_cut_51 hs r0 r1 r2 r3 r4 r5 hE (m_look hC.1 s2 hn (by omega) hf (b_M_cut_56 hs r0 r1 r2 r3 r4 r5 hE ?_))
    rw [g7, Int.toNat_natCast, show (((a + k : Nat) : Int) - (a : Int)) = (k : Int) by omega]
    refine ⟨sR, fun _ => ⟨⟨by omega, by omega⟩, fun c => ⟨⟨by omega, by omega⟩, ?_⟩, fun c => ?_⟩, fun c => absurd (zIf_ne.mp c) see⟩
    · have k8 : k ≤ 8 := by omega
      have al2 : ∀ j, a ≤ j → j < a + k → lxL (f j) = true := fun j h1 h2 => all j h1 (by omega)
      have O := lr_O (f := f) (s := a) k al2
      have wr := wva_r (f := f) (s := a) k k8 al2
      rw [if_neg (by omega)] at kS
      have hC2 := RC_99 (e := x) hC
      obtain ⟨⟨⟨-, q0, q1, q2, q3, q4, q5⟩, hE2⟩, -⟩ := id hC2
      refine m_word (by omega) hC2.1 O (hx k8) wr ?_
      refine b_M_cut_125 hs q0 q1 q2 q3 q4 q5 hE2 (m_token hC2 aS hn (by omega) (by rw [st, kS]) (fun q => ?_) (fun q => ?_) (fun τ hτ => ?_))
      · rw [st, kS] at q
        exact absurd q (wk_P (P := fun v => v ≠ 23) (by decide) _)
      · rw [st, cS]
        exact ⟨lr f a k, O, wr, by rw [zt_s]; exact hx k8⟩
      · obtain ⟨⟨⟨-, r0, r1, r2, r3, r4, r5⟩, hE⟩, -⟩ := id hτ
        have := next τ (by rw [kS]; exact wk_P (P := fun v => v ≠ 47) (by decide) _) hτ
        rw [eS, show rn lxL f n a = a + k by omega] at this
        exact b_M_cut_129 hs r0 r1 r2 r3 r4 r5 hE this
    · rw [if_pos (by omega)] at kS
      refine m_token hC aS hn (by omega) (by rw [st, kS]; decide) (fun q => by rw [st, kS] at q; omega) (fun q => by rw [st, kS] at q; omega) (fun τ hτ => ?_)
      obtain ⟨⟨⟨-, r0, r1, r2, r3, r4, r5⟩, hE⟩, -⟩ := id hτ
      exact b_M_cut_106 hs r0 r1 r2 r3 r4 r5 hE ⟨rfl, out τ kS hτ⟩
  | succ m ih =>
    intro k x hk hx
    have lt : a + k < n := by omega
    have d1 := lxL_iff.mp (all (a + k) (by omega) (by omega))
    have sk : seeB f n (a + k) = f (a + k) % 256 := if_pos lt
    have sk2 : f (a + k) % 256 = f (a + k) := by omega
    have e1 : ((a + k : Nat) : Int) + 1 = ((a + (k + 1) : Nat) : Int) := by omega
    refine b_M_cut_51 hs r0 r1 r2 r3 r4 r5 hE (m_look hC.1 s2 hn (by omega) hf (b_M_cut_56 hs r0 r1 r2 r3 r4 r5 hE ?_))
    rw [sk, sk2, show (((a + k : Nat) : Int) - (a : Int)) = (k : Int) by omega, e1]
    refine ⟨⟨by omega, by omega⟩, fun c => absurd c (by rw [zIf_eq]; omega), fun _ => ⟨⟨by omega, by omega⟩, fun c => ih (k + 1) x (by omega) (fun q => by omega), fun c => m_look hC.1 s2 hn (by omega) hf ?_⟩⟩
    rw [sk, sk2]
    refine b_M_cut_80 hs r0 r1 r2 r3 r4 r5 hE ?_
    rw [e1]
    refine ih (k + 1) _ (by omega) (fun q => ?_)
    have O := lr_O (f := f) (s := a) k (fun j h1 h2 => all j h1 (by omega))
    have lt2 := r256_lt _ O
    rw [lr_len] at lt2
    have p : (256 : Nat) ^ k ≤ 256 ^ 7 := Nat.pow_le_pow_right (by decide) (by omega)
    have hx' := hx (by omega)
    rw [l256 (by omega) ⟨by omega, by omega⟩, hx']
    rfl
end CsJ
theorem l_cut {Kk : q_H → Prop} (hd : 6 ≤ d) (hn : n ≤ 4096) (h2 : z σ0 94 2 = (n : Int)) (hf : ∀ j, j < n → z σ0 95 j = f j) (hb : ∀ j, j < n → -128 ≤ f j ∧ f j ≤ 127)
    (kk : ∀ (τ : q_H) (L : Nat), TOK s f n σ0 τ L → (tkK f n (sp f n L) = 46 ∨ tkK f n (sp f n L) = 47) → sp f n L ≤ n → (∀ i, i < L → sp f n i < n ∧ tkK f n (sp f n i) ≠ 46 ∧ tkK f n (sp f n i) ≠ 47) → Kk τ) :
    ∀ (k t a : Nat) (σ : q_H), n - a = k → a ≤ n → rn lxB f n a = sp f n t → RC s f n σ0 σ t → (∀ i, i < t → sp f n i < n ∧ tkK f n (sp f n i) ≠ 46 ∧ tkK f n (sp f n i) ≠ 47) → J ω m_M_cut (d + 1) 0 0 0 0 7 [(0, .ref 94), (1, .int (zI (a : Int)))] [] σ (q_kv Kk) := by
  intro k
  induction k using Nat.strongRecOn with
  | _ k ih =>
  intro t a σ hk ha hr hC hlt
  have spb := sp_bd (f := f) (n := n) t (fun j hj => (hlt j hj).1)
  obtain ⟨⟨⟨hs, r0, r1, r2, r3, r4, r5⟩, hE⟩, g1, g2, ⟨g7, tn⟩, g3⟩ := id hC
  have s2 : z σ 94 2 = (n : Int) := (g2 2 (by decide)).trans h2
  have keep : ∀ j, j < n → z σ 95 j = f j := fun j hj => by rw [fr_z g1 (by decide)]; exact hf j hj
  -- on to the next TOKEN
  have next : sp f n t = a → a < n → ∀ τ, tkK f n a ≠ 47 → TOK s f n σ0 τ t → J ω m_M_cut (d + 1) 0 0 0 0 7 [(0, .ref 94), (1, .int (zI ((tkE f n a : Nat) : Int)))] [] τ (q_kv Kk) := fun h4 h6 τ h7 ⟨q1, q2, q3, q4, q5⟩ => by
    have eb := tkE_bd (f := f) h6
    refine ih (n - tkE f n a) (by omega) (t + 1) (tkE f n a) τ rfl eb.2 (by show _ = rn lxB f n (tkE f n (sp f n t)); rw [h4]) ⟨q1, q2, q3, ⟨q4, by omega⟩, q5⟩ (fun i hi => ?_)
    by_cases c : i = t
    · rw [c, h4]; exact ⟨h6, tkK_46 h6, h7⟩
    · exact hlt i (by omega)
  have out : sp f n t = a → ∀ τ, tkK f n a = 47 → TOK s f n σ0 τ t → Kk τ := fun h4 τ h7 hT => kk τ t hT (Or.inr (by rw [h4]; exact h7)) (by omega) hlt
  refine b_M_cut_7 hs r0 r1 r2 r3 r4 r5 hE ?_
  rw [s2]
  refine ⟨⟨by omega, by omega⟩, fun c => ?_, fun c => ?_⟩
  · have an : a = n := by omega
    have st : sp f n t = n := by rw [← hr, an]; exact rn_ge (Nat.le_refl _)
    have k46 : tkK f n (sp f n t) = 46 := by rw [st]; unfold tkK; rw [if_neg (by omega)]
    refine m_token hC (by rw [st]) hn (by omega) (by rw [k46]; decide) (fun q => by rw [k46] at q; omega) (fun q => by rw [k46] at q; omega) (fun τ hτ => ?_)
    obtain ⟨⟨⟨-, r0, r1, r2, r3, r4, r5⟩, hE⟩, -⟩ := id hτ
    exact b_M_cut_320 hs r0 r1 r2 r3 r4 r5 hE ⟨rfl, kk τ t hτ (Or.inl k46) (by omega) hlt⟩
  have an : a < n := by omega
  have fb := hb a an
  refine m_look hC.1 s2 hn (by omega) keep ?_
  have sa : seeB f n a = f a % 256 := if_pos an
  rw [sa]
  have L1 : lxL (f a) = true ↔ (97 ≤ f a % 256 ∧ f a % 256 ≤ 122) := by rw [lxL_iff]; omega
  have D1 : lxD (f a) = true ↔ (48 ≤ f a % 256 ∧ f a % 256 ≤ 57) := by rw [lxD_iff]; omega
  have B1 : lxB (f a) = true ↔ (f a % 256 = 32 ∨ f a % 256 = 10) := by rw [lxB_iff]; omega
  have space : lxB (f a) = true → J ω m_M_cut (d + 1) 0 0 0 0 7 [(0, .ref 94), (1, .int (zI ((a : Int) + 1)))] [] σ (q_kv Kk) := fun q => by
    rw [show (a : Int) + 1 = ((a + 1 : Nat) : Int) by omega]
    exact ih (n - (a + 1)) (by omega) t (a + 1) σ rfl (by omega) (by rw [← rn_yes an q]; exact hr) hC hlt
  refine b_M_cut_20 hs r0 r1 r2 r3 r4 r5 hE ⟨⟨by omega, by omega⟩, fun q => space (B1.mpr (Or.inl q)), fun c32 => ⟨fun c10 => ?_, fun q => space (B1.mpr (Or.inr q))⟩⟩
  have nb : lxB (f a) = false := by
    rw [← Bool.not_eq_true]; exact fun q => (B1.mp q).elim c32 c10
  have st : sp f n t = a := by rw [← hr]; exact rn_no nb
  clear space B1
  refine ⟨fun nL => ?_, fun yL => ?_⟩
  · have nl : lxL (f a) = false := by rw [← Bool.not_eq_true]; exact fun q => (zIf_eq.mp nL) (L1.mp q)
    refine ⟨fun nD => ?_, fun yD => ?_⟩
    · have nd : lxD (f a) = false := by rw [← Bool.not_eq_true]; exact fun q => (zIf_eq.mp nD) (D1.mp q)
      rw [show (a : Int) + 1 = ((a + 1 : Nat) : Int) by omega]
      exact m_look hC.1 s2 hn (by omega) keep (c_sign (by omega) hn hC st an hb nl nd (next st an) (out st))
    · have nd : lxD (f a) = true := D1.mpr (zIf_ne.mp yD)
      exact c_num hn hC s2 keep st an hb nl nd (next st an) (out st) (rn lxD f n a - a) 0 0 (by have := rn_le lxD f n a; omega) ⟨by decide, by decide⟩ rfl
  · have nl : lxL (f a) = true := L1.mpr (zIf_ne.mp yL)
    exact c_wrd hd hn hC s2 keep st an hb nl (next st an) (out st) (rn lxL f n a - a) 0 0 (by have := rn_le lxL f n a; omega) (fun _ => rfl)
theorem m_cut {Kk : q_H → Prop} (hd : 7 ≤ d) (hq : RQ s σ) (hn : n ≤ 4096) (h2 : z σ 94 2 = (n : Int)) (hf : ∀ j, j < n → z σ 95 j = f j) (hb : ∀ j, j < n → -128 ≤ f j ∧ f j ≤ 127)
    (kk : ∀ (τ : q_H) (L : Nat), TOK s f n σ τ L → (tkK f n (sp f n L) = 46 ∨ tkK f n (sp f n L) = 47) → sp f n L ≤ n → (∀ i, i < L → sp f n i < n ∧ tkK f n (sp f n i) ≠ 46 ∧ tkK f n (sp f n i) ≠ 47) → Kk τ) : J ω m_M_cut d 0 0 0 0 0 [(0, .ref 94)] [] σ (q_kv Kk) := by
  obtain ⟨d, rfl⟩ : ∃ k, d = k + 1 := ⟨d - 1, by omega⟩
  obtain ⟨⟨hs, r0, r1, r2, r3, r4, r5⟩, hE⟩ := id hq
  refine b_M_cut_0 hs r0 r1 r2 r3 r4 r5 hE ?_
  have F : fr [94, 96, 97, 98, 99] σ (zs σ 94 7 0) := fr_s fr_refl (by simp)
  have o7 : ∀ k, k ≠ 7 → z (zs σ 94 7 0) 94 k = z σ 94 k := fun k hk => z_k hk
  refine l_cut (σ0 := σ) (by omega) hn h2 hf hb kk (n - 0) 0 0 _ rfl (by omega) rfl ⟨⟨⟨hs, r0, r1, r2, r3, r4, r5⟩, zs_E hE⟩, F, o7, ⟨by rw [z_s ⟨by decide, by decide⟩]; rfl, by omega⟩, fun i hi => absurd hi (by omega)⟩ (fun i hi => absurd hi (by omega))
end McJ
