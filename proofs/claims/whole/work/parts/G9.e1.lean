/-! THE GATES' BOUND AND THE MEANING, over a tree: what is said, and the plain steps -/
def FvN (σ : q_H) (v : Nat → Bool) (k : Nat) : Bool := if k < 512 then lvb v (z σ 63 k) else false
def wWs : List q_St → Nat
  | [] => 0
  | x :: l => (if x.1 = 8 then 1 else 0) + wWs l
theorem wWs_app : ∀ (a b : List q_St), wWs (a ++ b) = wWs a + wWs b
  | [], b => by show wWs b = 0 + wWs b; omega
  | x :: a, b => by
    show (if x.1 = 8 then 1 else 0) + wWs (a ++ b) = (if x.1 = 8 then 1 else 0) + wWs a + wWs b
    rw [wWs_app a b]; omega
/-- steps, eightfold -/
def EB8 (V L w : Nat) : Nat := if V = 0 then 16 * L else L * (8 + w)
theorem EB8_a {V L w1 w a : Nat} (hw : w1 ≤ w) : EB8 V L w1 + 8 * a ≤ EB8 V (L + a) w := by
  unfold EB8
  by_cases c : V = 0
  · rw [if_pos c, if_pos c]; omega
  · rw [if_neg c, if_neg c, Nat.add_mul]
    have h1 := Nat.mul_le_mul_left L (show 8 + w1 ≤ 8 + w by omega)
    have h2 := Nat.mul_le_mul_left a (show 8 ≤ 8 + w by omega)
    omega
theorem EB8_add {V L1 L2 w1 w2 : Nat} : EB8 V L1 w1 + EB8 V L2 w2 ≤ EB8 V (L1 + L2) (w1 + w2) := by
  unfold EB8
  by_cases c : V = 0
  · rw [if_pos c, if_pos c, if_pos c]; omega
  · rw [if_neg c, if_neg c, if_neg c, Nat.add_mul]
    have h1 := Nat.mul_le_mul_left L1 (show 8 + w1 ≤ 8 + (w1 + w2) by omega)
    have h2 := Nat.mul_le_mul_left L2 (show 8 + w2 ≤ 8 + (w1 + w2) by omega)
    omega
/-- the prices: ka a unit of WORK, lam a NAME that may be denied, b a literal that fills the book, x a while, y a step, T what a setting lays by -/
def PRM (V ka lam b x y T : Nat) : Prop :=
  (lam * (12 + V) ≤ b * (18 - V) ∧ lam ≤ 52 ∧ 52 ≤ lam + x ∧ 208 ≤ ka ∧ 208 + b ≤ ka + x) ∧ (V ≠ 0 → 364 + lam + b + T ≤ 8 * ka) ∧ 156 + 3 * (lam * (12 + V)) + 780 * V ≤ 8 * V * ka + 2 * y ∧ (V ≠ 0 → V ≠ 1 → T = 0 ∧ 156 + 2 * (lam * (12 + V)) + 780 * V + x * 546 ≤ 8 * V * ka) ∧
  (V = 1 → 676 ≤ b * 17 ∧ 2184 ≤ 8 * ka ∧ (936 + 2 * (lam * 13) + x * 13 ≤ 8 * ka ∧ 1508 + x * 13 ≤ 8 * ka) ∧ 156 + 2 * (lam * 13) + 780 + x * 546 ≤ 8 * ka + T ∧ 208 + b ≤ ka) ∧ (V = 0 → lam = 0 ∧ b = 0 ∧ T = 0) ∧ (V ≠ 0 → y = 0)
/-- what steps from i to j made of the words -/
def TRL (S : List q_St) (W : Nat → Int) (PR : (Nat → Int) → Prop) (fm i j lp : Nat) (σ τ : q_H) (s' : Nat) : Prop :=
  (∀ k, k < 96 * fm → z τ 64 k = z σ 64 k) ∧ (∀ k, k < fm → z τ 65 k = z σ 65 k ∧ z τ 66 k = z σ 66 k ∧ z τ 67 k = z σ 67 k) ∧ (∀ k, k < lp → z τ 68 k = z σ 68 k) ∧ ∀ v, CSv s' τ v → SMr S W (IvN σ v) PR i j lp (lvb v (z σ 48 4)) (UvN σ v) (FvN σ v) (lvb v (z τ 48 4)) (UvN τ v) (FvN τ v)
/-- what it cost -/
def PTc (V lam b T : Nat) (s : Nat) (L : q_Lr) (σ : q_H) (dn : Nat → Bool) (ot : Nat) (s' : Nat) (L' : q_Lr) (τ : q_H) (dn' : Nat → Bool) (ot' : Nat) (kw cost : Nat) : Prop :=
  ∃ c : Bool, (c = false → (∀ j, j < 96 → z τ 62 j = z σ 62 j) ∧ (V = 1 → pot V 52 b s' L' τ dn' ot' ≤ pot V 52 b s L σ dn ot + kw)) ∧ pot V lam b s' L' τ dn' ot' + T * c.toNat ≤ pot V lam b s L σ dn ot + cost
theorem FvN_cg {σ τ : q_H} {v : Nat → Bool} (h : z τ 63 = z σ 63) : FvN τ v = FvN σ v := by
  funext k
  unfold FvN
  rw [h]
theorem nf_cg {σ τ : q_H} (h : z τ 63 = z σ 63) : nf τ = nf σ := by unfold nf; rw [h]
theorem pot_ge {V lam b s : Nat} {L : q_Lr} {σ : q_H} {dn : Nat → Bool} {ot : Nat} : 52 * (s + lsum L + nf σ) ≤ pot V lam b s L σ dn ot := by unfold pot; omega
theorem pot_0 {V lam b s : Nat} {L : q_Lr} {σ : q_H} : pot V lam b s L σ (fun _ => false) 0 = 52 * (s + lsum L + nf σ) + lam * (12 + V) := by
  unfold pot
  rw [cnt_z, Nat.sub_zero, Nat.mul_zero, Nat.add_zero]
section TcP
variable {ω : q_W} {d p V : Nat} {σ0 : q_H} {WI WU : Nat → Int} {S : List q_St} {K : q_H → Prop} {ka lam b x y T BUD : Nat}
/-- the claim for a tree -/
def TCl (ω : q_W) (d p V : Nat) (WI WU : Nat → Int) (S : List q_St) (σ0 : q_H) (K : q_H → Prop) (ka lam b x y T BUD : Nat) : q_Ty := fun bb dp i lp as l w a1 =>
  (bb = false → dp ≤ 30) ∧ 3 * wWs l ≤ l.length ∧ as ≤ a1 ∧ (At S i l → l.length ≤ 1638 → a1 ≤ 512 → ∀ (fm n s : Nat) (σ : q_H) (L : q_Lr) (dn : Nat → Bool) (ot : Nat), fm ≤ dp → lp ≤ dp → EI p V WI WU fm σ0 σ s L dn ot → pot V lam b s L σ dn ot + (ka * w + x * wWs l + y * l.length) ≤ BUD → 8 * n + EB8 V l.length w ≤ 7999992 →
    (∀ τ s' L' dn' ot' n', EI p V WI WU fm σ0 τ s' L' dn' ot' → ME s s' σ τ → TRL S WU anyR fm i (i + l.length) lp σ τ s' → PTc V lam b T s L σ dn ot s' L' τ dn' ot' (ka * w) (ka * w + x * wWs l + y * l.length) → 8 * n' ≤ 8 * n + EB8 V l.length w → J ω m_En_encode (d + 1) 0 0 0 0 54 [(0, .ref 48), (2, .int (zI ((i + l.length : Nat) : Int))), (3, .int (zI (n' : Int)))] [] τ (q_kv K)) →
    J ω m_En_encode (d + 1) 0 0 0 0 54 [(0, .ref 48), (2, .int (zI (i : Int))), (3, .int (zI (n : Int)))] [] σ (q_kv K))
theorem wWs_1 {a : Int} {r : Int × Int × List q_It} (h : a ≠ 8) : wWs [(a, r)] = 0 := by
  show (if a = 8 then 1 else 0) + 0 = 0
  rw [if_neg h]
theorem tt_set {dp i lp as k : Nat} {e : q_Ex} (hd : 7 ≤ d) (hc : CT0 p V WI WU S σ0) (hP : PRM V ka lam b x y T) (hBUD : BUD ≤ 532012) (hdp : dp ≤ 30) (pe : PE (cI WI WU V) e ∧ hB e.1 0 = some 1) (hk : k < V) : TCl ω d p V WI WU S σ0 K ka lam b x y T BUD false dp i lp as [(1, (k : Int), 0, e.1)] (e.2.2.1 + 8) as := by
  refine ⟨fun _ => hdp, by rw [wWs_1 (by decide)]; omega, Nat.le_refl _, fun hA _ _ fm n s σ L dn ot hf hl h hpot hst kk => ?_⟩
  obtain ⟨a0, -⟩ := At_cons hA
  rw [wWs_1 (by decide)] at hpot kk
  have e8 := EB8_a (V := V) (L := 0) (w1 := 0) (w := e.2.2.1 + 8) (a := 1) (by omega)
  have ln : ([(1, (k : Int), 0, e.1)] : List q_St).length = 1 := rfl
  rw [ln] at kk hpot hst
  rw [Nat.zero_add] at e8
  have pg := pot_ge (V := V) (lam := lam) (b := b) (s := s) (L := L) (σ := σ) (dn := dn) (ot := ot)
  obtain ⟨⟨P1, P2, P3, P4, P5⟩, PS, -⟩ := hP
  have PS := PS (by omega)
  have m1 := Nat.mul_le_mul_right e.2.2.1 P4
  have m2 : ka * (e.2.2.1 + 8) = ka * e.2.2.1 + 8 * ka := by rw [Nat.mul_add]; omega
  rw [m2] at hpot kk
  refine L_set hd hc h a0 pe.1 pe.2 hk (by omega) (by omega) (fun τ s' L' dn' e1 e2 e3 e4 e5 e6 e7 => ?_)
  have f63 := e3 63 (by decide) (by decide)
  have c1 := cnt_le (dn := dn) (12 + V)
  have c2 : lam * (12 + V - cnt dn' (12 + V)) ≤ lam * (12 + V - cnt dn (12 + V)) + lam := by
    have := Nat.mul_le_mul_left lam (show 12 + V - cnt dn' (12 + V) ≤ (12 + V - cnt dn (12 + V)) + 1 by omega)
    rwa [Nat.mul_succ] at this
  refine kk τ s' L' dn' (ot + 1) (n + 1) e1 e2 ⟨fun j _ => by rw [e3 64 (by decide) (by decide)], fun j _ => by rw [e3 65 (by decide) (by decide), e3 66 (by decide) (by decide), e3 67 (by decide) (by decide)]; exact ⟨rfl, rfl, rfl⟩, fun j _ => by rw [e3 68 (by decide) (by decide)], fun v cv => ?_⟩ ⟨true, fun q => (by cases q), ?_⟩ (by omega)
  · rw [e4, FvN_cg f63]
    exact SM_set a0 (by rw [Int.toNat_natCast]; exact e7 v cv)
  · unfold pot
    rw [nf_cg f63, Nat.mul_succ, show true.toNat = 1 from rfl, Nat.mul_one]
    omega
theorem t_assert {dp i lp as : Nat} {e : q_Ex} (hd : 7 ≤ d) (hc : CT0 p V WI WU S σ0) (hP : PRM V ka lam b x y T) (hBUD : BUD ≤ 532012) (hdp : dp ≤ 30) (pe : PE (cI WI WU V) e ∧ hB e.1 0 = some 1) : TCl ω d p V WI WU S σ0 K ka lam b x y T BUD false dp i lp as [(2, (as : Int), 0, e.1)] (e.2.2.1 + 8) (as + 1) := by
  refine ⟨fun _ => hdp, by rw [wWs_1 (by decide)]; omega, by omega, fun hA _ h512 fm n s σ L dn ot hf hl h hpot hst kk => ?_⟩
  obtain ⟨a0, -⟩ := At_cons hA
  rw [wWs_1 (by decide)] at hpot kk
  have e8 := EB8_a (V := V) (L := 0) (w1 := 0) (w := e.2.2.1 + 8) (a := 1) (by omega)
  have ln : ([(2, (as : Int), 0, e.1)] : List q_St).length = 1 := rfl
  rw [ln] at kk hpot hst
  rw [Nat.zero_add] at e8
  have pg := pot_ge (V := V) (lam := lam) (b := b) (s := s) (L := L) (σ := σ) (dn := dn) (ot := ot)
  obtain ⟨⟨P1, P2, P3, P4, P5⟩, -⟩ := hP
  have m1 := Nat.mul_le_mul_right e.2.2.1 P4
  have m2 : ka * (e.2.2.1 + 8) = ka * e.2.2.1 + 8 * ka := by rw [Nat.mul_add]; omega
  rw [m2] at hpot kk
  refine L_assert hd hc h a0 pe.1 pe.2 (by omega) (by omega) (by omega) (fun τ s' L' e1 e2 e3 e4 e5 => ?_)
  refine kk τ s' L' dn ot (n + 1) e1 e2 ⟨fun j _ => by rw [e3 64 (by decide) (by decide)], fun j _ => by rw [e3 65 (by decide) (by decide), e3 66 (by decide) (by decide), e3 67 (by decide) (by decide)]; exact ⟨rfl, rfl, rfl⟩, fun j _ => by rw [e3 68 (by decide) (by decide)], fun v cv => ?_⟩ ⟨false, fun _ => ⟨fun j _ => by rw [e3 62 (by decide) (by decide)], fun _ => ?_⟩, ?_⟩ (by omega)
  · obtain ⟨q1, q2, q3⟩ := e5 v cv
    rw [UvN_cg (σ := σ) (τ := τ) (fun j _ => by rw [e3 62 (by decide) (by decide)])]
    refine SM_asr a0 q1 ?_
    funext k
    unfold FvN
    by_cases c : lvb v (z σ 48 4) && !decide (wth (IvN σ v) (UvN σ v) e.1 ≠ 0)
    · rw [if_pos c]
      unfold upq
      by_cases ck : k = as
      · rw [if_pos ck, ck, if_pos (by omega), q3, c]; simp
      · rw [if_neg ck, q2 k ck]
    · rw [if_neg c]
      by_cases ck : k = as
      · rw [ck, q3]
        have c' : (lvb v (z σ 48 4) && !decide (wth (IvN σ v) (UvN σ v) e.1 ≠ 0)) = false := by simpa using c
        rw [c']; simp
      · rw [q2 k ck]
  · unfold pot; omega
  · unfold pot
    rw [show false.toNat = 0 from rfl, Nat.mul_zero]
    omega
theorem t_assume {dp i lp as : Nat} {a : Int} {e : q_Ex} (hd : 7 ≤ d) (hc : CT0 p V WI WU S σ0) (hP : PRM V ka lam b x y T) (hBUD : BUD ≤ 532012) (hdp : dp ≤ 30) (pe : PE (cI WI WU V) e ∧ hB e.1 0 = some 1) : TCl ω d p V WI WU S σ0 K ka lam b x y T BUD false dp i lp as [(3, a, 0, e.1)] (e.2.2.1 + 8) as := by
  refine ⟨fun _ => hdp, by rw [wWs_1 (by decide)]; omega, by omega, fun hA _ h512 fm n s σ L dn ot hf hl h hpot hst kk => ?_⟩
  obtain ⟨a0, -⟩ := At_cons hA
  rw [wWs_1 (by decide)] at hpot kk
  have e8 := EB8_a (V := V) (L := 0) (w1 := 0) (w := e.2.2.1 + 8) (a := 1) (by omega)
  have ln : ([(3, a, 0, e.1)] : List q_St).length = 1 := rfl
  rw [ln] at kk hpot hst
  rw [Nat.zero_add] at e8
  have pg := pot_ge (V := V) (lam := lam) (b := b) (s := s) (L := L) (σ := σ) (dn := dn) (ot := ot)
  obtain ⟨⟨P1, P2, P3, P4, P5⟩, -⟩ := hP
  have m1 := Nat.mul_le_mul_right e.2.2.1 P4
  have m2 : ka * (e.2.2.1 + 8) = ka * e.2.2.1 + 8 * ka := by rw [Nat.mul_add]; omega
  rw [m2] at hpot kk
  refine L_assume hd hc h a0 pe.1 pe.2 (by omega) (by omega) (fun τ s' L' e1 e2 e3 e4 e5 => ?_)
  have f63 := e3 63 (by decide)
  refine kk τ s' L' dn ot (n + 1) e1 e2 ⟨fun j _ => by rw [e3 64 (by decide)], fun j _ => by rw [e3 65 (by decide), e3 66 (by decide), e3 67 (by decide)]; exact ⟨rfl, rfl, rfl⟩, fun j _ => by rw [e3 68 (by decide)], fun v cv => ?_⟩ ⟨false, fun _ => ⟨fun j _ => by rw [e3 62 (by decide)], fun _ => ?_⟩, ?_⟩ (by omega)
  · rw [UvN_cg (σ := σ) (τ := τ) (fun j _ => by rw [e3 62 (by decide)]), FvN_cg f63]
    exact SM_asm a0 (e5 v cv)
  · unfold pot; rw [nf_cg f63]; omega
  · unfold pot
    rw [show false.toNat = 0 from rfl, Nat.mul_zero, nf_cg f63]
    omega
end TcP
