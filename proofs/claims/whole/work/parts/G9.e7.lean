/-! OVER A TREE: loops as steps; EVERY TREE -/
theorem we_1 {k L w1 Y ew E : Nat} (hY : 8 + w1 ≤ Y) (hE : E = L * (8 + w1)) : 16 + k * (16 + E) ≤ (L + 3) * (8 + (k * Y + ew)) := by
  have h1 : k * (16 + E) = k * 16 + k * E := Nat.mul_add _ _ _
  have h2 : (L + 3) * (8 + (k * Y + ew)) = L * (8 + (k * Y + ew)) + 3 * (8 + (k * Y + ew)) := Nat.add_mul _ _ _
  have h3 : L * (8 + (k * Y + ew)) = L * 8 + L * (k * Y + ew) := Nat.mul_add _ _ _
  have h4 : k * E ≤ L * (k * Y + ew) := by
    rw [hE, Nat.mul_left_comm]
    exact Nat.mul_le_mul_left L (Nat.le_trans (Nat.mul_le_mul_left k hY) (Nat.le_add_right _ _))
  have h5 : k * 8 ≤ k * Y := Nat.mul_le_mul_left k (Nat.le_trans (Nat.le_add_right 8 w1) hY)
  omega
theorem SM_false {S : List q_St} {W : Nat → Int} {I : Nat → Nat} {PR : (Nat → Int) → Prop} {i j lp : Nat} {U U' U'' : Nat → Nat} {F F' : Nat → Bool} {G' : Bool} (h : SMr S W I PR i j lp false U F G' U' F') : SMr S W I PR i j lp false U F G' U'' F' := ⟨h.1, fun q => by cases q⟩
theorem wl_1 {A A1 A2 R2 ke x e Tc1 v BUD Z xS yl y : Nat} (hpot : A + (Z + xS + yl) ≤ BUD) (hcc : A1 + Tc1 ≤ A + (208 * e + 156 + 2 * 0 + v + R2)) (hv : v = 0) (h : 208 * e + R2 + ke + x + 2 * y ≤ Z + xS + yl) (hy : 156 ≤ 2 * y) : A1 + (ke + x) ≤ BUD ∧ (A2 ≤ A1 + (ke + x) → A2 + 0 ≤ A + (Z + xS + yl)) := by omega
theorem wl_2 {A R2 ke x e BUD Z xS yl y : Nat} (hpot : A + (Z + xS + yl) ≤ BUD) (h : 208 * e + R2 + ke + x + 2 * y ≤ Z + xS + yl) (hy : 156 ≤ 2 * y) : A + (208 * e + (156 + 0 + 780 * 0 + R2)) ≤ BUD := by omega
section TjP
variable {ω : q_W} {d p V : Nat} {σ0 : q_H} {WI WU : Nat → Int} {S : List q_St} {K : q_H → Prop} {ka lam b x y T BUD : Nat}
theorem CT_len (hc : CT0 p V WI WU S σ0) : S.length ≤ 1638 := by
  have h1 := hc.2.1.2.1
  have h2 := hc.2.1.1.2.2.2.1.2.1
  omega
theorem t_while {dp i lp as k w1 a1 : Nat} {l1 : List q_St} {e : q_Ex} (hd : 7 ≤ d) (hc : CT0 p V WI WU S σ0) (hP : PRM V ka lam b x y T) (hBUD : BUD ≤ 532012) (hdp : dp ≤ 30) (pe : PE (cI WI WU V) e ∧ hB e.1 0 = some 1) (hk : k ≤ 8) (hb : TCl ω d p V WI WU S σ0 K ka lam b x y T BUD false (dp + 1) (i + 2) (lp + 1) as l1 w1 a1) : TCl ω d p V WI WU S σ0 K ka lam b x y T BUD false dp i lp as ((7, (k : Int), (lp : Int), []) :: (8, (lp : Int), ((i + 2 + l1.length + 1 : Nat) : Int), e.1) :: (l1 ++ [(9, 0, ((i + 1 : Nat) : Int), [])])) (k * (e.2.2.1 + w1 + 8 * V) + e.2.2.1) a1 := by
  have ws : wWs ((7, (k : Int), (lp : Int), []) :: (8, (lp : Int), ((i + 2 + l1.length + 1 : Nat) : Int), e.1) :: (l1 ++ [(9, 0, ((i + 1 : Nat) : Int), [])])) = wWs l1 + 1 := by
    show (if (7 : Int) = 8 then 1 else 0) + ((if (8 : Int) = 8 then 1 else 0) + wWs (l1 ++ [(9, 0, ((i + 1 : Nat) : Int), [])])) = _
    rw [wWs_app, wWs_1 (by decide), if_neg (by decide), if_pos rfl]; omega
  have ll : ((7, (k : Int), (lp : Int), []) :: (8, (lp : Int), ((i + 2 + l1.length + 1 : Nat) : Int), e.1) :: (l1 ++ [(9, 0, ((i + 1 : Nat) : Int), [])]) : List q_St).length = l1.length + 3 := by simp
  have b2 := hb.2.1
  refine ⟨fun _ => hdp, by rw [ws, ll]; omega, hb.2.2.1, fun hA hl h5 fm n s σ L dn ot hf hlp h hpot hst kk => ?_⟩
  obtain ⟨a0, A1⟩ := At_cons hA
  obtain ⟨h0, A2'⟩ := At_cons A1
  obtain ⟨A2, A3⟩ := At_app A2'
  have h9 := (At_cons A3).1
  rw [ll] at hl hst kk hpot
  rw [ws] at hpot kk
  have sl := CT_len hc
  have i9 : i + 2 + l1.length < S.length := (List.getElem?_eq_some_iff.mp h9).1
  have hi : i + 1 ≤ 2048 := by clear hpot hst; omega
  have hj : i + 2 + l1.length + 1 ≤ 2048 := by clear hpot hst; omega
  have ll1 : l1.length ≤ 1638 := by clear hpot hst; omega
  have lp32 : lp < 32 := by clear hpot hst; omega
  have eend : i + (l1.length + 3) = i + 2 + l1.length + 1 := by clear hpot hst; omega
  rw [eend] at kk
  by_cases cV : V = 0
  · obtain ⟨⟨P1, P2, P3, P4, P5⟩, -, P6, -, -, P0, -⟩ := id hP
    obtain ⟨z1, z2, z3⟩ := P0 cV
    subst cV
    subst z1
    subst z2
    subst z3
    have y78 : 156 ≤ 2 * y := by rw [Nat.zero_mul] at P6; simp at P6; omega
    have n1 : n < 1000000 ∧ n + 1 < 1000000 ∧ 8 * (n + 1) + (16 + EB8 0 l1.length w1) ≤ 7999992 := by
      unfold EB8 at hst ⊢
      rw [if_pos rfl] at hst ⊢
      clear hpot y78 P1 P2 P3 P4 P5 P6
      omega
    -- no VARIABLE is ever set
    have U0 : ∀ {fm' s' L' dn' ot'} {τ : q_H} {v : Nat → Bool}, EI p 0 WI WU fm' σ0 τ s' L' dn' ot' → UvN τ v = UvN σ v := fun {_ _ _ _ _} {τ} {v} hE => UvN_cg (fun j hj' => by rw [(hE.2.2.2.2.2.1 j (by omega) hj').1, (h.2.2.2.2.2.1 j (by omega) hj').1])
    have B0 : ∀ {fm' s' L' dn' ot'} {τ : q_H}, EI p 0 WI WU fm' σ0 τ s' L' dn' ot' → ∀ j, j < 96 → z τ 62 j = z σ 62 j := fun {_ _ _ _ _} {τ} hE j hj' => by rw [(hE.2.2.2.2.2.1 j (by omega) hj').1, (h.2.2.2.2.2.1 j (by omega) hj').1]
    have m1 := Nat.mul_le_mul_right e.2.2.1 P4
    refine L_loop hd hc h a0 lp32 hk n1.1 (fun τ0 E0 me0 o0 f68 z68 => ?_)
    rw [if_pos rfl] at z68
    have p0 : ∀ la, pot 0 la 0 s L τ0 dn ot = pot 0 la 0 s L σ dn ot := fun la => by unfold pot; rw [nf_cg (o0 63 (by decide) (by decide))]
    have i0 : ∀ v, IvN τ0 v = IvN σ v := fun v => IvN_cg (o0 61 (by decide) (by decide))
    have u0 : ∀ v, UvN τ0 v = UvN σ v := fun v => U0 E0
    have f0 : ∀ v, FvN τ0 v = FvN σ v := fun v => FvN_cg (o0 63 (by decide) (by decide))
    have g0 : z τ0 48 4 = z σ 48 4 := by rw [o0 48 (by decide) (by decide)]
    cases k with
    | zero =>
      have hp' : pot 0 0 0 s L τ0 dn ot + (ka * e.2.2.1 + x) ≤ BUD := by
        rw [p0]
        refine Nat.le_trans ?_ hpot
        rw [Nat.zero_mul, Nat.zero_add, Nat.mul_succ]
        generalize pot 0 0 0 s L σ dn ot = A
        generalize ka * e.2.2.1 = B
        generalize x * wWs l1 = C
        generalize y * (l1.length + 3) = D
        clear hpot y78 P1 P2 P3 P4 P5 P6 m1
        omega
      refine t_last hd hc hP hBUD pe h0 hj lp32 E0 z68 hp' n1.2.1 (fun τ s' L' dn' ot' e1 e2 e3 e4 e5 e6 => ?_)
      have f63 := e3 63 (by decide) (by decide)
      refine kk τ s' L' dn' ot' (n + 1 + 1) e1 (ME_tr me0 e2) ⟨fun j _ => by rw [e3 64 (by decide) (by decide), o0 64 (by decide) (by decide)], fun j _ => by rw [e3 65 (by decide) (by decide), e3 66 (by decide) (by decide), e3 67 (by decide) (by decide), o0 65 (by decide) (by decide), o0 66 (by decide) (by decide), o0 67 (by decide) (by decide)]; exact ⟨rfl, rfl, rfl⟩, fun j hj' => by rw [e3 68 (by decide) (by decide), f68 j (Nat.ne_of_lt hj')], fun v cv => ?_⟩ ⟨false, fun _ => ⟨B0 e1, fun q => by cases q⟩, ?_⟩ ?_
      · have s4 := e4 v cv
        rw [i0 v, u0 v, g0] at s4
        rw [U0 e1, FvN_cg f63, f0 v]
        exact SM_loop a0 (SMq_0 h0 s4)
      · rw [Nat.zero_mul, Nat.add_zero]
        rw [p0] at e6
        refine Nat.le_trans e6 ?_
        rw [Nat.zero_mul, Nat.zero_add, Nat.mul_succ]
        generalize pot 0 0 0 s L σ dn ot = A
        generalize ka * e.2.2.1 = B
        generalize x * wWs l1 = C
        generalize y * (l1.length + 3) = D
        clear hpot y78 P1 P2 P3 P4 P5 P6 m1 e6 hp'
        omega
      · unfold EB8
        rw [if_pos rfl]
        clear hpot y78 P1 P2 P3 P4 P5 P6 m1 hp' hst n1 e6
        omega
    | succ k =>
      rw [show ((min (k + 1) 1 : Nat) : Int) = ((0 + 1 : Nat) : Int) by congr 1; clear hpot hst; omega] at z68
      have key : 208 * e.2.2.1 + (ka * w1 + x * wWs l1 + y * l1.length) + ka * e.2.2.1 + x + 2 * y ≤ ka * ((k + 1) * (e.2.2.1 + w1 + 8 * 0) + e.2.2.1) + x * (wWs l1 + 1) + y * (l1.length + 3) := by
        have t1 : ka * ((k + 1) * (e.2.2.1 + w1 + 8 * 0) + e.2.2.1) = ka * ((k + 1) * (e.2.2.1 + w1)) + ka * e.2.2.1 := Nat.mul_add ka ((k + 1) * (e.2.2.1 + w1)) e.2.2.1
        have t2 : ka * (e.2.2.1 + w1) ≤ ka * ((k + 1) * (e.2.2.1 + w1)) := Nat.mul_le_mul_left ka (Nat.le_mul_of_pos_left _ (Nat.succ_pos k))
        rw [Nat.mul_add] at t2
        rw [t1, Nat.mul_succ, Nat.mul_add y]
        generalize ka * ((k + 1) * (e.2.2.1 + w1)) = A at *
        generalize ka * e.2.2.1 = B at *
        generalize ka * w1 = C at *
        generalize x * wWs l1 = D at *
        generalize y * l1.length = E at *
        clear hpot y78 P1 P2 P3 P4 P5 P6 hst n1 t1
        omega
      refine t_round (q := 0) hd hc hBUD hdp pe hb h0 A2 h9 hi ll1 h5 (by decide) hf hlp E0 z68 (by rw [p0, Nat.zero_mul]; exact wl_2 hpot key y78) n1.2.2 (fun τ1 s1 L1 n1' c1 e1 me1 r64 r65 r68 rlp sem hcf hcc bn => ?_)
      rw [p0, Nat.zero_mul] at hcc
      have wl := fun A2' => wl_1 (A2 := A2') hpot hcc (by simp) key y78
      have nn : n1' < 1000000 := by
        clear wl hcc key hpot y78 P1 P2 P3 P4 P5 P6 m1
        have := n1.2.2
        omega
      refine t_last hd hc hP hBUD pe h0 hj lp32 e1 rlp (wl 0).1 nn (fun τ s' L' dn' ot' e2 me2 e3 e4 e5 e6 => ?_)
      have f63 := e3 63 (by decide) (by decide)
      refine kk τ s' L' dn' ot' (n1' + 1) e2 (ME_tr (ME_tr me0 me1) me2) ⟨fun j hj' => by rw [e3 64 (by decide) (by decide), r64 j hj', o0 64 (by decide) (by decide)], fun j hj' => ?_, fun j hj' => by rw [e3 68 (by decide) (by decide), r68 j hj', f68 j (Nat.ne_of_lt hj')], fun v cv => ?_⟩ ⟨false, fun _ => ⟨B0 e2, fun q => by cases q⟩, ?_⟩ ?_
      · obtain ⟨q1, q2, q3⟩ := r65 j hj'
        rw [e3 65 (by decide) (by decide), e3 66 (by decide) (by decide), e3 67 (by decide) (by decide), q1, q2, q3, o0 65 (by decide) (by decide), o0 66 (by decide) (by decide), o0 67 (by decide) (by decide)]; exact ⟨rfl, rfl, rfl⟩
      · have cv1 := CSv_GM cv me2.2.2
        obtain ⟨G2, U2, F2, s1', s2', s3', s4'⟩ := sem v cv1
        have s4 := e4 v cv
        rw [IvN_cg (show z τ1 61 = z σ 61 by rw [EI_61 e1, EI_61 h]), U0 e1] at s4
        rw [i0 v, u0 v, g0, f0 v] at s1'
        rw [i0 v, u0 v, g0] at s2'
        rw [i0 v, u0 v, U0 e1] at s3'
        rw [U0 e2, FvN_cg f63]
        refine SM_loop a0 (SMq_1 (Nat.le_of_succ_le hk) h0 h9 (G2 := G2) (F2 := F2) ?_ s2' s4' s4)
        by_cases cw : wth (IvN σ v) (UvN σ v) e.1 = 0
        · have ed : decide (wth (IvN σ v) (UvN σ v) e.1 ≠ 0) = false := decide_eq_false (fun q => q cw)
          rw [ed, Bool.and_false] at s1' ⊢
          exact SM_false s1'
        · have ed : decide (wth (IvN σ v) (UvN σ v) e.1 ≠ 0) = true := decide_eq_true cw
          rw [ed, if_pos rfl] at s3'
          rw [← s3'] at s1'
          exact s1'
      · rw [Nat.zero_mul]
        exact (wl _).2 e6
      · unfold EB8 at bn ⊢
        rw [if_pos rfl] at bn ⊢
        clear wl hcc key hpot y78 P1 P2 P3 P4 P5 P6 m1 e6 hst n1 nn
        omega
  · have kw : ka * (k * (e.2.2.1 + w1 + 8 * V) + e.2.2.1) = k * (ka * (e.2.2.1 + w1 + 8 * V)) + ka * e.2.2.1 := by rw [Nat.mul_add, Nat.mul_left_comm]
    have y0 : y * (l1.length + 3) = 0 := by rw [hP.2.2.2.2.2.2 cV, Nat.zero_mul]
    have xs : x * (wWs l1 + 1) = x * wWs l1 + x := Nat.mul_succ _ _
    rw [kw, y0, Nat.add_zero, xs] at hpot kk
    have eb : EB8 V l1.length w1 = l1.length * (8 + w1) := by unfold EB8; rw [if_neg cV]
    have we := we_1 (k := k) (L := l1.length) (w1 := w1) (Y := e.2.2.1 + w1 + 8 * V) (ew := e.2.2.1) (E := EB8 V l1.length w1) (by clear hpot hst; omega) eb
    have eE : EB8 V (l1.length + 3) (k * (e.2.2.1 + w1 + 8 * V) + e.2.2.1) = (l1.length + 3) * (8 + (k * (e.2.2.1 + w1 + 8 * V) + e.2.2.1)) := by
      show (if V = 0 then _ else _) = _
      rw [if_neg cV]
    rw [← eE] at we
    have n1 : n < 1000000 ∧ 8 * (n + 1) + (8 + k * (16 + EB8 V l1.length w1)) ≤ 7999992 := by clear hpot; omega
    refine L_loop hd hc h a0 lp32 hk n1.1 (fun τ0 E0 me0 o0 f68 z68 => ?_)
    rw [if_neg cV] at z68
    have p0 : ∀ la, pot V la b s L τ0 dn ot = pot V la b s L σ dn ot := fun la => by unfold pot; rw [nf_cg (o0 63 (by decide) (by decide))]
    refine t_rounds hd hc hP cV hBUD hdp pe hb h0 A2 h9 hi hj ll1 h5 hf hlp k (n + 1) s τ0 L dn ot hk E0 z68 (by rw [p0]; exact hpot) n1.2 (fun τ s' L' dn' ot' n' e1 me1 r64 r65 r68 sem pt bn => ?_)
    refine kk τ s' L' dn' ot' n' e1 (ME_tr me0 me1) ⟨fun j hj' => by rw [r64 j hj', o0 64 (by decide) (by decide)], fun j hj' => ?_, fun j hj' => by rw [r68 j hj', f68 j (Nat.ne_of_lt hj')], fun v cv => ?_⟩ ?_ ?_
    · obtain ⟨q1, q2, q3⟩ := r65 j hj'
      rw [q1, q2, q3, o0 65 (by decide) (by decide), o0 66 (by decide) (by decide), o0 67 (by decide) (by decide)]
      exact ⟨rfl, rfl, rfl⟩
    · have r := sem v cv
      rw [IvN_cg (o0 61 (by decide) (by decide)), UvN_cg (σ := σ) (τ := τ0) (fun j _ => by rw [o0 62 (by decide) (by decide)]), FvN_cg (o0 63 (by decide) (by decide)), o0 48 (by decide) (by decide)] at r
      exact SM_loop a0 r
    · obtain ⟨c, g1, g2⟩ := pt
      refine ⟨c, fun q => ⟨fun j hj' => by rw [(g1 q).1 j hj', o0 62 (by decide) (by decide)], fun hV => ?_⟩, ?_⟩
      · have := (g1 q).2 hV
        rw [p0] at this
        exact this
      · rw [p0] at g2
        exact g2
    · clear hpot; omega
/-- every tree -/
theorem t_tree {bb : Bool} {dp i lp as w a1 : Nat} {l : List q_St} (hd : 7 ≤ d) (hc : CT0 p V WI WU S σ0) (hP : PRM V ka lam b x y T) (hBUD : BUD ≤ 532012) (h : TS V (fun e => PE (cI WI WU V) e ∧ hB e.1 0 = some 1) bb dp i lp as l w a1) : TCl ω d p V WI WU S σ0 K ka lam b x y T BUD bb dp i lp as l w a1 := by
  refine h (TCl ω d p V WI WU S σ0 K ka lam b x y T BUD) ⟨fun dp i lp as v e h1 h2 h3 => ?_, fun dp i lp as e h1 h2 => t_assert hd hc hP hBUD h1 h2, fun dp i lp as e h1 h2 => t_assume hd hc hP hBUD h1 h2, fun dp i lp as e l1 w1 a1 h1 h2 h3 => t_if hd hc hP hBUD h1 h2 h3, fun dp i lp as e l1 w1 a1 l2 w2 a2 h1 h2 h3 h4 => t_ife hd hc hP hBUD h1 h2 h3 h4, fun dp i lp as k e l1 w1 a1 h1 h2 h3 h4 => t_while hd hc hP hBUD h1 h2 h3 h4, fun dp i lp as l w a1 h1 h2 => t_block h1 h2, fun dp i lp as => tt_nil, fun dp i lp as l w a1 l2 w2 a2 h1 h2 => t_seq h1 h2⟩
  obtain ⟨k, rfl⟩ : ∃ k : Nat, v = (k : Int) := ⟨v.toNat, by omega⟩
  exact tt_set hd hc hP hBUD h1 h2 (by omega)
end TjP
