/-! The class runs a PROGRAM's steps -/
theorem lsS_get {A Wh G Fr Ti : Nat → Int} : ∀ (S : List q_St) (i o : Nat), lsS A Wh G Fr Ti S i o → ∀ (j : Nat) (x : q_St), S[j]? = some x → ∃ q, A (i + j) = x.1 ∧ Wh (i + j) = x.2.1 ∧ G (i + j) = x.2.2.1 ∧ Fr (i + j) = ((o + q : Nat) : Int) ∧ Ti (i + j) = ((o + q + x.2.2.2.length : Nat) : Int) ∧ q + x.2.2.2.length ≤ (itF S).length ∧ ∀ r y, x.2.2.2[r]? = some y → (itF S)[q + r]? = some y
  | [], _, _, _, j, x, h => by simp at h
  | y :: S, i, o, ⟨⟨h1, h2, h3, h4, h5⟩, h6⟩, 0, x, h => by
    have : y = x := by simpa using h
    subst this
    refine ⟨0, h1, h2, h3, h4, h5, by show _ ≤ (y.2.2.2 ++ itF S).length; rw [List.length_append]; omega, fun r z hz => ?_⟩
    show (y.2.2.2 ++ itF S)[0 + r]? = _
    rw [Nat.zero_add, List.getElem?_append_left (by
      obtain ⟨hl, -⟩ := List.getElem?_eq_some_iff.mp hz
      exact hl)]
    exact hz
  | y :: S, i, o, ⟨⟨h1, h2, h3, h4, h5⟩, h6⟩, j + 1, x, h => by
    obtain ⟨q, a1, a2, a3, a4, a5, a6, a7⟩ := lsS_get S (i + 1) (o + y.2.2.2.length) h6 j x (by simpa using h)
    have e : i + 1 + j = i + (j + 1) := by omega
    rw [e] at a1 a2 a3 a4 a5
    refine ⟨y.2.2.2.length + q, a1, a2, a3, by rw [a4]; congr 1; omega, by rw [a5]; congr 1; omega, by show _ ≤ (y.2.2.2 ++ itF S).length; rw [List.length_append]; omega, fun r z hz => ?_⟩
    show (y.2.2.2 ++ itF S)[y.2.2.2.length + q + r]? = _
    rw [List.getElem?_append_right (by omega), show y.2.2.2.length + q + r - y.2.2.2.length = q + r by omega]
    exact a7 r z hz
/-- the PROGRAM at p is the steps S -/
def PS2 (p : Nat) (WI : Nat → Int) (V : Nat) (S : List q_St) (σ : q_H) : Prop := GP p σ ∧ (z σ p 11 = (S.length : Int)) ∧ lsS (z σ (p + 5)) (z σ (p + 6)) (z σ (p + 9)) (z σ (p + 7)) (z σ (p + 8)) S 0 0 ∧ (z σ p 17 = ((itF S).length : Int) ∧ lsI (itF S) (z σ (p + 10)) (z σ (p + 11)) (z σ (p + 12))) ∧
  ∀ x, x ∈ S → gI (cI WI (z σ (p + 3)) V) x.2.2.2 ∧ (x.2.2.2 = [] ∨ ∃ e : q_Ex, e.1 = x.2.2.2 ∧ XG 400 e)
/-- the machine while it runs -/
def MR (m p w : Nat) (σ0 σ : q_H) : Prop := q_E σ ∧ q_r σ m 5 = p ∧ q_r σ m 6 = w ∧ fr [m, m + 1, m + 2, m + 3] σ0 σ ∧ b256 (z σ (m + 1)) ∧ uO (z σ0 (p + 3)) (nw (z σ (m + 1)))
section CrP
variable {ω : q_W} {d m p w : Nat} {σ0 σ : q_H} {WI : Nat → Int} {V : Nat} {S : List q_St}
theorem c_worth {K : Int → q_H → Prop} {i : Nat} {x : q_St} (hd : 3 ≤ d) (hm : m = 43 ∨ m = 87) (hp : p = 16 ∨ p = 29) (hw : w = 42 ∨ w = 91) (hS : PS2 p WI V S σ0) (hI : b256 (z σ0 w)) (hIo : uO WI (nw (z σ0 w))) (hr : MR m p w σ0 σ) (hx : S[i]? = some x)
    (kk : ∀ τ, fr [m + 3] σ τ → wth (nw (z σ0 w)) (nw (z σ (m + 1))) x.2.2.2 < 256 → K ((wth (nw (z σ0 w)) (nw (z σ (m + 1))) x.2.2.2 : Nat) : Int) τ) : J ω m_Ma_worth d 0 0 0 0 0 [(0, .ref m), (1, .int (zI (z σ (p + 7) i))), (2, .int (zI (z σ (p + 8) i)))] [] σ (q_ki K) := by
  obtain ⟨d, rfl⟩ : ∃ k, d = k + 1 := ⟨d - 1, by omega⟩
  obtain ⟨hE, r5, r6, f, hU, hUo⟩ := id hr
  obtain ⟨g, h11, hls, ⟨h17, hli⟩, hg⟩ := hS
  have np : ∀ o, p ≤ o → o ≤ p + 12 → z σ o = z σ0 o := fun o h1 h2 => fr_zF f (by simp; omega)
  have zw : z σ w = z σ0 w := fr_zF f (by simp; omega)
  obtain ⟨q, a1, a2, a3, a4, a5, a6, a7⟩ := lsS_get S 0 0 hls i x hx
  rw [Nat.zero_add] at a1 a2 a3 a4 a5
  rw [Nat.zero_add] at a4 a5
  have xS : x ∈ S := List.mem_of_getElem? hx
  obtain ⟨gc, gx⟩ := hg x xS
  have g17 := g.2.2.1
  rw [np (p + 7) (by omega) (by omega), np (p + 8) (by omega) (by omega), a4, a5]
  refine b_Ma_worth_0 hm hp hw r5 r6 hE ?_
  have oks : ∀ y, y ∈ x.2.2.2 → okI y := fun y hy => by
    obtain ⟨r, hr'⟩ := List.mem_iff_getElem?.mp hy
    have hr2 := a7 r y hr'
    have hl := hli _ _ hr2
    obtain ⟨hlt, -⟩ := List.getElem?_eq_some_iff.mp hr2
    have it := g17.2.2 (q + r) (by omega)
    obtain ⟨c0, c1, c2, c3⟩ := gc y hy
    unfold IT at it
    rw [hl.1] at it
    refine ⟨⟨it.1, it.2.1⟩, fun e => ?_, fun e => ?_, c0⟩
    · have := le256 c0 (c1 e).2
      have := (c1 e).1
      omega
    · have ck : y.1 = 24 ∨ y.1 = 25 := by omega
      rcases ck with e | e
      · exact (c2 e).1
      · exact (c3 e).1
  have ha : itA p σ q x.2.2.2 := fun j y hy => by
    rw [np (p + 10) (by omega) (by omega), np (p + 11) (by omega) (by omega), np (p + 12) (by omega) (by omega)]
    exact hli _ _ (a7 j y hy)
  have evs : (evC (nw (z σ0 w)) (nw (z σ (m + 1))) x.2.2.2 []).getLastD 0 = wth (nw (z σ0 w)) (nw (z σ (m + 1))) x.2.2.2 ∧ ∃ h', hB x.2.2.2 0 = some h' := by
    rcases gx with e | ⟨e, e1, e2⟩
    · rw [e]; exact ⟨rfl, 0, rfl⟩
    · rw [← e1] at gc ⊢
      obtain ⟨v, v1, v2, v3⟩ := e2.2.2 (nw (z σ0 w)) (nw (z σ (m + 1))) (vI_of gc hIo hUo)
      rw [EV_wth v1, v2]
      exact ⟨rfl, _, e2.2.1 0 (by omega)⟩
  obtain ⟨ev1, h', ev2⟩ := evs
  exact l_worth (σ0 := σ) (by omega) hm hp hw r5 r6 hE (by rw [zw]; exact hI) hU (by rw [zw]) rfl (show q + x.2.2.2.length ≤ 4096 by omega) x.2.2.2 q [] σ h' rfl ha oks fr_refl trivial (fun y hy => by cases hy) (by simp) ev2 (fun τ ht lt => by
    rw [ev1] at lt ⊢
    exact kk τ ht lt)
/-- what one step makes of the machine -/
def nxT (m : Nat) (y : Sum q_Ms q_Sp) (v : Int) (τ : q_H) : Prop := match y with
  | .inl c => v = (c.1 : Int) ∧ nw (z τ (m + 1)) = c.2.1 ∧ z τ (m + 2) = c.2.2 ∧ z τ m 0 = 0 ∧ z τ m 1 = -1
  | .inr s => nw (z τ (m + 1)) = s.2.2 ∧ z τ m 0 = s.1 ∧ z τ m 1 = s.2.1 ∧ s.1 ≠ 0
theorem MR_s {o k : Nat} {e : Int} (hm : m = 43 ∨ m = 87) (h : MR m p w σ0 σ) (ho : o = m ∨ o = m + 2 ∨ o = m + 3) : MR m p w σ0 (zs σ o k e) := by
  obtain ⟨a, b, c, f, g, u⟩ := h
  refine ⟨zs_E a, b, c, fr_s f (by simp; omega), ?_, ?_⟩
  · rw [z_oF (by omega)]; exact g
  · rw [z_oF (by omega)]; exact u
theorem c_perform {K : Int → q_H → Prop} {i : Nat} {x : q_St} {v : Nat} (hd : 2 ≤ d) (hm : m = 43 ∨ m = 87) (hp : p = 16 ∨ p = 29) (hw : w = 42 ∨ w = 91) (hS : PS2 p WI V S σ0) (hr : MR m p w σ0 σ) (hx : S[i]? = some x) (h0 : z σ m 0 = 0) (h1 : z σ m 1 = -1) (hv : wth (nw (z σ0 w)) (nw (z σ (m + 1))) x.2.2.2 = v) (lv : v < 256)
    (kk : ∀ r τ, 0 ≤ r ∧ r ≤ (S.length : Int) → MR m p w σ0 τ → nxT m (mNx S (z σ0 (p + 3)) (nw (z σ0 w)) (i, nw (z σ (m + 1)), z σ (m + 2))) r τ → K r τ) : J ω m_Ma_perform d 0 0 0 0 0 [(0, .ref m), (1, .int (zI (i : Int))), (2, .int (zI (v : Int)))] [] σ (q_ki K) := by
  obtain ⟨d, rfl⟩ : ∃ k, d = k + 1 := ⟨d - 1, by omega⟩
  obtain ⟨hE, r5, r6, f, hU, hUo⟩ := id hr
  obtain ⟨g, h11, hls, -, -⟩ := hS
  have np : ∀ o, p ≤ o → o ≤ p + 12 → z σ o = z σ0 o := fun o h1 h2 => fr_zF f (by simp; omega)
  obtain ⟨q, a1, a2, a3, -, -, -, -⟩ := lsS_get S 0 0 hls i x hx
  rw [Nat.zero_add] at a1 a2 a3
  obtain ⟨iS, -⟩ := List.getElem?_eq_some_iff.mp hx
  obtain ⟨n0, n1, n2⟩ := g.2.2.2.1
  obtain ⟨s1, -, s3, -, s5, s6, s7, -, -, -, -⟩ := n2 i (by omega)
  have wd := g.2.2.2.2.2.2.2
  rw [a1] at s1 s3 s5 s6 s7
  rw [a2] at s3 s6
  rw [a3] at s5 s7
  rw [h11] at s7
  have hx' : S[i]? = some (x.1, x.2.1, x.2.2.1, x.2.2.2) := hx
  have vR : inR (v : Int) := ⟨by omega, by omega⟩
  have vz : (v : Int) = 0 ↔ wth (nw (z σ0 w)) (nw (z σ (m + 1))) x.2.2.2 = 0 := by omega
  have ret : ∀ (r : Int) τ, 0 ≤ r ∧ r ≤ (S.length : Int) → MR m p w σ0 τ → nxT m (mNx S (z σ0 (p + 3)) (nw (z σ0 w)) (i, nw (z σ (m + 1)), z σ (m + 2))) r τ → q_ki K (.inl (some (.int (zI r)))) τ := fun r τ hb ht hn => ⟨r, ⟨by omega, by omega⟩, rfl, kk r τ hb ht hn⟩
  have i1 : (i : Int) + 1 = ((i + 1 : Nat) : Int) := by omega
  have same : ∀ {j : Nat} {r : Int}, r = (j : Int) → nxT m (.inl (j, nw (z σ (m + 1)), z σ (m + 2))) r σ := fun {j r} e => ⟨e, rfl, rfl, h0, h1⟩
  refine b_Ma_perform_0 hm hp hw r5 r6 hE ?_
  rw [np (p + 5) (by omega) (by omega), np (p + 6) (by omega) (by omega), np (p + 9) (by omega) (by omega), np (p + 3) (by omega) (by omega), Int.toNat_natCast, a1, a2, a3]
  refine ⟨⟨by omega, by omega⟩, fun c => ⟨s3 c, ?_⟩, fun c => ⟨vR, fun c2 => ?_, fun c2 => ?_⟩, fun c => ⟨vR, fun c2 => ?_, fun c2 => ?_⟩, fun c => ⟨vR, fun c2 => ?_, fun c2 => ?_⟩, fun c => ?_, fun c => ⟨s5 c, ?_⟩, fun c => ⟨vR, fun c2 => ?_, fun c2 => ?_⟩, fun c => ?_⟩
  · have b := s3 c
    have wb := wd x.2.1.toNat (by omega)
    have lm : v % 2 ^ (z σ0 (p + 3) x.2.1.toNat).toNat < 2 ^ (z σ0 (p + 3) x.2.1.toNat).toNat := Nat.mod_lt _ (Nat.two_pow_pos _)
    have l2 : v % 2 ^ (z σ0 (p + 3) x.2.1.toNat).toNat < 256 := Nat.lt_of_le_of_lt (Nat.mod_le _ _) lv
    have ce : zAnd (v : Int) (zShl 1 (z σ0 (p + 3) x.2.1.toNat) - 1) = ((v % 2 ^ (z σ0 (p + 3) x.2.1.toNat).toNat : Nat) : Int) := by
      have := cut_n (k := (z σ0 (p + 3) x.2.1.toNat).toNat) (a := v) (by omega) rfl
      rwa [show (((z σ0 (p + 3) x.2.1.toNat).toNat : Nat) : Int) = z σ0 (p + 3) x.2.1.toNat by omega] at this
    rw [ce]
    generalize hA : v % 2 ^ (z σ0 (p + 3) x.2.1.toNat).toNat = A at lm l2
    rw [c] at hx'
    have U2 : nw (z (zs σ (m + 1) x.2.1.toNat (A : Int)) (m + 1)) = upq (nw (z σ (m + 1))) x.2.1.toNat A := by rw [nw_upq (by omega) ⟨by omega, by omega⟩, Int.toNat_natCast]
    refine ret _ _ ⟨by omega, by omega⟩ ⟨zs_E hE, r5, r6, fr_s f (by simp), fun j hj => ?_, ?_⟩ ?_
    · rw [z_if ⟨by omega, by omega⟩]
      split
      · omega
      · exact hU j hj
    · rw [U2]; exact uO_upq hUo lm
    · rw [x_set hx', hv, hA, ← U2]
      exact ⟨i1, rfl, z_oF (by omega), by rw [z_o (by omega)]; exact h0, by rw [z_o (by omega)]; exact h1⟩
  · rw [c] at hx'
    refine ret _ _ ⟨by omega, by omega⟩ hr ?_
    rw [x_asr1 hx' (fun e => c2 (vz.mpr e))]
    exact same i1
  · rw [c] at hx'
    refine ret _ _ ⟨by omega, by omega⟩ (MR_s hm (MR_s hm hr (Or.inl rfl)) (Or.inl rfl)) ?_
    rw [x_asr0 hx' (vz.mp c2)]
    refine ⟨by rw [z_oF (by omega), z_oF (by omega)], by rw [z_k (by decide), z_s ⟨by decide, by decide⟩], ?_, (show (1 : Int) ≠ 0 by decide)⟩
    rw [← a2]; exact z_s (z_R _ _ _)
  · rw [c] at hx'
    refine ret _ _ ⟨by omega, by omega⟩ hr ?_
    rw [x_asm1 hx' (fun e => c2 (vz.mpr e))]
    exact same i1
  · rw [c] at hx'
    refine ret _ _ ⟨by omega, by omega⟩ (MR_s hm hr (Or.inl rfl)) ?_
    rw [x_asm0 hx' (vz.mp c2)]
    exact ⟨by rw [z_oF (by omega)], z_s ⟨by decide, by decide⟩, by rw [z_k (by decide)]; exact h1, (show (2 : Int) ≠ 0 by decide)⟩
  · rw [c] at hx'
    refine ret _ _ ⟨by omega, by omega⟩ hr ?_
    rw [x_if1 hx' (fun e => c2 (vz.mpr e))]
    exact same i1
  · rw [c] at hx'
    have b := s7 (by omega)
    refine ret _ _ b hr ?_
    rw [x_if0 hx' (vz.mp c2)]
    exact same (by omega)
  · have b := s7 (by omega)
    refine ret _ _ b hr ?_
    rw [x_go c hx']
    exact same (by omega)
  · rw [c] at hx'
    refine ret _ _ ⟨by omega, by omega⟩ (MR_s hm hr (Or.inr (Or.inl rfl))) ?_
    rw [x_loop hx']
    refine ⟨i1, by rw [z_oF (by omega)], funext fun j => ?_, by rw [z_o (by omega)]; exact h0, by rw [z_o (by omega)]; exact h1⟩
    rw [← a2, z_if (z_R _ _ _)]
    show _ = upq (z σ (m + 2)) x.2.2.1.toNat (z σ0 (p + 6) i) j
    unfold upq
    by_cases e : j = x.2.2.1.toNat
    · rw [if_pos ⟨rfl, e⟩, if_pos e]
    · rw [if_neg (fun q => e q.2), if_neg e]
  · rw [c] at hx'
    have b := s6 c
    have e14 : ∀ τ, MR m p w σ0 τ → z τ (m + 2) = z σ (m + 2) → nw (z τ (m + 1)) = nw (z σ (m + 1)) → ((z σ (m + 2) x.2.1.toNat ≠ 0 ∧ z τ m 0 = 0) ∨ (z σ (m + 2) x.2.1.toNat = 0 ∧ z τ m 0 = 2)) → z τ m 1 = -1 → J ω m_Ma_enter d 0 0 0 0 14 [(0, .ref m), (1, .int (zI (i : Int))), (2, .int (zI x.2.1))] [] τ (q_ki fun v τ => J ω m_Ma_perform (d + 1) 0 0 0 0 190 [] [.int (zI v)] τ (q_ki K)) := fun τ ht t2 t1 t0 t3 => by
      obtain ⟨tE, t5, t6, -⟩ := id ht
      have ht2 := MR_s (o := m + 2) (k := x.2.1.toNat) (e := z τ (m + 2) x.2.1.toNat - 1) hm ht (Or.inr (Or.inl rfl))
      obtain ⟨tE2, t52, t62, -⟩ := id ht2
      refine b_Ma_enter_14 hm hp hw t5 t6 tE ⟨b, _, ⟨by omega, by omega⟩, rfl, b_Ma_perform_190 hm hp hw t52 t62 tE2 (ret _ _ ⟨by omega, by omega⟩ ht2 ?_)⟩
      rcases t0 with ⟨c3, c4⟩ | ⟨c3, c4⟩
      · rw [x_test1 hx' (fun e => c2 (vz.mpr e)) c3]
        refine ⟨i1, by rw [z_oF (by omega)]; exact t1, funext fun j => ?_, by rw [z_o (by omega)]; exact c4, by rw [z_o (by omega)]; exact t3⟩
        rw [z_zs, t2]
        show _ = upq (z σ (m + 2)) x.2.1.toNat (zI (z σ (m + 2) x.2.1.toNat - 1)).toInt j
        unfold upq
        by_cases e : j = x.2.1.toNat
        · rw [if_pos ⟨rfl, e⟩, if_pos e]
        · rw [if_neg (fun q => e q.2), if_neg e]
      · rw [x_test2 hx' (fun e => c2 (vz.mpr e)) c3]
        exact ⟨by rw [z_oF (by omega)]; exact t1, by rw [z_o (by omega)]; exact c4, by rw [z_o (by omega)]; exact t3, (show (2 : Int) ≠ 0 by decide)⟩
    refine b_Ma_enter_0 hm hp hw r5 r6 hE ⟨b, fun c3 => e14 σ hr rfl rfl (Or.inl ⟨c3, h0⟩) h1, fun c3 => ?_⟩
    refine e14 _ (MR_s hm hr (Or.inl rfl)) (z_oF (by omega)) (by rw [z_oF (by omega)]) (Or.inr ⟨c3, z_s ⟨by decide, by decide⟩⟩) ?_
    rw [z_k (by decide)]; exact h1
  · rw [c] at hx'
    have b := s7 (by omega)
    refine ret _ _ b hr ?_
    rw [x_test0 hx' (vz.mp c2)]
    exact same (by omega)
  · have c6 : x.1 = 6 := by omega
    rw [c6] at hx'
    refine ret _ _ ⟨by omega, by omega⟩ hr ?_
    rw [x_join hx']
    exact same i1
theorem c_run {K : q_H → Prop} {v f : Int} {U' : Nat → Nat} (hd : 3 ≤ d) (hm : m = 43 ∨ m = 87) (hp : p = 16 ∨ p = 29) (hw : w = 42 ∨ w = 91) (hS : PS2 p WI V S σ0) (hI : b256 (z σ0 w)) (hIo : uO WI (nw (z σ0 w))) (kk : ∀ τ, MR m p w σ0 τ → z τ m 0 = v → z τ m 1 = f → nw (z τ (m + 1)) = U' → K τ) : ∀ (E i n : Nat) (σ : q_H), n + E ≤ 1000000 → i ≤ S.length → MR m p w σ0 σ → z σ m 0 = 0 → z σ m 1 = -1 → mIt S (z σ0 (p + 3)) (nw (z σ0 w)) E (i, nw (z σ (m + 1)), z σ (m + 2)) = .inr (v, f, U') → J ω m_Ma_execute (d + 1) 0 0 0 0 19 [(0, .ref m), (3, .int (zI (i : Int))), (4, .int (zI (n : Int)))] [] σ (q_kv K) := by
  intro E
  induction E with
  | zero => intro i n σ _ _ _ _ _ h; cases h
  | succ E ih =>
    intro i n σ hn hi hr h0 h1 hm'
    obtain ⟨hE, r5, r6, g, hU, hUo⟩ := id hr
    have p11 : z σ p 11 = (S.length : Int) := by rw [fr_zF g (by simp; omega)]; exact hS.2.1
    have n1 := hS.1.2.2.2.1
    have l16 := hS.2.1
    refine b_Ma_execute_19 hm hp hw r5 r6 hE ?_
    rw [p11]
    refine ⟨⟨by omega, by omega⟩, fun c => absurd c (by omega), fun _ => ⟨fun c => absurd h0 c, fun _ => ⟨⟨by omega, by omega⟩, fun c => ?_, fun c => ⟨⟨by omega, by omega⟩, ?_⟩⟩⟩⟩
    · have e : S[i]? = none := List.getElem?_eq_none (by omega)
      unfold mIt at hm'
      rw [x_end e] at hm'
      have := Sum.inr.inj hm'
      cases this
      exact ⟨rfl, kk σ hr h0 h1 rfl⟩
    · obtain ⟨x, hx⟩ : ∃ x, S[i]? = some x := ⟨_, List.getElem?_eq_getElem (show i < S.length by omega)⟩
      rw [Int.toNat_natCast]
      refine c_worth (by omega) hm hp hw hS hI hIo hr hx (fun τ ht lt => ?_)
      have hr2 : MR m p w σ0 τ := by
        refine ⟨fr_E ht hE, by rw [fr_r ht]; exact r5, by rw [fr_r ht]; exact r6, fr_trans g (fr_mono ht (by simp)), ?_, ?_⟩
        · rw [fr_zF ht (by simp)]; exact hU
        · rw [fr_zF ht (by simp)]; exact hUo
      obtain ⟨hE2, r52, r62, g2, hU2, hUo2⟩ := id hr2
      have e0 : z τ m = z σ m := fr_zF ht (by simp)
      have e1 : z τ (m + 1) = z σ (m + 1) := fr_zF ht (by simp)
      have e2 : z τ (m + 2) = z σ (m + 2) := fr_zF ht (by simp)
      refine b_Ma_execute_68 hm hp hw r52 r62 hE2 (c_perform (by omega) hm hp hw hS hr2 hx (by rw [e0]; exact h0) (by rw [e0]; exact h1) (by rw [e1]) lt (fun r ρ hb hr3 hn3 => ?_))
      obtain ⟨hE3, r53, r63, g3, hU3, hUo3⟩ := id hr3
      refine b_Ma_execute_71 hm hp hw r53 r63 hE3 ?_
      rw [e1, e2] at hn3
      have n1' : (n : Int) + 1 = ((n + 1 : Nat) : Int) := by omega
      rw [n1']
      unfold mIt at hm'
      generalize mNx S (z σ0 (p + 3)) (nw (z σ0 w)) (i, nw (z σ (m + 1)), z σ (m + 2)) = y at hm' hn3
      cases y with
      | inl c' =>
        obtain ⟨k1, k2, k3, k4, k5⟩ := hn3
        rw [k1]
        refine ih c'.1 (n + 1) ρ (by omega) (by omega) hr3 k4 k5 ?_
        rw [k2, k3]
        exact hm'
      | inr s =>
        have := Sum.inr.inj hm'
        subst this
        obtain ⟨k2, k3, k4, k5⟩ := hn3
        refine b_Ma_execute_19 hm hp hw r53 r63 hE3 ⟨⟨by omega, by omega⟩, fun _ => ⟨rfl, kk ρ hr3 k3 k4 k2⟩, fun _ => ⟨fun _ => ⟨rfl, kk ρ hr3 k3 k4 k2⟩, fun c => absurd (k3.symm.trans c) k5⟩⟩
theorem PS2_cong {τ : q_H} (h : PS2 p WI V S σ) (hz : ∀ o, p ≤ o → o ≤ p + 12 → z τ o = z σ o) : PS2 p WI V S τ := by
  obtain ⟨a, b⟩ := h
  refine ⟨GP_cong a hz, ?_⟩
  rw [hz p (by omega) (by omega), hz (p + 3) (by omega) (by omega), hz (p + 5) (by omega) (by omega), hz (p + 6) (by omega) (by omega), hz (p + 7) (by omega) (by omega), hz (p + 8) (by omega) (by omega), hz (p + 9) (by omega) (by omega), hz (p + 10) (by omega) (by omega), hz (p + 11) (by omega) (by omega), hz (p + 12) (by omega) (by omega)]
  exact b
/-- forget and execute -/
theorem c_execute {K : q_H → Prop} {v f : Int} {U' : Nat → Nat} {E : Nat} (hd : 4 ≤ d) (hm : m = 43 ∨ m = 87) (hp : p = 16 ∨ p = 29) (hw : w = 42 ∨ w = 91) (hE : q_E σ) (hS : PS2 p WI V S σ) (hI : b256 (z σ w)) (hIo : uO WI (nw (z σ w))) (hE1 : E ≤ 1000000) (hrun : mIt S (z σ (p + 3)) (nw (z σ w)) E (0, fun _ => 0, z σ (m + 2)) = .inr (v, f, U'))
    (kk : ∀ τ, MR m p w (zr (zr σ m 5 p) m 6 w) τ → z τ m 0 = v → z τ m 1 = f → nw (z τ (m + 1)) = U' → K τ) : J ω m_Ma_execute d 0 0 0 0 0 [(0, .ref m), (1, .ref p), (2, .ref w)] [] σ (q_kv K) := by
  obtain ⟨d, rfl⟩ : ∃ k, d = k + 1 := ⟨d - 1, by omega⟩
  refine b0_Ma_execute_0 hm hp hw hE (m_forget (by omega) hm hE (b0_Ma_execute_4 hm hp hw (zs_E (zs_E (zfl_E hE))) ?_))
  have hdy : q_dyn m 5 = true ∧ q_dyn m 6 = true := by rcases hm with rfl | rfl <;> decide
  have E2 : q_E (zr (zr (zs (zs (zfl σ (m + 1) 12 0) m 0 0) m 1 (-1)) m 5 p) m 6 w) := zr_E (zr_E (zs_E (zs_E (zfl_E hE))) hdy.1) hdy.2
  have zo : ∀ o, o ≠ m → o ≠ m + 1 → z (zr (zr (zs (zs (zfl σ (m + 1) 12 0) m 0 0) m 1 (-1)) m 5 p) m 6 w) o = z (zr (zr σ m 5 p) m 6 w) o := fun o h1 h2 => by
    show z (zs (zs (zfl σ (m + 1) 12 0) m 0 0) m 1 (-1)) o = z σ o
    rw [z_oF (by omega), z_oF (by omega)]
    exact funext fun j => z_fl_o (by omega)
  have z1 : ∀ i, i < 12 → z (zr (zr (zs (zs (zfl σ (m + 1) 12 0) m 0 0) m 1 (-1)) m 5 p) m 6 w) (m + 1) i = 0 := fun i hi => by
    show z (zs (zs (zfl σ (m + 1) 12 0) m 0 0) m 1 (-1)) (m + 1) i = 0
    rw [z_o (by omega), z_o (by omega)]
    exact z_fl ⟨by decide, by decide⟩ hi
  have nz : nw (z (zr (zr (zs (zs (zfl σ (m + 1) 12 0) m 0 0) m 1 (-1)) m 5 p) m 6 w) (m + 1)) = fun _ => 0 := funext fun i => by
    unfold nw
    split
    · next c => rw [z1 i c]; rfl
    · rfl
  have S0 : PS2 p WI V S (zr (zr σ m 5 p) m 6 w) := PS2_cong hS (fun o _ _ => rfl)
  refine c_run (σ0 := zr (zr σ m 5 p) m 6 w) (by omega) hm hp hw S0 hI hIo kk E 0 0 _ (by omega) (by omega) ⟨E2, ?_, zr_s, ?_, ?_, ?_⟩ ?_ ?_ ?_
  · rw [zr_k (by decide), zr_s]
  · refine ⟨rfl, rfl, rfl, fun o ho => ⟨?_, rfl⟩⟩
    simp at ho
    show q_i (zs (zs (zfl σ (m + 1) 12 0) m 0 0) m 1 (-1)) o = q_i σ o
    funext j
    rw [qs_o (by omega), qs_o (by omega), zfl_o (by omega)]
  · exact fun i hi => by rw [z1 i hi]; exact ⟨by decide, by decide⟩
  · rw [nz]; exact fun i _ => Nat.two_pow_pos _
  · show z (zs (zs (zfl σ (m + 1) 12 0) m 0 0) m 1 (-1)) m 0 = 0
    rw [z_k (by decide), z_s ⟨by decide, by decide⟩]
  · show z (zs (zs (zfl σ (m + 1) 12 0) m 0 0) m 1 (-1)) m 1 = -1
    exact z_s ⟨by decide, by decide⟩
  · rw [nz, zo (m + 2) (by omega) (by omega)]
    exact hrun
end CrP
