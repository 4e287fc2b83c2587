/-! ROWS FOR CELLS WITH KNOWN NUMBERS -/
def q_addAt (σ : q_H) (k : Nat) (t : Nat × Nat) : q_H := (k, q_row (q_t σ) k t, q_row (q_i σ) k (fun _ => 0), q_row (q_r σ) k (fun _ => 0), q_row (q_l σ) k (fun _ => 0))
theorem q_addAt_eq {σ : q_H} {k : Nat} (h : q_n σ + 1 = k) (t : Nat × Nat) : q_add σ t = q_addAt σ k t := by subst h; rfl
theorem q_okL {σ : q_H} {o N : Nat} (hn : N ≤ q_n σ) (h : 0 < o ∧ o ≤ N) : 0 < o ∧ o ≤ q_n σ := ⟨h.1, Nat.le_trans h.2 hn⟩
theorem q_okW {σ : q_H} {o N : Nat} (hn : N ≤ q_n σ) (h : 0 < o ∧ o ≤ N) : 0 < o ∧ o ≤ q_n σ := ⟨h.1, Nat.le_trans h.2 hn⟩
section LitJ
variable {ω : q_W} {μ : q_M} {d mc ms cs sl pc : Nat} {L : List (Nat × Value)} {st : List Value} {σ : q_H} {Q : q_R → q_H → Prop}
theorem k_new {idx ci N : Nat} (k : Nat) (hN : q_N μ.1.cls idx ci N) (hd : decode μ.2.1 pc = .ok (.new idx, 3)) (hc : cs + 1 ≤ mc) (hs : sl + N ≤ ms) (hk : q_n σ + 1 = k) (hn : k < 1000000)
    (kk : J ω μ d mc ms (cs + 1) (sl + N) (pc + 3) L (.ref k :: st) (q_addAt σ k (1, ci)) Q) : J ω μ d mc ms cs sl pc L st σ Q :=
  j_new hN hd hc hs (by rw [hk]; exact hn) (by rw [q_addAt_eq hk, hk]; exact kk)
theorem k_newI {i : Int32} (n k : Nat) (hd : decode μ.2.1 pc = .ok (.newarray .int, 2)) (hi : i = nI n) (hn31 : n < 67108864) (hc : cs + 1 ≤ mc) (hs : sl + n ≤ ms) (hk : q_n σ + 1 = k) (hn : k < 1000000)
    (kk : J ω μ d mc ms (cs + 1) (sl + n) (pc + 2) L (.ref k :: st) (q_addAt σ k (2, n)) Q) : J ω μ d mc ms cs sl pc L (.int i :: st) σ Q :=
  j_newI n hd hi hn31 hc hs (by rw [hk]; exact hn) (by rw [q_addAt_eq hk, hk]; exact kk)
theorem k_newB {i : Int32} (n k : Nat) (hd : decode μ.2.1 pc = .ok (.newarray .byte, 2)) (hi : i = nI n) (hn31 : n < 67108864) (hc : cs + 1 ≤ mc) (hs : sl + n ≤ ms) (hk : q_n σ + 1 = k) (hn : k < 1000000)
    (kk : J ω μ d mc ms (cs + 1) (sl + n) (pc + 2) L (.ref k :: st) (q_addAt σ k (3, n)) Q) : J ω μ d mc ms cs sl pc L (.int i :: st) σ Q :=
  j_newB n hd hi hn31 hc hs (by rw [hk]; exact hn) (by rw [q_addAt_eq hk, hk]; exact kk)
theorem k_newL {i : Int32} (n k : Nat) (hd : decode μ.2.1 pc = .ok (.newarray .long, 2)) (hi : i = nI n) (hn31 : n < 67108864) (hc : cs + 1 ≤ mc) (hs : sl + n ≤ ms) (hk : q_n σ + 1 = k) (hn : k < 1000000)
    (kk : J ω μ d mc ms (cs + 1) (sl + n) (pc + 2) L (.ref k :: st) (q_addAt σ k (4, n)) Q) : J ω μ d mc ms cs sl pc L (.int i :: st) σ Q :=
  j_newL n hd hi hn31 hc hs (by rw [hk]; exact hn) (by rw [q_addAt_eq hk, hk]; exact kk)
theorem k_getI {idx ci k o : Nat} (v : Int32) (hF : q_F μ.1.cls idx ci k "I") (hd : decode μ.2.1 pc = .ok (.getfield idx, 3)) (ht : q_t σ o = (1, ci)) (ho : 0 < o ∧ o ≤ q_n σ) (hv : q_i σ o k = v)
    (kk : J ω μ d mc ms cs sl (pc + 3) L (.int v :: st) σ Q) : J ω μ d mc ms cs sl pc L (.ref o :: st) σ Q := j_getI hF hd ht ho (by rw [hv]; exact kk)
theorem k_getZ {idx ci k o : Nat} (v : Int32) (hF : q_F μ.1.cls idx ci k "Z") (hd : decode μ.2.1 pc = .ok (.getfield idx, 3)) (ht : q_t σ o = (1, ci)) (ho : 0 < o ∧ o ≤ q_n σ) (hv : q_i σ o k = v)
    (kk : J ω μ d mc ms cs sl (pc + 3) L (.int v :: st) σ Q) : J ω μ d mc ms cs sl pc L (.ref o :: st) σ Q := j_getZ hF hd ht ho (by rw [hv]; exact kk)
theorem k_newEx {idx ic k : Nat} {X : String} (kn : Nat) (hk : q_xn[k]? = some X) (hX : q_X μ.1.cls ic X) (hcl : Cond.classLink μ.1.cls idx X ∈ tables_1) (hd0 : decode μ.2.1 pc = .ok (.new idx, 3)) (hd3 : decode μ.2.1 (pc + 3) = .ok (.dup, 1)) (hd4 : decode μ.2.1 (pc + 4) = .ok (.invokespecial ic, 3))
    (hc : cs + 1 ≤ mc) (hs : sl + 6 ≤ ms) (hkn : q_n σ + 1 = kn) (hn : kn < 1000000) (hdd : 6 ≤ d) (hwt : (st.map fun v => v.category).sum ≤ 7)
    (kk : J ω μ d mc ms (cs + 1) (sl + 6) (pc + 7) L (.ref kn :: st) (q_addAt σ kn (5, k)) Q) : J ω μ d mc ms cs sl pc L st σ Q :=
  j_newEx hk hX hcl hd0 hd3 hd4 hc hs (by rw [hkn]; exact hn) hdd hwt (by rw [q_addAt_eq hkn, hkn]; exact kk)
end LitJ
