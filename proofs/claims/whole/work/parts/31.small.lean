/-! OBJECTS THAT ARE ONE OF SEVERAL; SMALL CALLEES -/
/-- an implication that omega does not look into -/
def q_imp (A B : Prop) : Prop := A → B
theorem j_getsN {ω : q_W} {μ : q_M} {d mc ms cs sl pc : Nat} {L : List (Nat × Value)} {st : List Value} {σ : q_H} {Q : q_R → q_H → Prop} {idx : Nat} {C n dd host : String} {v : Value} (hm : (C, n, dd, v) ∈ q_stas) (hl : Cond.fieldLinkNest μ.1.cls idx C n dd host ∈ tables_1) (hd : decode μ.2.1 pc = .ok (.getstatic idx, 3)) (kk : J ω μ d mc ms cs sl (pc + 3) L (v :: st) σ Q) : J ω μ d mc ms cs sl pc L st σ Q := by
  intro p l e R s m args below meth c H locs ls C0 hr hl' hf
  obtain ⟨cf, kf, fi, f, a, cell, h1, h2, h3, h4, h5, h6, h7, h8⟩ := C0.2.2.2.2.2.2.2.2.2.2.2.2.2.2.2.2.2.2.1 _ hm
  exact va_WgetsN C0.1 C0.2.1 C0.2.2.2.2.2.1 (C0.2.2.2.2.2.2.2.1 _ (q_in hl)) h1 h2 h3 h4 ((hr.2.2.2 a (Nat.not_lt.mp h8)).trans h5) (fun e => by rw [e] at h6; cases h6) h7 rfl hd (kk p l e R s m args below meth c H locs ls C0 hr hl' hf)
section MathJ
variable {ω : q_W} {μ : q_M} {d mc ms cs sl pc : Nat} {L : List (Nat × Value)} {st : List Value} {σ : q_H} {Q : q_R → q_H → Prop}
theorem q_wt {ω : q_W} {st : List Value} (hwt : (st.map fun v => v.category).sum ≤ 8) : ((st.map (q_cv ω)).map fun v => v.category).sum ≤ 8 := by
  rw [List.map_map]
  exact (show (st.map fun v => (q_cv ω v).category).sum ≤ 8 by simp only [q_cat]; exact hwt)
theorem zj_min {idx : Nat} {x y : Int} (hlink : Cond.methodLink μ.1.cls idx Lib.Math.min.name ∈ tables_1) (hd : decode μ.2.1 pc = .ok (.invokestatic idx, 3)) (hdd : 1 ≤ d) (hwt : (st.map fun v => v.category).sum ≤ 8) (hc : cs ≤ mc) (hs : sl ≤ ms) (hx : inR x) (hy : inR y)
    (kk : J ω μ d mc ms cs sl (pc + 3) L (.int (zI (min x y)) :: st) σ Q) : J ω μ d mc ms cs sl pc L (.int (zI y) :: .int (zI x) :: st) σ Q := by
  intro p l e R s m args below meth c H locs ls C hr hl hf
  obtain ⟨hx1, hb, hml, hret, hlocks, hown, hname, hts, hexc, hfl, hroom, htab⟩ := id C
  have w1 := q_wt (ω := ω) hwt
  refine va_mmin hx1 hb (by rw [hl.1]; exact hml) hown (hts _ (q_in hlink)) (hts _ (q_in (List.mem_of_getElem? (i := 793) (by decide +kernel)))) (hts _ (q_in (List.mem_of_getElem? (i := 24) (by decide +kernel)))) (hts _ (q_in (List.mem_of_getElem? (i := 794) (by decide +kernel)))) (Nat.le_trans hdd hroom.1) (by have := hroom.2.1; omega) (Nat.le_trans hc hroom.2.2.1) (Nat.le_trans hs hroom.2.2.2) hd ?_
  have e1 : (if zI y < zI x then zI y else zI x) = zI (min x y) := by
    by_cases h : y < x
    · rw [if_pos ((zI_lt hy hx).mpr h), Int.min_eq_right (by omega)]
    · rw [if_neg (fun k => h ((zI_lt hy hx).mp k)), Int.min_eq_left (by omega)]
  rw [e1]
  exact kk p l e R s m args below meth c H locs ls C hr hl hf
theorem zj_max {idx : Nat} {x y : Int} (hlink : Cond.methodLink μ.1.cls idx Lib.Math.max.name ∈ tables_1) (hd : decode μ.2.1 pc = .ok (.invokestatic idx, 3)) (hdd : 1 ≤ d) (hwt : (st.map fun v => v.category).sum ≤ 8) (hc : cs ≤ mc) (hs : sl ≤ ms) (hx : inR x) (hy : inR y)
    (kk : J ω μ d mc ms cs sl (pc + 3) L (.int (zI (max x y)) :: st) σ Q) : J ω μ d mc ms cs sl pc L (.int (zI y) :: .int (zI x) :: st) σ Q := by
  intro p l e R s m args below meth c H locs ls C hr hl hf
  obtain ⟨hx1, hb, hml, hret, hlocks, hown, hname, hts, hexc, hfl, hroom, htab⟩ := id C
  have w1 := q_wt (ω := ω) hwt
  refine va_mmax hx1 hb (by rw [hl.1]; exact hml) hown (hts _ (q_in hlink)) (hts _ (q_in (List.mem_of_getElem? (i := 877) (by decide +kernel)))) (hts _ (q_in (List.mem_of_getElem? (i := 24) (by decide +kernel)))) (hts _ (q_in (List.mem_of_getElem? (i := 878) (by decide +kernel)))) (Nat.le_trans hdd hroom.1) (by have := hroom.2.1; omega) (Nat.le_trans hc hroom.2.2.1) (Nat.le_trans hs hroom.2.2.2) hd ?_
  have e1 : (if zI x < zI y then zI y else zI x) = zI (max x y) := by
    by_cases h : x < y
    · rw [if_pos ((zI_lt hx hy).mpr h), Int.max_eq_right (by omega)]
    · rw [if_neg (fun k => h ((zI_lt hx hy).mp k)), Int.max_eq_left (by omega)]
  rw [e1]
  exact kk p l e R s m args below meth c H locs ls C hr hl hf
theorem zj_minL {idx : Nat} {x y : Int64} (hlink : Cond.methodLink μ.1.cls idx Lib.MathLoose.min_long.x ∈ tables_1) (hd : decode μ.2.1 pc = .ok (.invokestatic idx, 3)) (hdd : 1 ≤ d) (hwt : (st.map fun v => v.category).sum ≤ 8) (hc : cs ≤ mc) (hs : sl ≤ ms)
    (kk : J ω μ d mc ms cs sl (pc + 3) L (.long (if y < x then y else x) :: st) σ Q) : J ω μ d mc ms cs sl pc L (.long y :: .long x :: st) σ Q := by
  intro p l e R s m args below meth c H locs ls C hr hl hf T hT X
  obtain ⟨hx1, hb, hml, hret, hlocks, hown, hname, hts, hexc, hfl, hroom, htab⟩ := id C
  have w1 := q_wt (ω := ω) hwt
  obtain ⟨vm', X', st'⟩ := X.mathMinLH hx1 hown (hts _ (q_in hlink)) (hts _ (q_in (List.mem_of_getElem? (i := 1944) (by decide +kernel)))) (hts _ (q_in (List.mem_of_getElem? (i := 24) (by decide +kernel)))) (hts _ (q_in (List.mem_of_getElem? (i := 1945) (by decide +kernel)))) (g := F0 m pc ls ((.long y :: .long x :: st).map (q_cv ω))) rfl (by show ls.size = c.maxLocals; rw [hl.1, hml]) (a := x) (b := y) (rest := st.map (q_cv ω)) rfl (by rw [hb]; exact hd) (Nat.le_trans hdd hroom.1) (by have := hroom.2.1; show 2 * 0 + _ + 15 ≤ _; omega) (Nat.le_trans hc hroom.2.2.1) (Nat.le_trans hs hroom.2.2.2)
  obtain ⟨t, a1, b1⟩ := kk p l e R s m args below meth c H locs ls C hr hl hf (T.setVm vm') hT X'
  exact ⟨t, st' t a1, b1⟩
end MathJ
def zfl (σ : q_H) (a n : Nat) (e : Int) : q_H := q_fill σ a n (zI e)
theorem zfl_E {σ : q_H} {a n : Nat} {e : Int} (h : q_E σ) : q_E (zfl σ a n e) := q_E_fill h
theorem zfl_o {σ : q_H} {a n b j : Nat} {e : Int} (h : b ≠ a) : q_i (zfl σ a n e) b j = q_i σ b j := congrFun (q_row_n _ _ h) j
theorem zfl_l {σ : q_H} {a n b j : Nat} {e : Int} : q_l (zfl σ a n e) b j = q_l σ b j := rfl
theorem zfl_r {σ : q_H} {a n b j : Nat} {e : Int} : q_r (zfl σ a n e) b j = q_r σ b j := rfl
theorem zcp_l {σ : q_H} {a0 sp a dp n b j : Nat} : q_l (zcp σ a0 sp a dp n) b j = q_l σ b j := rfl
theorem zcp_r {σ : q_H} {a0 sp a dp n b j : Nat} : q_r (zcp σ a0 sp a dp n) b j = q_r σ b j := rfl
theorem z_fl {σ : q_H} {a n j : Nat} {e : Int} (h : inR e) (hj : j < n) : z (zfl σ a n e) a j = e := by
  unfold z
  show (q_row (q_i σ) a (fun j => if j < n then zI e else q_i σ a j) a j).toInt = e
  rw [q_row_s, if_pos hj, zI_toInt h]
theorem z_fl_o {σ : q_H} {a n b j : Nat} {e : Int} (h : b ≠ a) : z (zfl σ a n e) b j = z σ b j := by unfold z; rw [zfl_o h]
def zIf (p : Prop) [Decidable p] : Int := if p then 1 else 0
theorem zIf_R (p : Prop) [Decidable p] : inR (zIf p) := by unfold zIf; split <;> exact ⟨by decide, by decide⟩
theorem zIf_1 {p : Prop} [Decidable p] (h : p) : zIf p = 1 := if_pos h
theorem zIf_0 {p : Prop} [Decidable p] (h : ¬ p) : zIf p = 0 := if_neg h
theorem zIf_ne {p : Prop} [Decidable p] : zIf p ≠ 0 ↔ p := by unfold zIf; split <;> simp_all
theorem zIf_eq {p : Prop} [Decidable p] : zIf p = 0 ↔ ¬ p := by unfold zIf; split <;> simp_all
def tb_1000001 : List Int32 := [0, 1, 2, 3, 4, 5, 6, 6, 7, 7, 7, 7, 8, 8, 9, 9, 10, 10, 10, 11, 11, 11]
def tb_1000002 : List Int32 := [0, 1, 1, 0, 0, 0, 1, 1, 1, 1, 1, 1, 2, 2, 0, 0, 0, 0, 0, 1, 0, 0, 3]
def tb_1000003 : List Int32 := [0, 0, 0, 0, 0, 0, 0, 0, 0, 0, 0, 0, 1, 1, 0, 0, 2, 2, 2, 0, 0, 0, 0]
theorem tY_p_0 {σ : q_H} {p : Nat} (h : q_E σ) (hp : p = 16 ∨ p = 29) : q_t σ p = (1, 2) := by rcases hp with rfl | rfl; exact tg_16 h; exact tg_29 h
theorem tY_p_1 {σ : q_H} {p : Nat} (h : q_E σ) (hp : p = 16 ∨ p = 29) : q_t σ (p + 1) = (2, 12) := by rcases hp with rfl | rfl; exact tg_17 h; exact tg_30 h
theorem tY_p_2 {σ : q_H} {p : Nat} (h : q_E σ) (hp : p = 16 ∨ p = 29) : q_t σ (p + 2) = (4, 12) := by rcases hp with rfl | rfl; exact tg_18 h; exact tg_31 h
theorem tY_p_3 {σ : q_H} {p : Nat} (h : q_E σ) (hp : p = 16 ∨ p = 29) : q_t σ (p + 3) = (2, 12) := by rcases hp with rfl | rfl; exact tg_19 h; exact tg_32 h
theorem tY_p_4 {σ : q_H} {p : Nat} (h : q_E σ) (hp : p = 16 ∨ p = 29) : q_t σ (p + 4) = (4, 12) := by rcases hp with rfl | rfl; exact tg_20 h; exact tg_33 h
theorem tY_p_5 {σ : q_H} {p : Nat} (h : q_E σ) (hp : p = 16 ∨ p = 29) : q_t σ (p + 5) = (2, 2048) := by rcases hp with rfl | rfl; exact tg_21 h; exact tg_34 h
theorem tY_p_6 {σ : q_H} {p : Nat} (h : q_E σ) (hp : p = 16 ∨ p = 29) : q_t σ (p + 6) = (2, 2048) := by rcases hp with rfl | rfl; exact tg_22 h; exact tg_35 h
theorem tY_p_7 {σ : q_H} {p : Nat} (h : q_E σ) (hp : p = 16 ∨ p = 29) : q_t σ (p + 7) = (2, 2048) := by rcases hp with rfl | rfl; exact tg_23 h; exact tg_36 h
theorem tY_p_8 {σ : q_H} {p : Nat} (h : q_E σ) (hp : p = 16 ∨ p = 29) : q_t σ (p + 8) = (2, 2048) := by rcases hp with rfl | rfl; exact tg_24 h; exact tg_37 h
theorem tY_p_9 {σ : q_H} {p : Nat} (h : q_E σ) (hp : p = 16 ∨ p = 29) : q_t σ (p + 9) = (2, 2048) := by rcases hp with rfl | rfl; exact tg_25 h; exact tg_38 h
theorem tY_p_10 {σ : q_H} {p : Nat} (h : q_E σ) (hp : p = 16 ∨ p = 29) : q_t σ (p + 10) = (2, 4096) := by rcases hp with rfl | rfl; exact tg_26 h; exact tg_39 h
theorem tY_p_11 {σ : q_H} {p : Nat} (h : q_E σ) (hp : p = 16 ∨ p = 29) : q_t σ (p + 11) = (2, 4096) := by rcases hp with rfl | rfl; exact tg_27 h; exact tg_40 h
theorem tY_p_12 {σ : q_H} {p : Nat} (h : q_E σ) (hp : p = 16 ∨ p = 29) : q_t σ (p + 12) = (2, 4096) := by rcases hp with rfl | rfl; exact tg_28 h; exact tg_41 h
theorem rY_p_2 {σ : q_H} {p : Nat} (h : q_E σ) (hp : p = 16 ∨ p = 29) : q_r σ p 2 = p + 1 := by rcases hp with rfl | rfl; exact rf_16_2 h; exact rf_29_2 h
theorem rY_p_3 {σ : q_H} {p : Nat} (h : q_E σ) (hp : p = 16 ∨ p = 29) : q_r σ p 3 = p + 2 := by rcases hp with rfl | rfl; exact rf_16_3 h; exact rf_29_3 h
theorem rY_p_5 {σ : q_H} {p : Nat} (h : q_E σ) (hp : p = 16 ∨ p = 29) : q_r σ p 5 = p + 3 := by rcases hp with rfl | rfl; exact rf_16_5 h; exact rf_29_5 h
theorem rY_p_6 {σ : q_H} {p : Nat} (h : q_E σ) (hp : p = 16 ∨ p = 29) : q_r σ p 6 = p + 4 := by rcases hp with rfl | rfl; exact rf_16_6 h; exact rf_29_6 h
theorem rY_p_12 {σ : q_H} {p : Nat} (h : q_E σ) (hp : p = 16 ∨ p = 29) : q_r σ p 12 = p + 5 := by rcases hp with rfl | rfl; exact rf_16_12 h; exact rf_29_12 h
theorem rY_p_13 {σ : q_H} {p : Nat} (h : q_E σ) (hp : p = 16 ∨ p = 29) : q_r σ p 13 = p + 6 := by rcases hp with rfl | rfl; exact rf_16_13 h; exact rf_29_13 h
theorem rY_p_14 {σ : q_H} {p : Nat} (h : q_E σ) (hp : p = 16 ∨ p = 29) : q_r σ p 14 = p + 7 := by rcases hp with rfl | rfl; exact rf_16_14 h; exact rf_29_14 h
theorem rY_p_15 {σ : q_H} {p : Nat} (h : q_E σ) (hp : p = 16 ∨ p = 29) : q_r σ p 15 = p + 8 := by rcases hp with rfl | rfl; exact rf_16_15 h; exact rf_29_15 h
theorem rY_p_16 {σ : q_H} {p : Nat} (h : q_E σ) (hp : p = 16 ∨ p = 29) : q_r σ p 16 = p + 9 := by rcases hp with rfl | rfl; exact rf_16_16 h; exact rf_29_16 h
theorem rY_p_18 {σ : q_H} {p : Nat} (h : q_E σ) (hp : p = 16 ∨ p = 29) : q_r σ p 18 = p + 10 := by rcases hp with rfl | rfl; exact rf_16_18 h; exact rf_29_18 h
theorem rY_p_19 {σ : q_H} {p : Nat} (h : q_E σ) (hp : p = 16 ∨ p = 29) : q_r σ p 19 = p + 11 := by rcases hp with rfl | rfl; exact rf_16_19 h; exact rf_29_19 h
theorem rY_p_20 {σ : q_H} {p : Nat} (h : q_E σ) (hp : p = 16 ∨ p = 29) : q_r σ p 20 = p + 12 := by rcases hp with rfl | rfl; exact rf_16_20 h; exact rf_29_20 h
theorem tY_q_0 {σ : q_H} {q : Nat} (h : q_E σ) (hq : q = 16 ∨ q = 29) : q_t σ q = (1, 2) := by rcases hq with rfl | rfl; exact tg_16 h; exact tg_29 h
theorem tY_q_1 {σ : q_H} {q : Nat} (h : q_E σ) (hq : q = 16 ∨ q = 29) : q_t σ (q + 1) = (2, 12) := by rcases hq with rfl | rfl; exact tg_17 h; exact tg_30 h
theorem tY_q_2 {σ : q_H} {q : Nat} (h : q_E σ) (hq : q = 16 ∨ q = 29) : q_t σ (q + 2) = (4, 12) := by rcases hq with rfl | rfl; exact tg_18 h; exact tg_31 h
theorem tY_q_3 {σ : q_H} {q : Nat} (h : q_E σ) (hq : q = 16 ∨ q = 29) : q_t σ (q + 3) = (2, 12) := by rcases hq with rfl | rfl; exact tg_19 h; exact tg_32 h
theorem tY_q_4 {σ : q_H} {q : Nat} (h : q_E σ) (hq : q = 16 ∨ q = 29) : q_t σ (q + 4) = (4, 12) := by rcases hq with rfl | rfl; exact tg_20 h; exact tg_33 h
theorem tY_q_5 {σ : q_H} {q : Nat} (h : q_E σ) (hq : q = 16 ∨ q = 29) : q_t σ (q + 5) = (2, 2048) := by rcases hq with rfl | rfl; exact tg_21 h; exact tg_34 h
theorem tY_q_6 {σ : q_H} {q : Nat} (h : q_E σ) (hq : q = 16 ∨ q = 29) : q_t σ (q + 6) = (2, 2048) := by rcases hq with rfl | rfl; exact tg_22 h; exact tg_35 h
theorem tY_q_7 {σ : q_H} {q : Nat} (h : q_E σ) (hq : q = 16 ∨ q = 29) : q_t σ (q + 7) = (2, 2048) := by rcases hq with rfl | rfl; exact tg_23 h; exact tg_36 h
theorem tY_q_8 {σ : q_H} {q : Nat} (h : q_E σ) (hq : q = 16 ∨ q = 29) : q_t σ (q + 8) = (2, 2048) := by rcases hq with rfl | rfl; exact tg_24 h; exact tg_37 h
theorem tY_q_9 {σ : q_H} {q : Nat} (h : q_E σ) (hq : q = 16 ∨ q = 29) : q_t σ (q + 9) = (2, 2048) := by rcases hq with rfl | rfl; exact tg_25 h; exact tg_38 h
theorem tY_q_10 {σ : q_H} {q : Nat} (h : q_E σ) (hq : q = 16 ∨ q = 29) : q_t σ (q + 10) = (2, 4096) := by rcases hq with rfl | rfl; exact tg_26 h; exact tg_39 h
theorem tY_q_11 {σ : q_H} {q : Nat} (h : q_E σ) (hq : q = 16 ∨ q = 29) : q_t σ (q + 11) = (2, 4096) := by rcases hq with rfl | rfl; exact tg_27 h; exact tg_40 h
theorem tY_q_12 {σ : q_H} {q : Nat} (h : q_E σ) (hq : q = 16 ∨ q = 29) : q_t σ (q + 12) = (2, 4096) := by rcases hq with rfl | rfl; exact tg_28 h; exact tg_41 h
theorem rY_q_2 {σ : q_H} {q : Nat} (h : q_E σ) (hq : q = 16 ∨ q = 29) : q_r σ q 2 = q + 1 := by rcases hq with rfl | rfl; exact rf_16_2 h; exact rf_29_2 h
theorem rY_q_3 {σ : q_H} {q : Nat} (h : q_E σ) (hq : q = 16 ∨ q = 29) : q_r σ q 3 = q + 2 := by rcases hq with rfl | rfl; exact rf_16_3 h; exact rf_29_3 h
theorem rY_q_5 {σ : q_H} {q : Nat} (h : q_E σ) (hq : q = 16 ∨ q = 29) : q_r σ q 5 = q + 3 := by rcases hq with rfl | rfl; exact rf_16_5 h; exact rf_29_5 h
theorem rY_q_6 {σ : q_H} {q : Nat} (h : q_E σ) (hq : q = 16 ∨ q = 29) : q_r σ q 6 = q + 4 := by rcases hq with rfl | rfl; exact rf_16_6 h; exact rf_29_6 h
theorem rY_q_12 {σ : q_H} {q : Nat} (h : q_E σ) (hq : q = 16 ∨ q = 29) : q_r σ q 12 = q + 5 := by rcases hq with rfl | rfl; exact rf_16_12 h; exact rf_29_12 h
theorem rY_q_13 {σ : q_H} {q : Nat} (h : q_E σ) (hq : q = 16 ∨ q = 29) : q_r σ q 13 = q + 6 := by rcases hq with rfl | rfl; exact rf_16_13 h; exact rf_29_13 h
theorem rY_q_14 {σ : q_H} {q : Nat} (h : q_E σ) (hq : q = 16 ∨ q = 29) : q_r σ q 14 = q + 7 := by rcases hq with rfl | rfl; exact rf_16_14 h; exact rf_29_14 h
theorem rY_q_15 {σ : q_H} {q : Nat} (h : q_E σ) (hq : q = 16 ∨ q = 29) : q_r σ q 15 = q + 8 := by rcases hq with rfl | rfl; exact rf_16_15 h; exact rf_29_15 h
theorem rY_q_16 {σ : q_H} {q : Nat} (h : q_E σ) (hq : q = 16 ∨ q = 29) : q_r σ q 16 = q + 9 := by rcases hq with rfl | rfl; exact rf_16_16 h; exact rf_29_16 h
theorem rY_q_18 {σ : q_H} {q : Nat} (h : q_E σ) (hq : q = 16 ∨ q = 29) : q_r σ q 18 = q + 10 := by rcases hq with rfl | rfl; exact rf_16_18 h; exact rf_29_18 h
theorem rY_q_19 {σ : q_H} {q : Nat} (h : q_E σ) (hq : q = 16 ∨ q = 29) : q_r σ q 19 = q + 11 := by rcases hq with rfl | rfl; exact rf_16_19 h; exact rf_29_19 h
theorem rY_q_20 {σ : q_H} {q : Nat} (h : q_E σ) (hq : q = 16 ∨ q = 29) : q_r σ q 20 = q + 12 := by rcases hq with rfl | rfl; exact rf_16_20 h; exact rf_29_20 h
theorem tY_u_0 {σ : q_H} {u : Nat} (h : q_E σ) (hu : u = 110 ∨ u = 116) : q_t σ u = (2, 9000) := by rcases hu with rfl | rfl; exact tg_110 h; exact tg_116 h
theorem tY_u_1 {σ : q_H} {u : Nat} (h : q_E σ) (hu : u = 110 ∨ u = 116) : q_t σ (u + 1) = (2, 9000) := by rcases hu with rfl | rfl; exact tg_111 h; exact tg_117 h
theorem tY_u_2 {σ : q_H} {u : Nat} (h : q_E σ) (hu : u = 110 ∨ u = 116) : q_t σ (u + 2) = (2, 9000) := by rcases hu with rfl | rfl; exact tg_112 h; exact tg_118 h
theorem tY_u_3 {σ : q_H} {u : Nat} (h : q_E σ) (hu : u = 110 ∨ u = 116) : q_t σ (u + 3) = (2, 9000) := by rcases hu with rfl | rfl; exact tg_113 h; exact tg_119 h
theorem tY_u_4 {σ : q_H} {u : Nat} (h : q_E σ) (hu : u = 110 ∨ u = 116) : q_t σ (u + 4) = (2, 9000) := by rcases hu with rfl | rfl; exact tg_114 h; exact tg_120 h
theorem tY_u_5 {σ : q_H} {u : Nat} (h : q_E σ) (hu : u = 110 ∨ u = 116) : q_t σ (u + 5) = (2, 9000) := by rcases hu with rfl | rfl; exact tg_115 h; exact tg_121 h
theorem tY_m_0 {σ : q_H} {m : Nat} (h : q_E σ) (hm : m = 43 ∨ m = 87) : q_t σ m = (1, 4) := by rcases hm with rfl | rfl; exact tg_43 h; exact tg_87 h
theorem tY_m_1 {σ : q_H} {m : Nat} (h : q_E σ) (hm : m = 43 ∨ m = 87) : q_t σ (m + 1) = (2, 12) := by rcases hm with rfl | rfl; exact tg_44 h; exact tg_88 h
theorem tY_m_2 {σ : q_H} {m : Nat} (h : q_E σ) (hm : m = 43 ∨ m = 87) : q_t σ (m + 2) = (2, 32) := by rcases hm with rfl | rfl; exact tg_45 h; exact tg_89 h
theorem tY_m_3 {σ : q_H} {m : Nat} (h : q_E σ) (hm : m = 43 ∨ m = 87) : q_t σ (m + 3) = (2, 400) := by rcases hm with rfl | rfl; exact tg_46 h; exact tg_90 h
theorem rY_m_2 {σ : q_H} {m : Nat} (h : q_E σ) (hm : m = 43 ∨ m = 87) : q_r σ m 2 = m + 1 := by rcases hm with rfl | rfl; exact rf_43_2 h; exact rf_87_2 h
theorem rY_m_3 {σ : q_H} {m : Nat} (h : q_E σ) (hm : m = 43 ∨ m = 87) : q_r σ m 3 = m + 2 := by rcases hm with rfl | rfl; exact rf_43_3 h; exact rf_87_3 h
theorem rY_m_4 {σ : q_H} {m : Nat} (h : q_E σ) (hm : m = 43 ∨ m = 87) : q_r σ m 4 = m + 3 := by rcases hm with rfl | rfl; exact rf_43_4 h; exact rf_87_4 h
theorem tY_w_0 {σ : q_H} {w : Nat} (h : q_E σ) (hw : w = 42 ∨ w = 91) : q_t σ w = (2, 12) := by rcases hw with rfl | rfl; exact tg_42 h; exact tg_91 h
theorem tY_s_0 {σ : q_H} {s : Nat} (h : q_E σ) (hs : s = 110 ∨ s = 116) : q_t σ s = (2, 9000) := by rcases hs with rfl | rfl; exact tg_110 h; exact tg_116 h
theorem tY_s_1 {σ : q_H} {s : Nat} (h : q_E σ) (hs : s = 110 ∨ s = 116) : q_t σ (s + 1) = (2, 9000) := by rcases hs with rfl | rfl; exact tg_111 h; exact tg_117 h
theorem tY_s_2 {σ : q_H} {s : Nat} (h : q_E σ) (hs : s = 110 ∨ s = 116) : q_t σ (s + 2) = (2, 9000) := by rcases hs with rfl | rfl; exact tg_112 h; exact tg_118 h
theorem tY_s_3 {σ : q_H} {s : Nat} (h : q_E σ) (hs : s = 110 ∨ s = 116) : q_t σ (s + 3) = (2, 9000) := by rcases hs with rfl | rfl; exact tg_113 h; exact tg_119 h
theorem tY_s_4 {σ : q_H} {s : Nat} (h : q_E σ) (hs : s = 110 ∨ s = 116) : q_t σ (s + 4) = (2, 9000) := by rcases hs with rfl | rfl; exact tg_114 h; exact tg_120 h
theorem tY_s_5 {σ : q_H} {s : Nat} (h : q_E σ) (hs : s = 110 ∨ s = 116) : q_t σ (s + 5) = (2, 9000) := by rcases hs with rfl | rfl; exact tg_115 h; exact tg_121 h
theorem tY_b_0 {σ : q_H} {b : Nat} (h : q_E σ) (hb : b = 61 ∨ b = 62) : q_t σ b = (2, 96) := by rcases hb with rfl | rfl; exact tg_61 h; exact tg_62 h
theorem tY_t_0 {σ : q_H} {t : Nat} (h : q_E σ) (ht : t = 125 ∨ t = 126 ∨ t = 127) : q_t σ t = (2, 16) := by rcases ht with rfl | rfl | rfl; exact tg_125 h; exact tg_126 h; exact tg_127 h
theorem d_Sc_isLetter_0 : decode m_Sc_isLetter.2.1 0 = .ok (.iload_n 0, 1) := by decide +kernel
theorem d_Sc_isLetter_1 : decode m_Sc_isLetter.2.1 1 = .ok (.bipush 97, 2) := by decide +kernel
theorem d_Sc_isLetter_3 : decode m_Sc_isLetter.2.1 3 = .ok (.if_icmp .lt 13, 3) := by decide +kernel
theorem d_Sc_isLetter_6 : decode m_Sc_isLetter.2.1 6 = .ok (.iload_n 0, 1) := by decide +kernel
theorem d_Sc_isLetter_7 : decode m_Sc_isLetter.2.1 7 = .ok (.bipush 122, 2) := by decide +kernel
theorem d_Sc_isLetter_9 : decode m_Sc_isLetter.2.1 9 = .ok (.if_icmp .gt 7, 3) := by decide +kernel
theorem d_Sc_isLetter_12 : decode m_Sc_isLetter.2.1 12 = .ok (.iconst 1, 1) := by decide +kernel
theorem d_Sc_isLetter_13 : decode m_Sc_isLetter.2.1 13 = .ok (.goto 4, 3) := by decide +kernel
theorem d_Sc_isLetter_16 : decode m_Sc_isLetter.2.1 16 = .ok (.iconst 0, 1) := by decide +kernel
theorem d_Sc_isLetter_17 : decode m_Sc_isLetter.2.1 17 = .ok (.ireturn, 1) := by decide +kernel
theorem d_M_letter_0 : decode m_M_letter.2.1 0 = .ok (.iload_n 0, 1) := by decide +kernel
theorem d_M_letter_1 : decode m_M_letter.2.1 1 = .ok (.bipush 97, 2) := by decide +kernel
theorem d_M_letter_3 : decode m_M_letter.2.1 3 = .ok (.if_icmp .lt 13, 3) := by decide +kernel
theorem d_M_letter_6 : decode m_M_letter.2.1 6 = .ok (.iload_n 0, 1) := by decide +kernel
theorem d_M_letter_7 : decode m_M_letter.2.1 7 = .ok (.bipush 122, 2) := by decide +kernel
theorem d_M_letter_9 : decode m_M_letter.2.1 9 = .ok (.if_icmp .gt 7, 3) := by decide +kernel
theorem d_M_letter_12 : decode m_M_letter.2.1 12 = .ok (.iconst 1, 1) := by decide +kernel
theorem d_M_letter_13 : decode m_M_letter.2.1 13 = .ok (.goto 4, 3) := by decide +kernel
theorem d_M_letter_16 : decode m_M_letter.2.1 16 = .ok (.iconst 0, 1) := by decide +kernel
theorem d_M_letter_17 : decode m_M_letter.2.1 17 = .ok (.ireturn, 1) := by decide +kernel
theorem d_Sc_isDigit_0 : decode m_Sc_isDigit.2.1 0 = .ok (.iload_n 0, 1) := by decide +kernel
theorem d_Sc_isDigit_1 : decode m_Sc_isDigit.2.1 1 = .ok (.bipush 48, 2) := by decide +kernel
theorem d_Sc_isDigit_3 : decode m_Sc_isDigit.2.1 3 = .ok (.if_icmp .lt 13, 3) := by decide +kernel
theorem d_Sc_isDigit_6 : decode m_Sc_isDigit.2.1 6 = .ok (.iload_n 0, 1) := by decide +kernel
theorem d_Sc_isDigit_7 : decode m_Sc_isDigit.2.1 7 = .ok (.bipush 57, 2) := by decide +kernel
theorem d_Sc_isDigit_9 : decode m_Sc_isDigit.2.1 9 = .ok (.if_icmp .gt 7, 3) := by decide +kernel
theorem d_Sc_isDigit_12 : decode m_Sc_isDigit.2.1 12 = .ok (.iconst 1, 1) := by decide +kernel
theorem d_Sc_isDigit_13 : decode m_Sc_isDigit.2.1 13 = .ok (.goto 4, 3) := by decide +kernel
theorem d_Sc_isDigit_16 : decode m_Sc_isDigit.2.1 16 = .ok (.iconst 0, 1) := by decide +kernel
theorem d_Sc_isDigit_17 : decode m_Sc_isDigit.2.1 17 = .ok (.ireturn, 1) := by decide +kernel
theorem d_M_digit_0 : decode m_M_digit.2.1 0 = .ok (.iload_n 0, 1) := by decide +kernel
theorem d_M_digit_1 : decode m_M_digit.2.1 1 = .ok (.bipush 48, 2) := by decide +kernel
theorem d_M_digit_3 : decode m_M_digit.2.1 3 = .ok (.if_icmp .lt 13, 3) := by decide +kernel
theorem d_M_digit_6 : decode m_M_digit.2.1 6 = .ok (.iload_n 0, 1) := by decide +kernel
theorem d_M_digit_7 : decode m_M_digit.2.1 7 = .ok (.bipush 57, 2) := by decide +kernel
theorem d_M_digit_9 : decode m_M_digit.2.1 9 = .ok (.if_icmp .gt 7, 3) := by decide +kernel
theorem d_M_digit_12 : decode m_M_digit.2.1 12 = .ok (.iconst 1, 1) := by decide +kernel
theorem d_M_digit_13 : decode m_M_digit.2.1 13 = .ok (.goto 4, 3) := by decide +kernel
theorem d_M_digit_16 : decode m_M_digit.2.1 16 = .ok (.iconst 0, 1) := by decide +kernel
theorem d_M_digit_17 : decode m_M_digit.2.1 17 = .ok (.ireturn, 1) := by decide +kernel
theorem d_H_mask_0 : decode m_H_mask.2.1 0 = .ok (.iconst 1, 1) := by decide +kernel
theorem d_H_mask_1 : decode m_H_mask.2.1 1 = .ok (.iload_n 0, 1) := by decide +kernel
theorem d_H_mask_2 : decode m_H_mask.2.1 2 = .ok (.ishl, 1) := by decide +kernel
theorem d_H_mask_3 : decode m_H_mask.2.1 3 = .ok (.iconst 1, 1) := by decide +kernel
theorem d_H_mask_4 : decode m_H_mask.2.1 4 = .ok (.isub, 1) := by decide +kernel
theorem d_H_mask_5 : decode m_H_mask.2.1 5 = .ok (.ireturn, 1) := by decide +kernel
theorem d_M_cut_2_0 : decode m_M_cut_2.2.1 0 = .ok (.iload_n 0, 1) := by decide +kernel
theorem d_M_cut_2_1 : decode m_M_cut_2.2.1 1 = .ok (.iconst 1, 1) := by decide +kernel
theorem d_M_cut_2_2 : decode m_M_cut_2.2.1 2 = .ok (.iload_n 1, 1) := by decide +kernel
theorem d_M_cut_2_3 : decode m_M_cut_2.2.1 3 = .ok (.ishl, 1) := by decide +kernel
theorem d_M_cut_2_4 : decode m_M_cut_2.2.1 4 = .ok (.iconst 1, 1) := by decide +kernel
theorem d_M_cut_2_5 : decode m_M_cut_2.2.1 5 = .ok (.isub, 1) := by decide +kernel
theorem d_M_cut_2_6 : decode m_M_cut_2.2.1 6 = .ok (.iand, 1) := by decide +kernel
theorem d_M_cut_2_7 : decode m_M_cut_2.2.1 7 = .ok (.ireturn, 1) := by decide +kernel
theorem d_Ma_truth_0 : decode m_Ma_truth.2.1 0 = .ok (.iload_n 0, 1) := by decide +kernel
theorem d_Ma_truth_1 : decode m_Ma_truth.2.1 1 = .ok (.ifCond .eq 7, 3) := by decide +kernel
theorem d_Ma_truth_4 : decode m_Ma_truth.2.1 4 = .ok (.iconst 1, 1) := by decide +kernel
theorem d_Ma_truth_5 : decode m_Ma_truth.2.1 5 = .ok (.goto 4, 3) := by decide +kernel
theorem d_Ma_truth_8 : decode m_Ma_truth.2.1 8 = .ok (.iconst 0, 1) := by decide +kernel
theorem d_Ma_truth_9 : decode m_Ma_truth.2.1 9 = .ok (.ireturn, 1) := by decide +kernel
theorem d_Sc_start_0 : decode m_Sc_start.2.1 0 = .ok (.aload_n 0, 1) := by decide +kernel
theorem d_Sc_start_1 : decode m_Sc_start.2.1 1 = .ok (.getfield 19, 3) := by decide +kernel
theorem d_Sc_start_4 : decode m_Sc_start.2.1 4 = .ok (.aload_n 0, 1) := by decide +kernel
theorem d_Sc_start_5 : decode m_Sc_start.2.1 5 = .ok (.getfield 62, 3) := by decide +kernel
theorem d_Sc_start_8 : decode m_Sc_start.2.1 8 = .ok (.iaload, 1) := by decide +kernel
theorem d_Sc_start_9 : decode m_Sc_start.2.1 9 = .ok (.ireturn, 1) := by decide +kernel
theorem d_Sc_name_0 : decode m_Sc_name.2.1 0 = .ok (.aload_n 0, 1) := by decide +kernel
theorem d_Sc_name_1 : decode m_Sc_name.2.1 1 = .ok (.getfield 22, 3) := by decide +kernel
theorem d_Sc_name_4 : decode m_Sc_name.2.1 4 = .ok (.aload_n 0, 1) := by decide +kernel
theorem d_Sc_name_5 : decode m_Sc_name.2.1 5 = .ok (.getfield 62, 3) := by decide +kernel
theorem d_Sc_name_8 : decode m_Sc_name.2.1 8 = .ok (.laload, 1) := by decide +kernel
theorem d_Sc_name_9 : decode m_Sc_name.2.1 9 = .ok (.lreturn, 1) := by decide +kernel
theorem d_Sc_number_0 : decode m_Sc_number.2.1 0 = .ok (.aload_n 0, 1) := by decide +kernel
theorem d_Sc_number_1 : decode m_Sc_number.2.1 1 = .ok (.getfield 22, 3) := by decide +kernel
theorem d_Sc_number_4 : decode m_Sc_number.2.1 4 = .ok (.aload_n 0, 1) := by decide +kernel
theorem d_Sc_number_5 : decode m_Sc_number.2.1 5 = .ok (.getfield 62, 3) := by decide +kernel
theorem d_Sc_number_8 : decode m_Sc_number.2.1 8 = .ok (.laload, 1) := by decide +kernel
theorem d_Sc_number_9 : decode m_Sc_number.2.1 9 = .ok (.l2i, 1) := by decide +kernel
theorem d_Sc_number_10 : decode m_Sc_number.2.1 10 = .ok (.ireturn, 1) := by decide +kernel
set_option maxHeartbeats 2000000 in
theorem b_Sc_isLetter_0 {ω : q_W} {σ : q_H} {Q : q_R → q_H → Prop} {d mc ms : Nat} {x0 : Int}  (hE : q_E σ) (h : inR x0 ∧ q_imp (x0 < 97) ((Q (.inl (some (.int (zI 0)))) σ)) ∧ q_imp (x0 ≥ 97) (q_imp (x0 > 122) ((Q (.inl (some (.int (zI 0)))) σ)) ∧ q_imp (x0 ≤ 122) ((Q (.inl (some (.int (zI 1)))) σ)))) : J ω m_Sc_isLetter d mc ms 0 0 0 [(0, .int (zI x0))] [] σ Q := by
  refine j_iload_n d_Sc_isLetter_0 0 rfl ?_
  refine j_bipush (v := zI 97) d_Sc_isLetter_1 (by decide) ?_
  obtain ⟨r1, h⟩ := h
  obtain ⟨h1, h2⟩ := h
  refine zj_icmp_lt 16 d_Sc_isLetter_3 (by decide) r1 ⟨by decide, by decide⟩ (fun k2 => ?_) (fun k2 => ?_)
  · have h := h1 k2
    refine j_iconst (v := zI 0) d_Sc_isLetter_16 (by decide) ?_
    exact zj_zret d_Sc_isLetter_17 rfl (by decide) (Nat.zero_le _) (Nat.zero_le _) h
  · have h := h2 k2
    refine j_iload_n d_Sc_isLetter_6 0 rfl ?_
    refine j_bipush (v := zI 122) d_Sc_isLetter_7 (by decide) ?_
    obtain ⟨h1, h2⟩ := h
    refine zj_icmp_gt 16 d_Sc_isLetter_9 (by decide) r1 ⟨by decide, by decide⟩ (fun k3 => ?_) (fun k3 => ?_)
    · have h := h1 k3
      refine j_iconst (v := zI 0) d_Sc_isLetter_16 (by decide) ?_
      exact zj_zret d_Sc_isLetter_17 rfl (by decide) (Nat.zero_le _) (Nat.zero_le _) h
    · have h := h2 k3
      refine j_iconst (v := zI 1) d_Sc_isLetter_12 (by decide) ?_
      refine j_goto 17 d_Sc_isLetter_13 (by decide) ?_
      exact zj_zret d_Sc_isLetter_17 rfl (by decide) (Nat.zero_le _) (Nat.zero_le _) h
theorem c_Sc_isLetter {ω : q_W} {σ : q_H} {d : Nat} {x : Int}  (hE : q_E σ) (rx : inR x) : J ω m_Sc_isLetter d 0 0 0 0 0 [(0, .int (zI x))] [] σ (fun r τ => r = .inl (some (.int (zI (zIf (97 ≤ x ∧ x ≤ 122))))) ∧ τ = σ) := by
  refine b_Sc_isLetter_0 hE ⟨rx, fun h => ⟨by rw [zIf_0 (by omega)], rfl⟩, fun h => ⟨fun h2 => ⟨by rw [zIf_0 (by omega)], rfl⟩, fun h2 => ⟨by rw [zIf_1 (by omega)], rfl⟩⟩⟩
set_option maxHeartbeats 2000000 in
theorem b_M_letter_0 {ω : q_W} {σ : q_H} {Q : q_R → q_H → Prop} {d mc ms : Nat} {x0 : Int}  (hE : q_E σ) (h : inR x0 ∧ q_imp (x0 < 97) ((Q (.inl (some (.int (zI 0)))) σ)) ∧ q_imp (x0 ≥ 97) (q_imp (x0 > 122) ((Q (.inl (some (.int (zI 0)))) σ)) ∧ q_imp (x0 ≤ 122) ((Q (.inl (some (.int (zI 1)))) σ)))) : J ω m_M_letter d mc ms 0 0 0 [(0, .int (zI x0))] [] σ Q := by
  refine j_iload_n d_M_letter_0 0 rfl ?_
  refine j_bipush (v := zI 97) d_M_letter_1 (by decide) ?_
  obtain ⟨r1, h⟩ := h
  obtain ⟨h1, h2⟩ := h
  refine zj_icmp_lt 16 d_M_letter_3 (by decide) r1 ⟨by decide, by decide⟩ (fun k2 => ?_) (fun k2 => ?_)
  · have h := h1 k2
    refine j_iconst (v := zI 0) d_M_letter_16 (by decide) ?_
    exact zj_zret d_M_letter_17 rfl (by decide) (Nat.zero_le _) (Nat.zero_le _) h
  · have h := h2 k2
    refine j_iload_n d_M_letter_6 0 rfl ?_
    refine j_bipush (v := zI 122) d_M_letter_7 (by decide) ?_
    obtain ⟨h1, h2⟩ := h
    refine zj_icmp_gt 16 d_M_letter_9 (by decide) r1 ⟨by decide, by decide⟩ (fun k3 => ?_) (fun k3 => ?_)
    · have h := h1 k3
      refine j_iconst (v := zI 0) d_M_letter_16 (by decide) ?_
      exact zj_zret d_M_letter_17 rfl (by decide) (Nat.zero_le _) (Nat.zero_le _) h
    · have h := h2 k3
      refine j_iconst (v := zI 1) d_M_letter_12 (by decide) ?_
      refine j_goto 17 d_M_letter_13 (by decide) ?_
      exact zj_zret d_M_letter_17 rfl (by decide) (Nat.zero_le _) (Nat.zero_le _) h
theorem c_M_letter {ω : q_W} {σ : q_H} {d : Nat} {x : Int}  (hE : q_E σ) (rx : inR x) : J ω m_M_letter d 0 0 0 0 0 [(0, .int (zI x))] [] σ (fun r τ => r = .inl (some (.int (zI (zIf (97 ≤ x ∧ x ≤ 122))))) ∧ τ = σ) := by
  refine b_M_letter_0 hE ⟨rx, fun h => ⟨by rw [zIf_0 (by omega)], rfl⟩, fun h => ⟨fun h2 => ⟨by rw [zIf_0 (by omega)], rfl⟩, fun h2 => ⟨by rw [zIf_1 (by omega)], rfl⟩⟩⟩
set_option maxHeartbeats 2000000 in
theorem b_Sc_isDigit_0 {ω : q_W} {σ : q_H} {Q : q_R → q_H → Prop} {d mc ms : Nat} {x0 : Int}  (hE : q_E σ) (h : inR x0 ∧ q_imp (x0 < 48) ((Q (.inl (some (.int (zI 0)))) σ)) ∧ q_imp (x0 ≥ 48) (q_imp (x0 > 57) ((Q (.inl (some (.int (zI 0)))) σ)) ∧ q_imp (x0 ≤ 57) ((Q (.inl (some (.int (zI 1)))) σ)))) : J ω m_Sc_isDigit d mc ms 0 0 0 [(0, .int (zI x0))] [] σ Q := by
  refine j_iload_n d_Sc_isDigit_0 0 rfl ?_
  refine j_bipush (v := zI 48) d_Sc_isDigit_1 (by decide) ?_
  obtain ⟨r1, h⟩ := h
  obtain ⟨h1, h2⟩ := h
  refine zj_icmp_lt 16 d_Sc_isDigit_3 (by decide) r1 ⟨by decide, by decide⟩ (fun k2 => ?_) (fun k2 => ?_)
  · have h := h1 k2
    refine j_iconst (v := zI 0) d_Sc_isDigit_16 (by decide) ?_
    exact zj_zret d_Sc_isDigit_17 rfl (by decide) (Nat.zero_le _) (Nat.zero_le _) h
  · have h := h2 k2
    refine j_iload_n d_Sc_isDigit_6 0 rfl ?_
    refine j_bipush (v := zI 57) d_Sc_isDigit_7 (by decide) ?_
    obtain ⟨h1, h2⟩ := h
    refine zj_icmp_gt 16 d_Sc_isDigit_9 (by decide) r1 ⟨by decide, by decide⟩ (fun k3 => ?_) (fun k3 => ?_)
    · have h := h1 k3
      refine j_iconst (v := zI 0) d_Sc_isDigit_16 (by decide) ?_
      exact zj_zret d_Sc_isDigit_17 rfl (by decide) (Nat.zero_le _) (Nat.zero_le _) h
    · have h := h2 k3
      refine j_iconst (v := zI 1) d_Sc_isDigit_12 (by decide) ?_
      refine j_goto 17 d_Sc_isDigit_13 (by decide) ?_
      exact zj_zret d_Sc_isDigit_17 rfl (by decide) (Nat.zero_le _) (Nat.zero_le _) h
theorem c_Sc_isDigit {ω : q_W} {σ : q_H} {d : Nat} {x : Int}  (hE : q_E σ) (rx : inR x) : J ω m_Sc_isDigit d 0 0 0 0 0 [(0, .int (zI x))] [] σ (fun r τ => r = .inl (some (.int (zI (zIf (48 ≤ x ∧ x ≤ 57))))) ∧ τ = σ) := by
  refine b_Sc_isDigit_0 hE ⟨rx, fun h => ⟨by rw [zIf_0 (by omega)], rfl⟩, fun h => ⟨fun h2 => ⟨by rw [zIf_0 (by omega)], rfl⟩, fun h2 => ⟨by rw [zIf_1 (by omega)], rfl⟩⟩⟩
set_option maxHeartbeats 2000000 in
theorem b_M_digit_0 {ω : q_W} {σ : q_H} {Q : q_R → q_H → Prop} {d mc ms : Nat} {x0 : Int}  (hE : q_E σ) (h : inR x0 ∧ q_imp (x0 < 48) ((Q (.inl (some (.int (zI 0)))) σ)) ∧ q_imp (x0 ≥ 48) (q_imp (x0 > 57) ((Q (.inl (some (.int (zI 0)))) σ)) ∧ q_imp (x0 ≤ 57) ((Q (.inl (some (.int (zI 1)))) σ)))) : J ω m_M_digit d mc ms 0 0 0 [(0, .int (zI x0))] [] σ Q := by
  refine j_iload_n d_M_digit_0 0 rfl ?_
  refine j_bipush (v := zI 48) d_M_digit_1 (by decide) ?_
  obtain ⟨r1, h⟩ := h
  obtain ⟨h1, h2⟩ := h
  refine zj_icmp_lt 16 d_M_digit_3 (by decide) r1 ⟨by decide, by decide⟩ (fun k2 => ?_) (fun k2 => ?_)
  · have h := h1 k2
    refine j_iconst (v := zI 0) d_M_digit_16 (by decide) ?_
    exact zj_zret d_M_digit_17 rfl (by decide) (Nat.zero_le _) (Nat.zero_le _) h
  · have h := h2 k2
    refine j_iload_n d_M_digit_6 0 rfl ?_
    refine j_bipush (v := zI 57) d_M_digit_7 (by decide) ?_
    obtain ⟨h1, h2⟩ := h
    refine zj_icmp_gt 16 d_M_digit_9 (by decide) r1 ⟨by decide, by decide⟩ (fun k3 => ?_) (fun k3 => ?_)
    · have h := h1 k3
      refine j_iconst (v := zI 0) d_M_digit_16 (by decide) ?_
      exact zj_zret d_M_digit_17 rfl (by decide) (Nat.zero_le _) (Nat.zero_le _) h
    · have h := h2 k3
      refine j_iconst (v := zI 1) d_M_digit_12 (by decide) ?_
      refine j_goto 17 d_M_digit_13 (by decide) ?_
      exact zj_zret d_M_digit_17 rfl (by decide) (Nat.zero_le _) (Nat.zero_le _) h
theorem c_M_digit {ω : q_W} {σ : q_H} {d : Nat} {x : Int}  (hE : q_E σ) (rx : inR x) : J ω m_M_digit d 0 0 0 0 0 [(0, .int (zI x))] [] σ (fun r τ => r = .inl (some (.int (zI (zIf (48 ≤ x ∧ x ≤ 57))))) ∧ τ = σ) := by
  refine b_M_digit_0 hE ⟨rx, fun h => ⟨by rw [zIf_0 (by omega)], rfl⟩, fun h => ⟨fun h2 => ⟨by rw [zIf_0 (by omega)], rfl⟩, fun h2 => ⟨by rw [zIf_1 (by omega)], rfl⟩⟩⟩
set_option maxHeartbeats 2000000 in
theorem b_H_mask_0 {ω : q_W} {σ : q_H} {Q : q_R → q_H → Prop} {d mc ms : Nat} {x0 : Int}  (hE : q_E σ) (h : (Q (.inl (some (.int (zI ((zShl 1 x0) - 1))))) σ)) : J ω m_H_mask d mc ms 0 0 0 [(0, .int (zI x0))] [] σ Q := by
  refine j_iconst (v := zI 1) d_H_mask_0 (by decide) ?_
  refine j_iload_n d_H_mask_1 0 rfl ?_
  refine zj_ishl d_H_mask_2 ?_
  refine j_iconst (v := zI 1) d_H_mask_3 (by decide) ?_
  refine zj_isub ((zShl 1 x0) - 1) (by omega) d_H_mask_4 ?_
  exact zj_iret d_H_mask_5 rfl (Nat.zero_le _) (Nat.zero_le _) h
theorem c_H_mask {ω : q_W} {σ : q_H} {d : Nat} {x : Int}  (hE : q_E σ) (rx : inR x) : J ω m_H_mask d 0 0 0 0 0 [(0, .int (zI x))] [] σ (fun r τ => r = .inl (some (.int (zI (zShl 1 x - 1)))) ∧ τ = σ) := by
  exact b_H_mask_0 hE ⟨rfl, rfl⟩
set_option maxHeartbeats 2000000 in
theorem b_M_cut_2_0 {ω : q_W} {σ : q_H} {Q : q_R → q_H → Prop} {d mc ms : Nat} {x0 : Int} {x1 : Int}  (hE : q_E σ) (h : (Q (.inl (some (.int (zI (zAnd x0 ((zShl 1 x1) - 1)))))) σ)) : J ω m_M_cut_2 d mc ms 0 0 0 [(0, .int (zI x0)), (1, .int (zI x1))] [] σ Q := by
  refine j_iload_n d_M_cut_2_0 0 rfl ?_
  refine j_iconst (v := zI 1) d_M_cut_2_1 (by decide) ?_
  refine j_iload_n d_M_cut_2_2 1 rfl ?_
  refine zj_ishl d_M_cut_2_3 ?_
  refine j_iconst (v := zI 1) d_M_cut_2_4 (by decide) ?_
  refine zj_isub ((zShl 1 x1) - 1) (by omega) d_M_cut_2_5 ?_
  refine zj_iand d_M_cut_2_6 ?_
  exact zj_iret d_M_cut_2_7 rfl (Nat.zero_le _) (Nat.zero_le _) h
theorem c_M_cut_2 {ω : q_W} {σ : q_H} {d : Nat} {x : Int} {y : Int}  (hE : q_E σ) (rx : inR x) (ry : inR y) : J ω m_M_cut_2 d 0 0 0 0 0 [(0, .int (zI x)), (1, .int (zI y))] [] σ (fun r τ => r = .inl (some (.int (zI (zAnd x (zShl 1 y - 1))))) ∧ τ = σ) := by
  exact b_M_cut_2_0 hE ⟨rfl, rfl⟩
set_option maxHeartbeats 2000000 in
theorem b_Ma_truth_0 {ω : q_W} {σ : q_H} {Q : q_R → q_H → Prop} {d mc ms : Nat} {x0 : Int}  (hE : q_E σ) (h : inR x0 ∧ q_imp (x0 = 0) ((Q (.inl (some (.int (zI 0)))) σ)) ∧ q_imp (x0 ≠ 0) ((Q (.inl (some (.int (zI 1)))) σ))) : J ω m_Ma_truth d mc ms 0 0 0 [(0, .int (zI x0))] [] σ Q := by
  refine j_iload_n d_Ma_truth_0 0 rfl ?_
  obtain ⟨r1, h⟩ := h
  obtain ⟨h1, h2⟩ := h
  refine zj_if_eq 8 d_Ma_truth_1 (by decide) r1 (fun k2 => ?_) (fun k2 => ?_)
  · have h := h1 k2
    refine j_iconst (v := zI 0) d_Ma_truth_8 (by decide) ?_
    exact zj_iret d_Ma_truth_9 rfl (Nat.zero_le _) (Nat.zero_le _) h
  · have h := h2 k2
    refine j_iconst (v := zI 1) d_Ma_truth_4 (by decide) ?_
    refine j_goto 9 d_Ma_truth_5 (by decide) ?_
    exact zj_iret d_Ma_truth_9 rfl (Nat.zero_le _) (Nat.zero_le _) h
theorem c_Ma_truth {ω : q_W} {σ : q_H} {d : Nat} {x : Int}  (hE : q_E σ) (rx : inR x) : J ω m_Ma_truth d 0 0 0 0 0 [(0, .int (zI x))] [] σ (fun r τ => r = .inl (some (.int (zI (zIf (x ≠ 0))))) ∧ τ = σ) := by
  refine b_Ma_truth_0 hE ⟨rx, fun h => ⟨by rw [zIf_0 (by omega)], rfl⟩, fun h => ⟨by rw [zIf_1 (by omega)], rfl⟩⟩
theorem c_Sc_kind {ω : q_W} {σ : q_H} {d : Nat} {e0 : Int} {e1 : Int}  (hE : q_E σ) (c0 : (0 ≤ e0 ∧ e0 < 4097)) (he0 : q_i σ 2 8 = zI e0) (he1 : q_i σ 4 e0.toNat = zI e1) : J ω m_Sc_kind d 0 0 0 0 0 [(0, .ref 2)] [] σ (fun r τ => r = .inl (some (.int (zI e1))) ∧ τ = σ) := by
  refine j_aload_n d_Sc_kind_0 0 rfl ?_
  refine j_getR 4 f_Sc_15 d_Sc_kind_1 (tg_2 hE) (q_okE hE (by decide)) (rf_2_5 hE) (by decide) ?_
  refine j_aload_n d_Sc_kind_4 0 rfl ?_
  refine zj_getI e0 f_Sc_62 d_Sc_kind_5 (tg_2 hE) (q_okE hE (by decide)) he0 ?_
  skip
  refine zj_iald e1 d_Sc_kind_8 (tg_4 hE) (q_okE hE (by decide)) c0 (by decide) he1 ?_
  exact zj_iret d_Sc_kind_9 rfl (Nat.zero_le _) (Nat.zero_le _) ⟨rfl, rfl⟩
theorem c_Sc_start {ω : q_W} {σ : q_H} {d : Nat} {e0 : Int} {e1 : Int}  (hE : q_E σ) (c0 : (0 ≤ e0 ∧ e0 < 4097)) (he0 : q_i σ 2 8 = zI e0) (he1 : q_i σ 5 e0.toNat = zI e1) : J ω m_Sc_start d 0 0 0 0 0 [(0, .ref 2)] [] σ (fun r τ => r = .inl (some (.int (zI e1))) ∧ τ = σ) := by
  refine j_aload_n d_Sc_start_0 0 rfl ?_
  refine j_getR 5 f_Sc_19 d_Sc_start_1 (tg_2 hE) (q_okE hE (by decide)) (rf_2_6 hE) (by decide) ?_
  refine j_aload_n d_Sc_start_4 0 rfl ?_
  refine zj_getI e0 f_Sc_62 d_Sc_start_5 (tg_2 hE) (q_okE hE (by decide)) he0 ?_
  skip
  refine zj_iald e1 d_Sc_start_8 (tg_5 hE) (q_okE hE (by decide)) c0 (by decide) he1 ?_
  exact zj_iret d_Sc_start_9 rfl (Nat.zero_le _) (Nat.zero_le _) ⟨rfl, rfl⟩
theorem c_Sc_name {ω : q_W} {σ : q_H} {d : Nat} {e0 : Int} {e1 : Int64}  (hE : q_E σ) (c0 : (0 ≤ e0 ∧ e0 < 4097)) (he0 : q_i σ 2 8 = zI e0) (he1 : q_l σ 6 e0.toNat = e1) : J ω m_Sc_name d 0 0 0 0 0 [(0, .ref 2)] [] σ (fun r τ => r = .inl (some (.long e1)) ∧ τ = σ) := by
  refine j_aload_n d_Sc_name_0 0 rfl ?_
  refine j_getR 6 f_Sc_22 d_Sc_name_1 (tg_2 hE) (q_okE hE (by decide)) (rf_2_7 hE) (by decide) ?_
  refine j_aload_n d_Sc_name_4 0 rfl ?_
  refine zj_getI e0 f_Sc_62 d_Sc_name_5 (tg_2 hE) (q_okE hE (by decide)) he0 ?_
  skip
  refine zj_lald e1 d_Sc_name_8 (tg_6 hE) (q_okE hE (by decide)) c0 (by decide) he1 ?_
  exact j_lret d_Sc_name_9 rfl (Nat.zero_le _) (Nat.zero_le _) ⟨rfl, rfl⟩
theorem c_Sc_number {ω : q_W} {σ : q_H} {d : Nat} {e0 : Int} {e1 : Int64}  (hE : q_E σ) (c0 : (0 ≤ e0 ∧ e0 < 4097)) (he0 : q_i σ 2 8 = zI e0) (he1 : q_l σ 6 e0.toNat = e1) : J ω m_Sc_number d 0 0 0 0 0 [(0, .ref 2)] [] σ (fun r τ => r = .inl (some (.int (zI (zL e1)))) ∧ τ = σ) := by
  refine j_aload_n d_Sc_number_0 0 rfl ?_
  refine j_getR 6 f_Sc_22 d_Sc_number_1 (tg_2 hE) (q_okE hE (by decide)) (rf_2_7 hE) (by decide) ?_
  refine j_aload_n d_Sc_number_4 0 rfl ?_
  refine zj_getI e0 f_Sc_62 d_Sc_number_5 (tg_2 hE) (q_okE hE (by decide)) he0 ?_
  skip
  refine zj_lald e1 d_Sc_number_8 (tg_6 hE) (q_okE hE (by decide)) c0 (by decide) he1 ?_
  refine zj_l2i d_Sc_number_9 ?_
  exact zj_iret d_Sc_number_10 rfl (Nat.zero_le _) (Nat.zero_le _) ⟨rfl, rfl⟩
theorem c_M_kind {ω : q_W} {σ : q_H} {d : Nat} {e0 : Int} {e1 : Int} {s : Nat} (hs : s = 110 ∨ s = 116) (rs0 : q_r σ 94 32 = s) (rs1 : q_r σ 94 33 = (s + 1)) (rs2 : q_r σ 94 34 = (s + 2)) (rs3 : q_r σ 94 35 = (s + 3)) (rs4 : q_r σ 94 36 = (s + 4)) (rs5 : q_r σ 94 37 = (s + 5)) (hE : q_E σ) (c0 : (0 ≤ e0 ∧ e0 < 4098)) (he0 : q_i σ 94 8 = zI e0) (he1 : q_i σ 96 e0.toNat = zI e1) : J ω m_M_kind d 0 0 0 0 0 [(0, .ref 94)] [] σ (fun r τ => r = .inl (some (.int (zI e1))) ∧ τ = σ) := by
  refine j_aload_n d_M_kind_0 0 rfl ?_
  refine j_getR 96 f_M_13 d_M_kind_1 (tg_94 hE) (q_okE hE (by decide)) (rf_94_3 hE) (by decide) ?_
  refine j_aload_n d_M_kind_4 0 rfl ?_
  refine zj_getI e0 f_M_218 d_M_kind_5 (tg_94 hE) (q_okE hE (by decide)) he0 ?_
  skip
  refine zj_iald e1 d_M_kind_8 (tg_96 hE) (q_okE hE (by decide)) c0 (by decide) he1 ?_
  exact zj_iret d_M_kind_9 rfl (Nat.zero_le _) (Nat.zero_le _) ⟨rfl, rfl⟩
