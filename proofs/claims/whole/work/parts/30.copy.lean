/-! System.arraycopy, and the tables -/
def zcp (σ : q_H) (a0 sp a dp n : Nat) : q_H := (q_n σ, q_t σ, q_row (q_i σ) a (va_cpy (q_i σ a0) (q_i σ a) sp dp n), q_r σ, q_l σ)
theorem zcp_E {σ : q_H} {a0 sp a dp n : Nat} (h : q_E σ) : q_E (zcp σ a0 sp a dp n) := h
theorem zcp_o {σ : q_H} {a0 sp a dp n b j : Nat} (h : b ≠ a) : q_i (zcp σ a0 sp a dp n) b j = q_i σ b j := congrFun (q_row_n _ _ h) j
theorem z_cp_o {σ : q_H} {a0 sp a dp n b j : Nat} (h : b ≠ a) : z (zcp σ a0 sp a dp n) b j = z σ b j := by unfold z; rw [zcp_o h]
theorem z_cp_in {σ : q_H} {a0 sp a dp n j : Nat} (h : dp ≤ j ∧ j < dp + n) : z (zcp σ a0 sp a dp n) a j = z σ a0 (sp + (j - dp)) := by
  unfold z
  show (q_row (q_i σ) a (va_cpy (q_i σ a0) (q_i σ a) sp dp n) a j).toInt = _
  rw [q_row_s]; unfold va_cpy; rw [if_pos h]
theorem z_cp_out {σ : q_H} {a0 sp a dp n j : Nat} (h : ¬ (dp ≤ j ∧ j < dp + n)) : z (zcp σ a0 sp a dp n) a j = z σ a j := by
  unfold z
  show (q_row (q_i σ) a (va_cpy (q_i σ a0) (q_i σ a) sp dp n) a j).toInt = _
  rw [q_row_s]; unfold va_cpy; rw [if_neg h]
def zT (l : List Int32) (e : Int) : Int := (l.getD e.toNat 0).toInt
section CopyJ
variable {ω : q_W} {μ : q_M} {d mc ms cs sl pc : Nat} {L : List (Nat × Value)} {st : List Value} {σ : q_H} {Q : q_R → q_H → Prop}
theorem zj_ialdO {a : Nat} {lst : List Int32} {e : Int} (hm : (a, FieldType.int, lst) ∈ q_olds) (ha : 1000000 ≤ a) (hd : decode μ.2.1 pc = .ok (.iaload, 1)) (h : 0 ≤ e ∧ e < (lst.length : Int)) (hn : lst.length < 2147483648) (kk : J ω μ d mc ms cs sl (pc + 1) L (.int (zI (zT lst e)) :: st) σ Q) : J ω μ d mc ms cs sl pc L (.int (zI e) :: .ref a :: st) σ Q :=
  j_ialdO e.toNat hm ha hd (zI_nat h.1) (by omega) hn (j_topE (zI_of _) kk)
theorem zI_clamp {e : Int} (h : 0 ≤ e) (h2 : e < 2147483648) : (zI e).toNatClampNeg = e.toNat := by
  rw [zI_nat h, nI_clamp (by omega)]
theorem zj_copy {idx a0 a n0 n1 : Nat} {sp dp n : Int} (hlink : Cond.methodLink μ.1.cls idx arraycopyName ∈ tables_1) (hd : decode μ.2.1 pc = .ok (.invokestatic idx, 3)) (ht0 : q_t σ a0 = (2, n0)) (h0 : 0 < a0 ∧ a0 ≤ q_n σ) (ht1 : q_t σ a = (2, n1)) (h1 : 0 < a ∧ a ≤ q_n σ)
    (hb5 : 0 ≤ sp ∧ 0 ≤ dp ∧ 0 ≤ n ∧ sp + n ≤ (n0 : Int) ∧ dp + n ≤ (n1 : Int)) (hn0 : n0 < 2147483648) (hn1 : n1 < 2147483648) (hdd : 1 ≤ d) (hwt : (st.map fun v => v.category).sum ≤ 8)
    (kk : J ω μ d mc ms cs sl (pc + 3) L st (zcp σ a0 sp.toNat a dp.toNat n.toNat) Q) : J ω μ d mc ms cs sl pc L (.int (zI n) :: .int (zI dp) :: .ref a :: .int (zI sp) :: .ref a0 :: st) σ Q := by
  obtain ⟨p1, p2, p3, p4, p5⟩ := hb5
  intro p l e R s m args below meth c H locs ls C hr hl hf T hT X
  have hat0 := hr.1 a0 h0
  unfold q_at at hat0
  rw [ht0] at hat0
  have hat1 := hr.1 a h1
  unfold q_at at hat1
  rw [ht1] at hat1
  obtain ⟨hx, hb, hml, hret, hlocks, hown, hname, hts, hexc, hfl, hroom, hK, hbl, -⟩ := id C
  have hc0 : H[q_ad ω a0]? = some (vp_cell (ω.2.2.1 2) (n0, .inl (q_i σ a0))) := hat0
  have hc1 : H[q_ad ω a]? = some (vp_cell (ω.2.2.1 2) (n1, .inl (q_i σ a))) := hat1
  obtain ⟨-, k0, hk0, cm0, hkk0⟩ := (hK.2 0 _ rfl).1 n0 (fun j => .int (q_i σ a0 j))
  obtain ⟨-, k1, hk1, cm1, hkk1⟩ := (hK.2 0 _ rfl).1 n1 (fun j => .int (q_i σ a j))
  have c1 : (zI sp).toNatClampNeg = sp.toNat := zI_clamp p1 (by omega)
  have c2 : (zI dp).toNatClampNeg = dp.toNat := zI_clamp p2 (by omega)
  have c3 : (zI n).toNatClampNeg = n.toNat := zI_clamp p3 (by omega)
  have i1 : (zI sp).toInt = sp := zI_toInt ⟨by omega, by omega⟩
  have i2 : (zI dp).toInt = dp := zI_toInt ⟨by omega, by omega⟩
  have i3 : (zI n).toInt = n := zI_toInt ⟨by omega, by omega⟩
  obtain ⟨vm', X', step⟩ := X.arraycopy hx hown (hts _ (q_in hlink)) (hts _ (q_in (List.mem_of_getElem? (i := 1040) (by decide +kernel)))) (hts _ (q_in (List.mem_of_getElem? (i := 1039) (by decide +kernel)))) (hts _ (q_in (List.mem_of_getElem? (i := 27) (by decide +kernel)))) (src := q_ad ω a0) (dst := q_ad ω a) (cs := vp_cell (ω.2.2.1 2) (n0, .inl (q_i σ a0))) (cd := vp_cell (ω.2.2.1 2) (n1, .inl (q_i σ a))) (srcPos := zI sp) (destPos := zI dp) (n := zI n) (by rw [hT]; exact hc0) (by rw [hT]; exact hc1)
    (fun _ h => by cases h) (fun _ h => by cases h) (fun h => by cases h) (fun h => by cases h) hk0 hk1 hkk0 hkk1 (by simp) (by rw [Int32.lt_iff_toInt_lt, i1]; show ¬ sp < 0; omega) (by rw [Int32.lt_iff_toInt_lt, i2]; show ¬ dp < 0; omega) (by rw [Int32.lt_iff_toInt_lt, i3]; show ¬ n < 0; omega)
    (by rw [i1, i3]; show ¬ _ > ((arrV (ω.2.2.1 2) n0 (fun j => .int (q_i σ a0 j))).slots.size : Int); rw [arrV_size]; omega)
    (by rw [i2, i3]; show ¬ _ > ((arrV (ω.2.2.1 2) n1 (fun j => .int (q_i σ a j))).slots.size : Int); rw [arrV_size]; omega)
    (fun vm₁ _ i hi => by
      have e : (vp_cell (ω.2.2.1 2) (n0, .inl (q_i σ a0))).slots.getD ((zI sp).toNatClampNeg + i) .null = .int (q_i σ a0 ((zI sp).toNatClampNeg + i)) := by
        show (arrV (ω.2.2.1 2) n0 (fun j => .int (q_i σ a0 j))).slots.getD _ _ = _
        rw [Array.getD_eq_getD_getElem?, arrV_read _ _ (by omega)]
        rfl
      refine ⟨?_, ?_⟩
      · rw [e]; rfl
      · rw [e]; exact trivial)
    (g := F0 m pc ls ((.int (zI n) :: .int (zI dp) :: .ref a :: .int (zI sp) :: .ref a0 :: st).map (q_cv ω))) rfl (by show ls.size = c.maxLocals; rw [hl.1, hml]) (rest := st.map (q_cv ω)) rfl (by rw [hb]; exact hd) (Nat.le_trans hdd hroom.1) (by
      have w1 : ((st.map (q_cv ω)).map fun v => v.category).sum ≤ 8 := by rw [List.map_map]; exact (show (st.map fun v => (q_cv ω v).category).sum ≤ 8 by simp only [q_cat]; exact hwt)
      have w2 := hroom.2.1
      show 2 * 0 + _ + (7 + 11) ≤ _
      omega)
  have e1 : copied (vp_cell (ω.2.2.1 2) (n0, .inl (q_i σ a0))) (vp_cell (ω.2.2.1 2) (n1, .inl (q_i σ a))) (zI sp) (zI dp) (zI n) = vp_cell (ω.2.2.1 2) (n1, .inl (va_cpy (q_i σ a0) (q_i σ a) (zI sp).toNatClampNeg (zI dp).toNatClampNeg (zI n).toNatClampNeg)) := va_copied (fun z => .int z) (ω.2.2.1 2) (ω.2.2.1 2) (q_i σ a0) (q_i σ a) (by rw [c1, c3]; omega)
  rw [e1, c1, c2, c3] at X' step
  have hlt : q_ad ω a < H.size := (Array.getElem?_eq_some_iff.mp hc1).1
  have hheap : ((T.setVm vm').setCell (q_ad ω a) (vp_cell (ω.2.2.1 2) (n1, .inl (va_cpy (q_i σ a0) (q_i σ a) sp.toNat dp.toNat n.toNat)))).heap = H.setIfInBounds (q_ad ω a) (vp_cell (ω.2.2.1 2) (n1, .inl (va_cpy (q_i σ a0) (q_i σ a) sp.toNat dp.toNat n.toNat))) := by rw [← hT]; rfl
  have oq : ∀ q : Nat, q ≠ q_ad ω a → (H.setIfInBounds (q_ad ω a) (vp_cell (ω.2.2.1 2) (n1, .inl (va_cpy (q_i σ a0) (q_i σ a) sp.toNat dp.toNat n.toNat))))[q]? = H[q]? := fun q hq => by simp [Array.getElem?_setIfInBounds, Ne.symm hq]
  obtain ⟨t, b1, b2⟩ := kk p l e R s m args below meth c _ _ ls C (q_arr_at (σ' := zcp σ a0 sp.toNat a dp.toNat n.toNat) (tg := 0) (n := 0) hbl hr h1 rfl rfl (fun j hj => ⟨q_row_n _ _ hj, rfl, rfl⟩) (by
      unfold q_at
      rw [show q_t (zcp σ a0 sp.toNat a dp.toNat n.toNat) a = (2, n1) from ht1]
      show (H.setIfInBounds (q_ad ω a) (vp_cell (ω.2.2.1 2) (n1, .inl (va_cpy (q_i σ a0) (q_i σ a) sp.toNat dp.toNat n.toNat))))[q_ad ω a]? = some (vp_cell _ (n1, .inl (q_row (q_i σ) a (va_cpy (q_i σ a0) (q_i σ a) sp.toNat dp.toNat n.toNat) a)))
      rw [q_row_s]
      simp [Array.getElem?_setIfInBounds, hlt]) (by simp) oq) hl (fun q hq => by
      rcases List.mem_append.mp hq with h | h
      · exact hf q h
      · obtain ⟨z, -, hz⟩ := List.mem_map.mp h
        rw [← hz]
        exact q_adlt hr h1) _ hheap X'
  exact ⟨t, step _ b1, b2⟩
end CopyJ
