set_option maxHeartbeats 4000000 in
set_option maxRecDepth 100000 in
/-- at the law's entry there is a picture of the old heap -/
theorem q_begin {p : Program} {s : State} {m : MethodId} {meth : Method} {c : Code} {b L : Nat} {xs : Nat → Int32} (C0 : lw_At p s m meth c b L xs) : ∃ ω : q_W, ω.1 + 1 = s.heap.size ∧ q_od ω 1000000 = b ∧ q_H0 ω = s.heap ∧ q_sL ω = L ∧ q_sx ω = xs ∧ q_tab ω s := by
  obtain ⟨hx, hb, hr, hml, hown, hts, hX, hbl, hlocks, hgv⟩ := C0
  have hs := flat_of_before _ hgv
  have ht : ∀ w ∈ tables_1, w.before #[Value.ref b] s = true := fun w h => hts w (List.mem_append_right _ h)
  have hA : ∀ a : Nat, a < s.heap.size → ¬ (fun q => s.heap.size - 1 < q) a := fun a h => by show ¬ s.heap.size - 1 < a; omega
  have hD : ∀ ci : Nat, ∃ q : ClassId × (Nat → Nat), ∀ r : vw_C, q_cls[ci]? = some r → u_Kn s r.1 r.2.1 r.2.2 q.1 q.2 := by
    intro ci
    cases h : q_cls[ci]? with
    | none => exact ⟨(0, id), fun r h => by cases h⟩
    | some r =>
      obtain ⟨C, T, N⟩ := r
      obtain ⟨cC, iS, hk⟩ := u_known (C := C) (T := T) (N := N) (n := N) hts (fun w hw => q_tb_of ((q_cls_ok ci C T N h).1 w hw)) (ht _ (q_inst _ (List.mem_of_getElem? h)))
      exact ⟨(cC, iS), fun r h9 => by cases h9; exact hk⟩
  obtain ⟨c2, k2, m2, f2, g2, h2⟩ := Cond.arrayClass_spec (ht (.arrayClass .int) (by decide +kernel))
  obtain ⟨c3, k3, m3, f3, g3, h3⟩ := Cond.arrayClass_spec (ht (.arrayClass .byte) (by decide +kernel))
  obtain ⟨c4, k4, m4, f4, g4, h4⟩ := Cond.arrayClass_spec (ht (.arrayClass .long) (by decide +kernel))
  have hXc : ∀ k : Nat, ∃ cX : ClassId, ∀ X, q_xn[k]? = some X → s.vm.findClass X = some cX := by
    intro k
    cases h : q_xn[k]? with
    | none => exact ⟨0, fun X h => by cases h⟩
    | some X =>
      obtain ⟨cX, kX, hf, -⟩ := Cond.instantiable_spec (ht _ (q_xinst X (List.mem_of_getElem? h)))
      exact ⟨cX, fun X' h9 => by cases h9; exact hf⟩
  obtain ⟨tS, zS, vS⟩ := q_arr1 (args := #[Value.ref b]) hA "ProofHall" "STRENGTH" [0, 1, 2, 3, 4, 5, 6, 6, 7, 7, 7, 7, 8, 8, 9, 9, 10, 10, 10, 11, 11, 11] (by decide) (ht _ (List.mem_of_getElem? (i := 911) (by decide +kernel))) (ht _ (List.mem_of_getElem? (i := 1) (by decide +kernel))) (hs _ qa_STRENGTH.1.1) (hs _ qa_STRENGTH.1.2) (fun j hj => hs _ (qa_STRENGTH.2 j hj))
  obtain ⟨tO, zO, vO⟩ := q_arr1 (args := #[Value.ref b]) hA "ProofHall" "OUTCOME" [0, 1, 1, 0, 0, 0, 1, 1, 1, 1, 1, 1, 2, 2, 0, 0, 0, 0, 0, 1, 0, 0, 3] (by decide) (ht _ (List.mem_of_getElem? (i := 925) (by decide +kernel))) (ht _ (List.mem_of_getElem? (i := 1) (by decide +kernel))) (hs _ qa_OUTCOME.1.1) (hs _ qa_OUTCOME.1.2) (fun j hj => hs _ (qa_OUTCOME.2 j hj))
  obtain ⟨tP, zP, vP⟩ := q_arr1 (args := #[Value.ref b]) hA "ProofHall" "PRICE" [0, 0, 0, 0, 0, 0, 0, 0, 0, 0, 0, 0, 1, 1, 0, 0, 2, 2, 2, 0, 0, 0, 0] (by decide) (ht _ (List.mem_of_getElem? (i := 927) (by decide +kernel))) (ht _ (List.mem_of_getElem? (i := 1) (by decide +kernel))) (hs _ qa_PRICE.1.1) (hs _ qa_PRICE.1.2) (fun j hj => hs _ (qa_PRICE.2 j hj))
  obtain ⟨q0, s0⟩ := q_str1 (args := #[Value.ref b]) hA "ProofHall$Scanner" "input" 26 [105, 110, 112, 117, 116] (by decide) (ht _ (List.mem_of_getElem? (i := 45) (by decide +kernel))) (hs _ qs_0.1.1) (hs _ qs_0.1.2.1) (hs _ qs_0.1.2.2.1) (hs _ qs_0.1.2.2.2) (fun j hj => hs _ (qs_0.2 j hj))
  obtain ⟨q1, s1⟩ := q_str1 (args := #[Value.ref b]) hA "ProofHall$Scanner" "var" 32 [118, 97, 114] (by decide) (ht _ (List.mem_of_getElem? (i := 98) (by decide +kernel))) (hs _ qs_1.1.1) (hs _ qs_1.1.2.1) (hs _ qs_1.1.2.2.1) (hs _ qs_1.1.2.2.2) (fun j hj => hs _ (qs_1.2 j hj))
  obtain ⟨q2, s2⟩ := q_str1 (args := #[Value.ref b]) hA "ProofHall$Scanner" "if" 34 [105, 102] (by decide) (ht _ (List.mem_of_getElem? (i := 99) (by decide +kernel))) (hs _ qs_2.1.1) (hs _ qs_2.1.2.1) (hs _ qs_2.1.2.2.1) (hs _ qs_2.1.2.2.2) (fun j hj => hs _ (qs_2.2 j hj))
  obtain ⟨q3, s3⟩ := q_str1 (args := #[Value.ref b]) hA "ProofHall$Scanner" "else" 36 [101, 108, 115, 101] (by decide) (ht _ (List.mem_of_getElem? (i := 100) (by decide +kernel))) (hs _ qs_3.1.1) (hs _ qs_3.1.2.1) (hs _ qs_3.1.2.2.1) (hs _ qs_3.1.2.2.2) (fun j hj => hs _ (qs_3.2 j hj))
  obtain ⟨q4, s4⟩ := q_str1 (args := #[Value.ref b]) hA "ProofHall$Scanner" "while" 38 [119, 104, 105, 108, 101] (by decide) (ht _ (List.mem_of_getElem? (i := 101) (by decide +kernel))) (hs _ qs_4.1.1) (hs _ qs_4.1.2.1) (hs _ qs_4.1.2.2.1) (hs _ qs_4.1.2.2.2) (fun j hj => hs _ (qs_4.2 j hj))
  obtain ⟨q5, s5⟩ := q_str1 (args := #[Value.ref b]) hA "ProofHall$Scanner" "assert" 40 [97, 115, 115, 101, 114, 116] (by decide) (ht _ (List.mem_of_getElem? (i := 102) (by decide +kernel))) (hs _ qs_5.1.1) (hs _ qs_5.1.2.1) (hs _ qs_5.1.2.2.1) (hs _ qs_5.1.2.2.2) (fun j hj => hs _ (qs_5.2 j hj))
  obtain ⟨q6, s6⟩ := q_str1 (args := #[Value.ref b]) hA "ProofHall$Scanner" "assume" 42 [97, 115, 115, 117, 109, 101] (by decide) (ht _ (List.mem_of_getElem? (i := 103) (by decide +kernel))) (hs _ qs_6.1.1) (hs _ qs_6.1.2.1) (hs _ qs_6.1.2.2.1) (hs _ qs_6.1.2.2.2) (fun j hj => hs _ (qs_6.2 j hj))
  obtain ⟨q7, s7⟩ := q_str1 (args := #[Value.ref b]) hA "ProofHallModel" "input" 168 [105, 110, 112, 117, 116] (by decide) (ht _ (List.mem_of_getElem? (i := 1776) (by decide +kernel))) (hs _ qs_7.1.1) (hs _ qs_7.1.2.1) (hs _ qs_7.1.2.2.1) (hs _ qs_7.1.2.2.2) (fun j hj => hs _ (qs_7.2 j hj))
  obtain ⟨q8, s8⟩ := q_str1 (args := #[Value.ref b]) hA "ProofHallModel" "var" 174 [118, 97, 114] (by decide) (ht _ (List.mem_of_getElem? (i := 1782) (by decide +kernel))) (hs _ qs_8.1.1) (hs _ qs_8.1.2.1) (hs _ qs_8.1.2.2.1) (hs _ qs_8.1.2.2.2) (fun j hj => hs _ (qs_8.2 j hj))
  obtain ⟨q9, s9⟩ := q_str1 (args := #[Value.ref b]) hA "ProofHallModel" "if" 176 [105, 102] (by decide) (ht _ (List.mem_of_getElem? (i := 1783) (by decide +kernel))) (hs _ qs_9.1.1) (hs _ qs_9.1.2.1) (hs _ qs_9.1.2.2.1) (hs _ qs_9.1.2.2.2) (fun j hj => hs _ (qs_9.2 j hj))
  obtain ⟨q10, s10⟩ := q_str1 (args := #[Value.ref b]) hA "ProofHallModel" "else" 178 [101, 108, 115, 101] (by decide) (ht _ (List.mem_of_getElem? (i := 1784) (by decide +kernel))) (hs _ qs_10.1.1) (hs _ qs_10.1.2.1) (hs _ qs_10.1.2.2.1) (hs _ qs_10.1.2.2.2) (fun j hj => hs _ (qs_10.2 j hj))
  obtain ⟨q11, s11⟩ := q_str1 (args := #[Value.ref b]) hA "ProofHallModel" "while" 180 [119, 104, 105, 108, 101] (by decide) (ht _ (List.mem_of_getElem? (i := 1785) (by decide +kernel))) (hs _ qs_11.1.1) (hs _ qs_11.1.2.1) (hs _ qs_11.1.2.2.1) (hs _ qs_11.1.2.2.2) (fun j hj => hs _ (qs_11.2 j hj))
  obtain ⟨q12, s12⟩ := q_str1 (args := #[Value.ref b]) hA "ProofHallModel" "assert" 182 [97, 115, 115, 101, 114, 116] (by decide) (ht _ (List.mem_of_getElem? (i := 1786) (by decide +kernel))) (hs _ qs_12.1.1) (hs _ qs_12.1.2.1) (hs _ qs_12.1.2.2.1) (hs _ qs_12.1.2.2.2) (fun j hj => hs _ (qs_12.2 j hj))
  obtain ⟨q13, s13⟩ := q_str1 (args := #[Value.ref b]) hA "ProofHallModel" "assume" 184 [97, 115, 115, 117, 109, 101] (by decide) (ht _ (List.mem_of_getElem? (i := 1787) (by decide +kernel))) (hs _ qs_13.1.1) (hs _ qs_13.1.2.1) (hs _ qs_13.1.2.2.1) (hs _ qs_13.1.2.2.2) (fun j hj => hs _ (qs_13.2 j hj))
  obtain ⟨q14, s14⟩ := q_str1 (args := #[Value.ref b]) hA "ProofHallModel" ";:(){}=?!~+-*/%&|^<>" 213 [59, 58, 40, 41, 123, 125, 61, 63, 33, 126, 43, 45, 42, 47, 37, 38, 124, 94, 60, 62] (by decide) (ht _ (List.mem_of_getElem? (i := 1795) (by decide +kernel))) (hs _ qs_14.1.1) (hs _ qs_14.1.2.1) (hs _ qs_14.1.2.2.1) (hs _ qs_14.1.2.2.2) (fun j hj => hs _ (qs_14.2 j hj))
  have zC : va_Z "java/lang/String" "COMPACT_STRINGS" "Z" (.int 1) (fun q => s.heap.size - 1 < q) s s.heap := va_Zof (ht _ (List.mem_of_getElem? (i := 58) (by decide +kernel))) (ht _ (List.mem_of_getElem? (i := 3) (by decide +kernel))) (va_eqi (hs _ (by decide +kernel))) hA
  obtain ⟨rU1, rU2, rU3, rU4, rU5, rU6, rU7, wU1, wU2, wU3, wU4, wU5, wU6, wU7, wU8, wU9, wU0⟩ := q_ref1 (args := #[Value.ref b]) (C := "java/lang/Throwable") (n := "UNASSIGNED_STACK") (d := "[Ljava/lang/StackTraceElement;") (ht _ (List.mem_of_getElem? (i := 701) (by decide +kernel))) (hs _ (by decide +kernel))
  obtain ⟨rN1, rN2, rN3, rN4, rN5, rN6, rN7, wN1, wN2, wN3, wN4, wN5, wN6, wN7, wN8, wN9, wN0⟩ := q_ref1 (args := #[Value.ref b]) (C := "java/lang/Throwable") (n := "SUPPRESSED_SENTINEL") (d := "Ljava/util/List;") (ht _ (List.mem_of_getElem? (i := 703) (by decide +kernel))) (hs _ (by decide +kernel))
  obtain ⟨fF, vF, hF, hFv⟩ : ∃ (fF : Nat) (v : Value), va_Z "jdk/internal/util/Preconditions" "SIOOBE_FORMATTER" "Ljava/util/function/BiFunction;" v (fun q => s.heap.size - 1 < q) s s.heap ∧ (v = .null ∨ v = .ref fF) := by
    rcases va_Zqof (ht _ (List.mem_of_getElem? (i := 75) (by decide +kernel))) (ht _ (List.mem_of_getElem? (i := 5) (by decide +kernel))) (hs (.isRef (.static "jdk/internal/util/Preconditions" "SIOOBE_FORMATTER" "Ljava/util/function/BiFunction;")) (by decide +kernel)) hA with h | ⟨t, h⟩
    · exact ⟨0, _, h, Or.inl rfl⟩
    · exact ⟨t, _, h, Or.inr rfl⟩
  refine ⟨(s.heap.size - 1, (fun ci => (Classical.choose (hD ci)).1, fun ci => (Classical.choose (hD ci)).2), (fun k => if k = 2 then c2 else if k = 3 then c3 else c4), (fun k => if k = 1000000 then b else if k = 1000001 then tS else if k = 1000002 then tO else if k = 1000003 then tP else if k = 1000004 then fF else if k < 1000100 then (([q0, q1, q2, q3, q4, q5, q6, q7, q8, q9, q10, q11, q12, q13, q14] : List (Nat × Nat)).getD (k - 1000010) (0, 0)).1 else (([q0, q1, q2, q3, q4, q5, q6, q7, q8, q9, q10, q11, q12, q13, q14] : List (Nat × Nat)).getD (k - 1000100) (0, 0)).2), (fun k => Classical.choose (hXc k)), s.heap, L, xs), ?_, rfl, rfl, rfl, rfl, ⟨fun ci r h => Classical.choose_spec (hD ci) r h, ?_⟩, trivial, fun q _ => rfl, ?_, ?_, fun k X hk => Classical.choose_spec (hXc k) X hk, ?_, ?_, ⟨vF, hF, hFv⟩, ?_, ?_, ?_⟩
  · show s.heap.size - 1 + 1 = s.heap.size; omega
  · intro k q hk
    match k, hk with
    | 0, hk => cases hk; exact ⟨fun n z => ⟨fun k h => (by cases h), k2, g2, m2, h2⟩, f2⟩
    | 1, hk => cases hk; exact ⟨fun n z => ⟨fun k h => (by cases h), k3, g3, m3, h3⟩, f3⟩
    | 2, hk => cases hk; exact ⟨fun n z => ⟨fun k h => (by cases h), k4, g4, m4, h4⟩, f4⟩
    | k + 3, hk => simp at hk
  · exact ⟨rU1, rU2, rU3, rU4, rU5, rU6, rU7, wU1, wU2, wU3, wU4, wU5, wU6, wU7, wU8, wU9, (by have := (Array.getElem?_eq_some_iff.mp wU5).1; show rU5 ≤ s.heap.size - 1; omega), wU0⟩
  · exact ⟨rN1, rN2, rN3, rN4, rN5, rN6, rN7, wN1, wN2, wN3, wN4, wN5, wN6, wN7, wN8, wN9, (by have := (Array.getElem?_eq_some_iff.mp wN5).1; show rN5 ≤ s.heap.size - 1; omega), wN0⟩
  · exact q_ncast (X := "java/util/NoSuchElementException") (Y := "java/lang/IllegalStateException") (hs _ (by decide +kernel)) (Classical.choose_spec (hXc 3) _ rfl) (Classical.choose_spec (hXc 2) _ rfl)
  · intro e he
    simp only [q_stas, List.mem_cons, List.not_mem_nil, or_false] at he
    rcases he with rfl | rfl | rfl | rfl
    · exact zS
    · exact zO
    · exact zP
    · exact zC
  · intro e he
    simp only [q_olds, List.mem_cons, List.not_mem_nil, or_false] at he
    rcases he with rfl | rfl | rfl | rfl | rfl | rfl | rfl | rfl | rfl | rfl | rfl | rfl | rfl | rfl | rfl | rfl | rfl | rfl
    · exact vS
    · exact vO
    · exact vP
    · exact s0.2.2.2.2
    · exact s1.2.2.2.2
    · exact s2.2.2.2.2
    · exact s3.2.2.2.2
    · exact s4.2.2.2.2
    · exact s5.2.2.2.2
    · exact s6.2.2.2.2
    · exact s7.2.2.2.2
    · exact s8.2.2.2.2
    · exact s9.2.2.2.2
    · exact s10.2.2.2.2
    · exact s11.2.2.2.2
    · exact s12.2.2.2.2
    · exact s13.2.2.2.2
    · exact s14.2.2.2.2
  · intro i e he
    match i, he with
    | 0, he => cases he; exact ⟨s0.1, s0.2.1, s0.2.2.1, s0.2.2.2.1⟩
    | 1, he => cases he; exact ⟨s1.1, s1.2.1, s1.2.2.1, s1.2.2.2.1⟩
    | 2, he => cases he; exact ⟨s2.1, s2.2.1, s2.2.2.1, s2.2.2.2.1⟩
    | 3, he => cases he; exact ⟨s3.1, s3.2.1, s3.2.2.1, s3.2.2.2.1⟩
    | 4, he => cases he; exact ⟨s4.1, s4.2.1, s4.2.2.1, s4.2.2.2.1⟩
    | 5, he => cases he; exact ⟨s5.1, s5.2.1, s5.2.2.1, s5.2.2.2.1⟩
    | 6, he => cases he; exact ⟨s6.1, s6.2.1, s6.2.2.1, s6.2.2.2.1⟩
    | 7, he => cases he; exact ⟨s7.1, s7.2.1, s7.2.2.1, s7.2.2.2.1⟩
    | 8, he => cases he; exact ⟨s8.1, s8.2.1, s8.2.2.1, s8.2.2.2.1⟩
    | 9, he => cases he; exact ⟨s9.1, s9.2.1, s9.2.2.1, s9.2.2.2.1⟩
    | 10, he => cases he; exact ⟨s10.1, s10.2.1, s10.2.2.1, s10.2.2.2.1⟩
    | 11, he => cases he; exact ⟨s11.1, s11.2.1, s11.2.2.1, s11.2.2.2.1⟩
    | 12, he => cases he; exact ⟨s12.1, s12.2.1, s12.2.2.1, s12.2.2.2.1⟩
    | 13, he => cases he; exact ⟨s13.1, s13.2.1, s13.2.2.1, s13.2.2.2.1⟩
    | 14, he => cases he; exact ⟨s14.1, s14.2.1, s14.2.2.1, s14.2.2.2.1⟩
    | i + 15, he => simp [q_strs] at he
  · obtain ⟨scr, x1, x2, x3, x4, x5⟩ := hX
    exact ⟨scr, x1, x2, x3, Nat.le_of_eq x4.symm, by rw [x4], x5, hA b hbl⟩
