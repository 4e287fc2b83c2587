/-- a method: its name, code, locals, what it returns, its handlers -/
abbrev q_M : Type := MethodName × ByteArray × Nat × Option FieldType × List (Nat × Nat × Nat × Nat)
/-- a field's sort: 0 a number of one word, 1 a long, 2 a reference -/
def q_k (d : String) : Nat := if d = "I" ∨ d = "Z" then 0 else if d = "J" then 1 else 2
def q_dv (d : String) : Value := match q_k d with
  | 0 => .int 0
  | 1 => .long 0
  | _ => .null
def q_rt : FieldType → Bool
  | .object _ => true
  | .array _ => true
  | _ => false
/-- ProofHall -/
def T_H : u_T := fun k => match k with
  | 0 => ("ProofHall", "scanner", "LProofHall$Scanner;", true)
  | 1 => ("ProofHall", "parser", "LProofHall$Parser;", true)
  | 2 => ("ProofHall", "program", "LProofHall$Program;", false)
  | 3 => ("ProofHall", "draft", "LProofHall$Program;", false)
  | 4 => ("ProofHall", "built", "Z", false)
  | 5 => ("ProofHall", "fault", "I", false)
  | 6 => ("ProofHall", "where", "I", false)
  | 7 => ("ProofHall", "inputs", "[I", true)
  | 8 => ("ProofHall", "latest", "LProofHall$Machine;", true)
  | _ => ("ProofHall", "inquiry", "LProofHall$Inquiry;", true)
def t_H : Nat → FieldType := fun k => (parseFieldDescriptor (T_H k).2.2.1).getD .int
/-- ProofHall$Scanner -/
def T_Sc : u_T := fun k => match k with
  | 0 => ("ProofHall$Scanner", "text", "[B", true)
  | 1 => ("ProofHall$Scanner", "words", "[J", true)
  | 2 => ("ProofHall$Scanner", "length", "I", false)
  | 3 => ("ProofHall$Scanner", "at", "I", false)
  | 4 => ("ProofHall$Scanner", "tokens", "I", false)
  | 5 => ("ProofHall$Scanner", "kinds", "[I", true)
  | 6 => ("ProofHall$Scanner", "starts", "[I", true)
  | 7 => ("ProofHall$Scanner", "contents", "[J", true)
  | _ => ("ProofHall$Scanner", "current", "I", false)
def t_Sc : Nat → FieldType := fun k => (parseFieldDescriptor (T_Sc k).2.2.1).getD .int
/-- ProofHall$Program -/
def T_Pr : u_T := fun k => match k with
  | 0 => ("ProofHall$Program", "inputs", "I", false)
  | 1 => ("ProofHall$Program", "inputBits", "I", false)
  | 2 => ("ProofHall$Program", "inputWidths", "[I", true)
  | 3 => ("ProofHall$Program", "inputNames", "[J", true)
  | 4 => ("ProofHall$Program", "variables", "I", false)
  | 5 => ("ProofHall$Program", "variableWidths", "[I", true)
  | 6 => ("ProofHall$Program", "variableNames", "[J", true)
  | 7 => ("ProofHall$Program", "assertions", "I", false)
  | 8 => ("ProofHall$Program", "work", "I", false)
  | 9 => ("ProofHall$Program", "fault", "I", false)
  | 10 => ("ProofHall$Program", "where", "I", false)
  | 11 => ("ProofHall$Program", "steps", "I", false)
  | 12 => ("ProofHall$Program", "action", "[I", true)
  | 13 => ("ProofHall$Program", "which", "[I", true)
  | 14 => ("ProofHall$Program", "from", "[I", true)
  | 15 => ("ProofHall$Program", "till", "[I", true)
  | 16 => ("ProofHall$Program", "goal", "[I", true)
  | 17 => ("ProofHall$Program", "items", "I", false)
  | 18 => ("ProofHall$Program", "operation", "[I", true)
  | 19 => ("ProofHall$Program", "operand", "[I", true)
  | _ => ("ProofHall$Program", "width", "[I", true)
def t_Pr : Nat → FieldType := fun k => (parseFieldDescriptor (T_Pr k).2.2.1).getD .int
/-- ProofHall$Parser -/
def T_Pa : u_T := fun k => match k with
  | 0 => ("ProofHall$Parser", "scanner", "LProofHall$Scanner;", false)
  | 1 => ("ProofHall$Parser", "program", "LProofHall$Program;", false)
  | 2 => ("ProofHall$Parser", "kinds", "[I", true)
  | 3 => ("ProofHall$Parser", "turns", "[I", true)
  | 4 => ("ProofHall$Parser", "rounds", "[I", true)
  | 5 => ("ProofHall$Parser", "tests", "[I", true)
  | 6 => ("ProofHall$Parser", "insides", "[I", true)
  | 7 => ("ProofHall$Parser", "height", "I", false)
  | 8 => ("ProofHall$Parser", "openLoops", "I", false)
  | 9 => ("ProofHall$Parser", "signs", "[I", true)
  | 10 => ("ProofHall$Parser", "signTop", "I", false)
  | 11 => ("ProofHall$Parser", "widths", "[I", true)
  | 12 => ("ProofHall$Parser", "widthTop", "I", false)
  | 13 => ("ProofHall$Parser", "depth", "I", false)
  | _ => ("ProofHall$Parser", "work", "I", false)
def t_Pa : Nat → FieldType := fun k => (parseFieldDescriptor (T_Pa k).2.2.1).getD .int
/-- ProofHall$Machine -/
def T_Ma : u_T := fun k => match k with
  | 0 => ("ProofHall$Machine", "outcome", "I", false)
  | 1 => ("ProofHall$Machine", "failedAt", "I", false)
  | 2 => ("ProofHall$Machine", "variables", "[I", true)
  | 3 => ("ProofHall$Machine", "rounds", "[I", true)
  | 4 => ("ProofHall$Machine", "stack", "[I", true)
  | 5 => ("ProofHall$Machine", "program", "LProofHall$Program;", false)
  | _ => ("ProofHall$Machine", "inputs", "[I", false)
def t_Ma : Nat → FieldType := fun k => (parseFieldDescriptor (T_Ma k).2.2.1).getD .int
/-- ProofHall$Circuit -/
def T_Ci : u_T := fun k => match k with
  | 0 => ("ProofHall$Circuit", "kind", "[I", true)
  | 1 => ("ProofHall$Circuit", "first", "[I", true)
  | 2 => ("ProofHall$Circuit", "second", "[I", true)
  | 3 => ("ProofHall$Circuit", "third", "[I", true)
  | 4 => ("ProofHall$Circuit", "place", "[I", true)
  | 5 => ("ProofHall$Circuit", "chain", "[I", true)
  | 6 => ("ProofHall$Circuit", "bucket", "[I", true)
  | 7 => ("ProofHall$Circuit", "size", "I", false)
  | _ => ("ProofHall$Circuit", "lost", "I", false)
def t_Ci : Nat → FieldType := fun k => (parseFieldDescriptor (T_Ci k).2.2.1).getD .int
/-- ProofHall$Words -/
def T_Wo : u_T := fun k => match k with
  | 0 => ("ProofHall$Words", "circuit", "LProofHall$Circuit;", true)
  | 1 => ("ProofHall$Words", "bits", "[I", true)
  | 2 => ("ProofHall$Words", "scratch", "[I", true)
  | _ => ("ProofHall$Words", "lessened", "[I", true)
def t_Wo : Nat → FieldType := fun k => (parseFieldDescriptor (T_Wo k).2.2.1).getD .int
/-- ProofHall$Encoder -/
def T_En : u_T := fun k => match k with
  | 0 => ("ProofHall$Encoder", "words", "LProofHall$Words;", true)
  | 1 => ("ProofHall$Encoder", "program", "LProofHall$Program;", false)
  | 2 => ("ProofHall$Encoder", "inputs", "[I", true)
  | 3 => ("ProofHall$Encoder", "state", "[I", true)
  | 4 => ("ProofHall$Encoder", "guard", "I", false)
  | 5 => ("ProofHall$Encoder", "failures", "[I", true)
  | 6 => ("ProofHall$Encoder", "anyFailure", "I", false)
  | 7 => ("ProofHall$Encoder", "size", "I", false)
  | 8 => ("ProofHall$Encoder", "otherState", "[I", true)
  | 9 => ("ProofHall$Encoder", "otherGuard", "[I", true)
  | 10 => ("ProofHall$Encoder", "guardBefore", "[I", true)
  | 11 => ("ProofHall$Encoder", "tests", "[I", true)
  | 12 => ("ProofHall$Encoder", "frames", "I", false)
  | 13 => ("ProofHall$Encoder", "rounds", "[I", true)
  | 14 => ("ProofHall$Encoder", "denied", "[I", true)
  | _ => ("ProofHall$Encoder", "deniedCount", "I", false)
def t_En : Nat → FieldType := fun k => (parseFieldDescriptor (T_En k).2.2.1).getD .int
/-- ProofHall$Inquiry -/
def T_In : u_T := fun k => match k with
  | 0 => ("ProofHall$Inquiry", "encoder", "LProofHall$Encoder;", true)
  | 1 => ("ProofHall$Inquiry", "solver", "LProofHall$Solver;", true)
  | 2 => ("ProofHall$Inquiry", "program", "LProofHall$Program;", false)
  | 3 => ("ProofHall$Inquiry", "trial", "LProofHall$Machine;", true)
  | 4 => ("ProofHall$Inquiry", "witness", "[I", true)
  | 5 => ("ProofHall$Inquiry", "found", "Z", false)
  | 6 => ("ProofHall$Inquiry", "roots", "[I", true)
  | 7 => ("ProofHall$Inquiry", "rootCount", "I", false)
  | 8 => ("ProofHall$Inquiry", "demands", "I", false)
  | 9 => ("ProofHall$Inquiry", "row", "[I", true)
  | _ => ("ProofHall$Inquiry", "wrong", "I", false)
def t_In : Nat → FieldType := fun k => (parseFieldDescriptor (T_In k).2.2.1).getD .int
/-- ProofHall$Clauses -/
def T_Cl : u_T := fun k => match k with
  | 0 => ("ProofHall$Clauses", "memory", "[I", true)
  | 1 => ("ProofHall$Clauses", "watchers", "[I", true)
  | 2 => ("ProofHall$Clauses", "marked", "[I", true)
  | 3 => ("ProofHall$Clauses", "top", "I", false)
  | _ => ("ProofHall$Clauses", "lost", "I", false)
def t_Cl : Nat → FieldType := fun k => (parseFieldDescriptor (T_Cl k).2.2.1).getD .int
/-- ProofHall$Checker -/
def T_Ch : u_T := fun k => match k with
  | 0 => ("ProofHall$Checker", "proved", "[I", true)
  | 1 => ("ProofHall$Checker", "supposed", "[I", true)
  | 2 => ("ProofHall$Checker", "step", "I", false)
  | _ => ("ProofHall$Checker", "wrong", "I", false)
def t_Ch : Nat → FieldType := fun k => (parseFieldDescriptor (T_Ch k).2.2.1).getD .int
/-- ProofHall$Solver -/
def T_So : u_T := fun k => match k with
  | 0 => ("ProofHall$Solver", "clauses", "LProofHall$Clauses;", true)
  | 1 => ("ProofHall$Solver", "checker", "LProofHall$Checker;", true)
  | 2 => ("ProofHall$Solver", "values", "[I", true)
  | 3 => ("ProofHall$Solver", "levels", "[I", true)
  | 4 => ("ProofHall$Solver", "reasons", "[I", true)
  | 5 => ("ProofHall$Solver", "trail", "[I", true)
  | 6 => ("ProofHall$Solver", "trailSize", "I", false)
  | 7 => ("ProofHall$Solver", "done", "I", false)
  | 8 => ("ProofHall$Solver", "noted", "I", false)
  | 9 => ("ProofHall$Solver", "starts", "[I", true)
  | 10 => ("ProofHall$Solver", "level", "I", false)
  | 11 => ("ProofHall$Solver", "wishes", "[I", true)
  | 12 => ("ProofHall$Solver", "wishCount", "I", false)
  | 13 => ("ProofHall$Solver", "clash", "I", false)
  | 14 => ("ProofHall$Solver", "seen", "[I", true)
  | 15 => ("ProofHall$Solver", "learned", "[I", true)
  | 16 => ("ProofHall$Solver", "learnedSize", "I", false)
  | 17 => ("ProofHall$Solver", "hints", "[I", true)
  | _ => ("ProofHall$Solver", "hintCount", "I", false)
def t_So : Nat → FieldType := fun k => (parseFieldDescriptor (T_So k).2.2.1).getD .int
/-- ProofHallModel -/
def T_M : u_T := fun k => match k with
  | 0 => ("ProofHallModel", "thrown", "I", false)
  | 1 => ("ProofHallModel", "text", "[B", true)
  | 2 => ("ProofHallModel", "size", "I", false)
  | 3 => ("ProofHallModel", "tokKind", "[I", true)
  | 4 => ("ProofHallModel", "tokAt", "[I", true)
  | 5 => ("ProofHallModel", "tokValue", "[I", true)
  | 6 => ("ProofHallModel", "tokName", "[J", true)
  | 7 => ("ProofHallModel", "tokens", "I", false)
  | 8 => ("ProofHallModel", "t", "I", false)
  | 9 => ("ProofHallModel", "depth", "I", false)
  | 10 => ("ProofHallModel", "wrongAt", "I", false)
  | 11 => ("ProofHallModel", "wrong", "Ljava/lang/ArithmeticException;", true)
  | 12 => ("ProofHallModel", "name", "[J", true)
  | 13 => ("ProofHallModel", "newName", "[J", true)
  | 14 => ("ProofHallModel", "isInput", "[I", true)
  | 15 => ("ProofHallModel", "index", "[I", true)
  | 16 => ("ProofHallModel", "width", "[I", true)
  | 17 => ("ProofHallModel", "names", "I", false)
  | 18 => ("ProofHallModel", "newInputs", "I", false)
  | 19 => ("ProofHallModel", "newVars", "I", false)
  | 20 => ("ProofHallModel", "newBits", "I", false)
  | 21 => ("ProofHallModel", "newAsserts", "I", false)
  | 22 => ("ProofHallModel", "inputWidth", "[I", true)
  | 23 => ("ProofHallModel", "varWidth", "[I", true)
  | 24 => ("ProofHallModel", "newInputWidth", "[I", true)
  | 25 => ("ProofHallModel", "newVarWidth", "[I", true)
  | 26 => ("ProofHallModel", "inputs", "I", false)
  | 27 => ("ProofHallModel", "vars", "I", false)
  | 28 => ("ProofHallModel", "asserts", "I", false)
  | 29 => ("ProofHallModel", "bits", "I", false)
  | 30 => ("ProofHallModel", "work", "I", false)
  | 31 => ("ProofHallModel", "built", "Z", false)
  | 32 => ("ProofHallModel", "sort", "[I", false)
  | 33 => ("ProofHallModel", "a", "[I", false)
  | 34 => ("ProofHallModel", "b", "[I", false)
  | 35 => ("ProofHallModel", "c", "[I", false)
  | 36 => ("ProofHallModel", "next", "[I", false)
  | 37 => ("ProofHallModel", "wide", "[I", false)
  | 38 => ("ProofHallModel", "oSort", "[I", false)
  | 39 => ("ProofHallModel", "oA", "[I", false)
  | 40 => ("ProofHallModel", "oB", "[I", false)
  | 41 => ("ProofHallModel", "oC", "[I", false)
  | 42 => ("ProofHallModel", "oNext", "[I", false)
  | 43 => ("ProofHallModel", "oWide", "[I", false)
  | 44 => ("ProofHallModel", "nodes", "I", false)
  | 45 => ("ProofHallModel", "root", "I", false)
  | 46 => ("ProofHallModel", "fault", "I", false)
  | 47 => ("ProofHallModel", "where", "I", false)
  | 48 => ("ProofHallModel", "foundFault", "I", false)
  | 49 => ("ProofHallModel", "foundAt", "I", false)
  | 50 => ("ProofHallModel", "latestFault", "I", false)
  | 51 => ("ProofHallModel", "latestWhere", "I", false)
  | 52 => ("ProofHallModel", "outcome", "[B", true)
  | 53 => ("ProofHallModel", "failedAt", "[B", true)
  | 54 => ("ProofHallModel", "left", "[B", true)
  | 55 => ("ProofHallModel", "all", "Z", false)
  | 56 => ("ProofHallModel", "in", "[I", true)
  | 57 => ("ProofHallModel", "now", "[I", true)
  | 58 => ("ProofHallModel", "inOf", "[I", true)
  | 59 => ("ProofHallModel", "valueOf", "[I", true)
  | 60 => ("ProofHallModel", "lastValue", "[I", true)
  | 61 => ("ProofHallModel", "failing", "I", false)
  | 62 => ("ProofHallModel", "witness", "I", false)
  | 63 => ("ProofHallModel", "lastFailed", "I", false)
  | 64 => ("ProofHallModel", "spine", "[I", true)
  | 65 => ("ProofHallModel", "spined", "I", false)
  | _ => ("ProofHallModel", "fails", "[I", true)
def t_M : Nat → FieldType := fun k => (parseFieldDescriptor (T_M k).2.2.1).getD .int
def q_cls : List vw_C := [("ProofHall", T_H, 10), ("ProofHall$Scanner", T_Sc, 9), ("ProofHall$Program", T_Pr, 21), ("ProofHall$Parser", T_Pa, 15), ("ProofHall$Machine", T_Ma, 7), ("ProofHall$Circuit", T_Ci, 9), ("ProofHall$Words", T_Wo, 4), ("ProofHall$Encoder", T_En, 16), ("ProofHall$Inquiry", T_In, 11), ("ProofHall$Clauses", T_Cl, 5), ("ProofHall$Checker", T_Ch, 4), ("ProofHall$Solver", T_So, 19), ("ProofHallModel", T_M, 67)]
theorem in_H : ∀ w ∈ u_ws "ProofHall" T_H 10, w ∈ tables_1 := by decide +kernel
theorem ty_H : ∀ k, k < 10 → parseFieldDescriptor (T_H k).2.2.1 = some (t_H k) := by decide +kernel
theorem df_H : ∀ k, k < 10 → defaultValue (t_H k) = q_dv (T_H k).2.2.1 ∧ (q_k (T_H k).2.2.1 = 2 → q_rt (t_H k) = true) := by decide +kernel
theorem nm_H : ∀ a, a < 10 → ∀ b, b < 10 → a ≠ b → (T_H a).2.1 ≠ (T_H b).2.1 := by decide +kernel
theorem in_Sc : ∀ w ∈ u_ws "ProofHall$Scanner" T_Sc 9, w ∈ tables_1 := by decide +kernel
theorem ty_Sc : ∀ k, k < 9 → parseFieldDescriptor (T_Sc k).2.2.1 = some (t_Sc k) := by decide +kernel
theorem df_Sc : ∀ k, k < 9 → defaultValue (t_Sc k) = q_dv (T_Sc k).2.2.1 ∧ (q_k (T_Sc k).2.2.1 = 2 → q_rt (t_Sc k) = true) := by decide +kernel
theorem nm_Sc : ∀ a, a < 9 → ∀ b, b < 9 → a ≠ b → (T_Sc a).2.1 ≠ (T_Sc b).2.1 := by decide +kernel
theorem in_Pr : ∀ w ∈ u_ws "ProofHall$Program" T_Pr 21, w ∈ tables_1 := by decide +kernel
theorem ty_Pr : ∀ k, k < 21 → parseFieldDescriptor (T_Pr k).2.2.1 = some (t_Pr k) := by decide +kernel
theorem df_Pr : ∀ k, k < 21 → defaultValue (t_Pr k) = q_dv (T_Pr k).2.2.1 ∧ (q_k (T_Pr k).2.2.1 = 2 → q_rt (t_Pr k) = true) := by decide +kernel
theorem nm_Pr : ∀ a, a < 21 → ∀ b, b < 21 → a ≠ b → (T_Pr a).2.1 ≠ (T_Pr b).2.1 := by decide +kernel
theorem in_Pa : ∀ w ∈ u_ws "ProofHall$Parser" T_Pa 15, w ∈ tables_1 := by decide +kernel
theorem ty_Pa : ∀ k, k < 15 → parseFieldDescriptor (T_Pa k).2.2.1 = some (t_Pa k) := by decide +kernel
theorem df_Pa : ∀ k, k < 15 → defaultValue (t_Pa k) = q_dv (T_Pa k).2.2.1 ∧ (q_k (T_Pa k).2.2.1 = 2 → q_rt (t_Pa k) = true) := by decide +kernel
theorem nm_Pa : ∀ a, a < 15 → ∀ b, b < 15 → a ≠ b → (T_Pa a).2.1 ≠ (T_Pa b).2.1 := by decide +kernel
theorem in_Ma : ∀ w ∈ u_ws "ProofHall$Machine" T_Ma 7, w ∈ tables_1 := by decide +kernel
theorem ty_Ma : ∀ k, k < 7 → parseFieldDescriptor (T_Ma k).2.2.1 = some (t_Ma k) := by decide +kernel
theorem df_Ma : ∀ k, k < 7 → defaultValue (t_Ma k) = q_dv (T_Ma k).2.2.1 ∧ (q_k (T_Ma k).2.2.1 = 2 → q_rt (t_Ma k) = true) := by decide +kernel
theorem nm_Ma : ∀ a, a < 7 → ∀ b, b < 7 → a ≠ b → (T_Ma a).2.1 ≠ (T_Ma b).2.1 := by decide +kernel
theorem in_Ci : ∀ w ∈ u_ws "ProofHall$Circuit" T_Ci 9, w ∈ tables_1 := by decide +kernel
theorem ty_Ci : ∀ k, k < 9 → parseFieldDescriptor (T_Ci k).2.2.1 = some (t_Ci k) := by decide +kernel
theorem df_Ci : ∀ k, k < 9 → defaultValue (t_Ci k) = q_dv (T_Ci k).2.2.1 ∧ (q_k (T_Ci k).2.2.1 = 2 → q_rt (t_Ci k) = true) := by decide +kernel
theorem nm_Ci : ∀ a, a < 9 → ∀ b, b < 9 → a ≠ b → (T_Ci a).2.1 ≠ (T_Ci b).2.1 := by decide +kernel
theorem in_Wo : ∀ w ∈ u_ws "ProofHall$Words" T_Wo 4, w ∈ tables_1 := by decide +kernel
theorem ty_Wo : ∀ k, k < 4 → parseFieldDescriptor (T_Wo k).2.2.1 = some (t_Wo k) := by decide +kernel
theorem df_Wo : ∀ k, k < 4 → defaultValue (t_Wo k) = q_dv (T_Wo k).2.2.1 ∧ (q_k (T_Wo k).2.2.1 = 2 → q_rt (t_Wo k) = true) := by decide +kernel
theorem nm_Wo : ∀ a, a < 4 → ∀ b, b < 4 → a ≠ b → (T_Wo a).2.1 ≠ (T_Wo b).2.1 := by decide +kernel
theorem in_En : ∀ w ∈ u_ws "ProofHall$Encoder" T_En 16, w ∈ tables_1 := by decide +kernel
theorem ty_En : ∀ k, k < 16 → parseFieldDescriptor (T_En k).2.2.1 = some (t_En k) := by decide +kernel
theorem df_En : ∀ k, k < 16 → defaultValue (t_En k) = q_dv (T_En k).2.2.1 ∧ (q_k (T_En k).2.2.1 = 2 → q_rt (t_En k) = true) := by decide +kernel
theorem nm_En : ∀ a, a < 16 → ∀ b, b < 16 → a ≠ b → (T_En a).2.1 ≠ (T_En b).2.1 := by decide +kernel
theorem in_In : ∀ w ∈ u_ws "ProofHall$Inquiry" T_In 11, w ∈ tables_1 := by decide +kernel
theorem ty_In : ∀ k, k < 11 → parseFieldDescriptor (T_In k).2.2.1 = some (t_In k) := by decide +kernel
theorem df_In : ∀ k, k < 11 → defaultValue (t_In k) = q_dv (T_In k).2.2.1 ∧ (q_k (T_In k).2.2.1 = 2 → q_rt (t_In k) = true) := by decide +kernel
theorem nm_In : ∀ a, a < 11 → ∀ b, b < 11 → a ≠ b → (T_In a).2.1 ≠ (T_In b).2.1 := by decide +kernel
theorem in_Cl : ∀ w ∈ u_ws "ProofHall$Clauses" T_Cl 5, w ∈ tables_1 := by decide +kernel
theorem ty_Cl : ∀ k, k < 5 → parseFieldDescriptor (T_Cl k).2.2.1 = some (t_Cl k) := by decide +kernel
theorem df_Cl : ∀ k, k < 5 → defaultValue (t_Cl k) = q_dv (T_Cl k).2.2.1 ∧ (q_k (T_Cl k).2.2.1 = 2 → q_rt (t_Cl k) = true) := by decide +kernel
theorem nm_Cl : ∀ a, a < 5 → ∀ b, b < 5 → a ≠ b → (T_Cl a).2.1 ≠ (T_Cl b).2.1 := by decide +kernel
theorem in_Ch : ∀ w ∈ u_ws "ProofHall$Checker" T_Ch 4, w ∈ tables_1 := by decide +kernel
theorem ty_Ch : ∀ k, k < 4 → parseFieldDescriptor (T_Ch k).2.2.1 = some (t_Ch k) := by decide +kernel
theorem df_Ch : ∀ k, k < 4 → defaultValue (t_Ch k) = q_dv (T_Ch k).2.2.1 ∧ (q_k (T_Ch k).2.2.1 = 2 → q_rt (t_Ch k) = true) := by decide +kernel
theorem nm_Ch : ∀ a, a < 4 → ∀ b, b < 4 → a ≠ b → (T_Ch a).2.1 ≠ (T_Ch b).2.1 := by decide +kernel
theorem in_So : ∀ w ∈ u_ws "ProofHall$Solver" T_So 19, w ∈ tables_1 := by decide +kernel
theorem ty_So : ∀ k, k < 19 → parseFieldDescriptor (T_So k).2.2.1 = some (t_So k) := by decide +kernel
theorem df_So : ∀ k, k < 19 → defaultValue (t_So k) = q_dv (T_So k).2.2.1 ∧ (q_k (T_So k).2.2.1 = 2 → q_rt (t_So k) = true) := by decide +kernel
theorem nm_So : ∀ a, a < 19 → ∀ b, b < 19 → a ≠ b → (T_So a).2.1 ≠ (T_So b).2.1 := by decide +kernel
theorem in_M : ∀ w ∈ u_ws "ProofHallModel" T_M 67, w ∈ tables_1 := by decide +kernel
theorem ty_M : ∀ k, k < 67 → parseFieldDescriptor (T_M k).2.2.1 = some (t_M k) := by decide +kernel
theorem df_M : ∀ k, k < 67 → defaultValue (t_M k) = q_dv (T_M k).2.2.1 ∧ (q_k (T_M k).2.2.1 = 2 → q_rt (t_M k) = true) := by decide +kernel
theorem nm_M : ∀ a, a < 67 → ∀ b, b < 67 → a ≠ b → (T_M a).2.1 ≠ (T_M b).2.1 := by decide +kernel
def m_H_init : q_M := (⟨"ProofHall", "<init>", "()V"⟩, prog_1_method_1_code, 1, (Option.none : Option FieldType), [])
def m_Sc_init : q_M := (⟨"ProofHall$Scanner", "<init>", "()V"⟩, prog_10_method_1_code, 1, (Option.none : Option FieldType), [])
def m_Sc_packed : q_M := (⟨"ProofHall$Scanner", "packed", "(Ljava/lang/String;)J"⟩, prog_10_method_2_code, 4, (Option.some FieldType.long), [])
def m_Pa_init : q_M := (⟨"ProofHall$Parser", "<init>", "()V"⟩, prog_8_method_1_code, 1, (Option.none : Option FieldType), [])
def m_Pr_init : q_M := (⟨"ProofHall$Program", "<init>", "()V"⟩, prog_9_method_1_code, 1, (Option.none : Option FieldType), [])
def m_Ma_init : q_M := (⟨"ProofHall$Machine", "<init>", "()V"⟩, prog_7_method_1_code, 1, (Option.none : Option FieldType), [])
def m_In_init : q_M := (⟨"ProofHall$Inquiry", "<init>", "()V"⟩, prog_6_method_1_code, 1, (Option.none : Option FieldType), [])
def m_En_init : q_M := (⟨"ProofHall$Encoder", "<init>", "()V"⟩, prog_5_method_1_code, 1, (Option.none : Option FieldType), [])
def m_Wo_init : q_M := (⟨"ProofHall$Words", "<init>", "()V"⟩, prog_12_method_1_code, 1, (Option.none : Option FieldType), [])
def m_Ci_init : q_M := (⟨"ProofHall$Circuit", "<init>", "()V"⟩, prog_3_method_1_code, 1, (Option.none : Option FieldType), [])
def m_So_init : q_M := (⟨"ProofHall$Solver", "<init>", "()V"⟩, prog_11_method_1_code, 1, (Option.none : Option FieldType), [])
def m_Cl_init : q_M := (⟨"ProofHall$Clauses", "<init>", "()V"⟩, prog_4_method_1_code, 1, (Option.none : Option FieldType), [])
def m_Ch_init : q_M := (⟨"ProofHall$Checker", "<init>", "()V"⟩, prog_2_method_1_code, 1, (Option.none : Option FieldType), [])
def m_H_count : q_M := (⟨"ProofHall", "count", "(I)I"⟩, prog_1_method_17_code, 2, (Option.some FieldType.int), [])
def m_In_mistakes : q_M := (⟨"ProofHall$Inquiry", "mistakes", "()I"⟩, prog_6_method_3_code, 1, (Option.some FieldType.int), [])
def m_So_mistakes : q_M := (⟨"ProofHall$Solver", "mistakes", "()I"⟩, prog_11_method_2_code, 1, (Option.some FieldType.int), [])
def m_En_circuit : q_M := (⟨"ProofHall$Encoder", "circuit", "()LProofHall$Circuit;"⟩, prog_5_method_2_code, 1, (Option.some (FieldType.object "ProofHall$Circuit")), [])
def m_L_feed : q_M := (⟨"ProofHallLaw", "feed", "(LProofHall;IIIII[J)I"⟩, method_3_code, 8, (Option.some FieldType.int), [((0 : Nat), (16 : Nat), (19 : Nat), (13 : Nat))])
def m_H_feed : q_M := (⟨"ProofHall", "feed", "(IIIII)I"⟩, prog_1_method_2_code, 6, (Option.some FieldType.int), [])
def m_Sc_append : q_M := (⟨"ProofHall$Scanner", "append", "(I)V"⟩, prog_10_method_3_code, 3, (Option.none : Option FieldType), [])
def m_L_end : q_M := (⟨"ProofHallLaw", "end", "(LProofHall;I[J)I"⟩, method_4_code, 4, (Option.some FieldType.int), [((0 : Nat), (9 : Nat), (12 : Nat), (19 : Nat))])
def m_H_end : q_M := (⟨"ProofHall", "end", "(I)I"⟩, prog_1_method_3_code, 2, (Option.some FieldType.int), [])
def m_L_build : q_M := (⟨"ProofHallLaw", "build", "(LProofHall;[J)I"⟩, method_5_code, 3, (Option.some FieldType.int), [((0 : Nat), (8 : Nat), (11 : Nat), (25 : Nat))])
def m_H_build : q_M := (⟨"ProofHall", "build", "()I"⟩, prog_1_method_4_code, 2, (Option.some FieldType.int), [])
def m_Sc_cut : q_M := (⟨"ProofHall$Scanner", "cut", "()V"⟩, prog_10_method_9_code, 2, (Option.none : Option FieldType), [])
def m_Sc_isLetter : q_M := (⟨"ProofHall$Scanner", "isLetter", "(I)Z"⟩, prog_10_method_10_code, 1, (Option.some FieldType.boolean), [])
def m_Sc_word : q_M := (⟨"ProofHall$Scanner", "word", "()I"⟩, prog_10_method_12_code, 5, (Option.some FieldType.int), [])
def m_Sc_isDigit : q_M := (⟨"ProofHall$Scanner", "isDigit", "(I)Z"⟩, prog_10_method_11_code, 1, (Option.some FieldType.boolean), [])
def m_Sc_digits : q_M := (⟨"ProofHall$Scanner", "digits", "()I"⟩, prog_10_method_13_code, 2, (Option.some FieldType.int), [])
def m_Sc_sign : q_M := (⟨"ProofHall$Scanner", "sign", "()I"⟩, prog_10_method_14_code, 4, (Option.some FieldType.int), [])
def m_Sc_doubleSign : q_M := (⟨"ProofHall$Scanner", "doubleSign", "(II)I"⟩, prog_10_method_15_code, 2, (Option.some FieldType.int), [])
def m_Sc_singleSign : q_M := (⟨"ProofHall$Scanner", "singleSign", "(I)I"⟩, prog_10_method_16_code, 1, (Option.some FieldType.int), [])
def m_Sc_operatorSign : q_M := (⟨"ProofHall$Scanner", "operatorSign", "(I)I"⟩, prog_10_method_17_code, 1, (Option.some FieldType.int), [])
def m_Pa_begin : q_M := (⟨"ProofHall$Parser", "begin", "(LProofHall$Scanner;LProofHall$Program;)V"⟩, prog_8_method_2_code, 3, (Option.none : Option FieldType), [])
def m_Pr_clear : q_M := (⟨"ProofHall$Program", "clear", "()V"⟩, prog_9_method_2_code, 1, (Option.none : Option FieldType), [])
def m_Pa_declarations : q_M := (⟨"ProofHall$Parser", "declarations", "()Z"⟩, prog_8_method_6_code, 3, (Option.some FieldType.boolean), [])
def m_Sc_kind : q_M := (⟨"ProofHall$Scanner", "kind", "()I"⟩, prog_10_method_4_code, 1, (Option.some FieldType.int), [])
def m_Pa_declaration : q_M := (⟨"ProofHall$Parser", "declaration", "()Z"⟩, prog_8_method_7_code, 7, (Option.some FieldType.boolean), [])
def m_Sc_advance : q_M := (⟨"ProofHall$Scanner", "advance", "()V"⟩, prog_10_method_8_code, 1, (Option.none : Option FieldType), [])
def m_Sc_name : q_M := (⟨"ProofHall$Scanner", "name", "()J"⟩, prog_10_method_6_code, 1, (Option.some FieldType.long), [])
def m_Sc_start : q_M := (⟨"ProofHall$Scanner", "start", "()I"⟩, prog_10_method_5_code, 1, (Option.some FieldType.int), [])
def m_Pa_accept : q_M := (⟨"ProofHall$Parser", "accept", "(I)Z"⟩, prog_8_method_4_code, 2, (Option.some FieldType.boolean), [])
def m_Sc_number : q_M := (⟨"ProofHall$Scanner", "number", "()I"⟩, prog_10_method_7_code, 1, (Option.some FieldType.int), [])
def m_Pr_find : q_M := (⟨"ProofHall$Program", "find", "(J)I"⟩, prog_9_method_4_code, 4, (Option.some FieldType.int), [])
def m_Pr_note : q_M := (⟨"ProofHall$Program", "note", "(II)V"⟩, prog_9_method_3_code, 3, (Option.none : Option FieldType), [])
def m_Pr_addInput : q_M := (⟨"ProofHall$Program", "addInput", "(JI)Z"⟩, prog_9_method_5_code, 4, (Option.some FieldType.boolean), [])
def m_Pr_addVariable : q_M := (⟨"ProofHall$Program", "addVariable", "(JI)Z"⟩, prog_9_method_6_code, 4, (Option.some FieldType.boolean), [])
def m_Pa_statements : q_M := (⟨"ProofHall$Parser", "statements", "()Z"⟩, prog_8_method_8_code, 3, (Option.some FieldType.boolean), [])
def m_Pa_simple : q_M := (⟨"ProofHall$Parser", "simple", "()Z"⟩, prog_8_method_11_code, 5, (Option.some FieldType.boolean), [])
def m_Pa_target : q_M := (⟨"ProofHall$Parser", "target", "()I"⟩, prog_8_method_12_code, 2, (Option.some FieldType.int), [])
def m_Pa_expression : q_M := (⟨"ProofHall$Parser", "expression", "(I)I"⟩, prog_8_method_19_code, 4, (Option.some FieldType.int), [])
def m_Pa_operand : q_M := (⟨"ProofHall$Parser", "operand", "()Z"⟩, prog_8_method_20_code, 2, (Option.some FieldType.boolean), [])
def m_Pa_named : q_M := (⟨"ProofHall$Parser", "named", "()V"⟩, prog_8_method_22_code, 2, (Option.none : Option FieldType), [])
def m_Pa_push : q_M := (⟨"ProofHall$Parser", "push", "(III)V"⟩, prog_8_method_23_code, 5, (Option.none : Option FieldType), [])
def m_Pa_leastWidth : q_M := (⟨"ProofHall$Parser", "leastWidth", "(I)I"⟩, prog_8_method_21_code, 2, (Option.some FieldType.int), [])
def m_Pa_deepen : q_M := (⟨"ProofHall$Parser", "deepen", "(I)V"⟩, prog_8_method_24_code, 2, (Option.none : Option FieldType), [])
def m_Pa_pushSign : q_M := (⟨"ProofHall$Parser", "pushSign", "(I)V"⟩, prog_8_method_25_code, 2, (Option.none : Option FieldType), [])
def m_Pa_follow : q_M := (⟨"ProofHall$Parser", "follow", "()Z"⟩, prog_8_method_27_code, 3, (Option.some FieldType.boolean), [])
def m_Pa_reduce : q_M := (⟨"ProofHall$Parser", "reduce", "(I)V"⟩, prog_8_method_28_code, 2, (Option.none : Option FieldType), [])
def m_Pa_topSign : q_M := (⟨"ProofHall$Parser", "topSign", "()I"⟩, prog_8_method_26_code, 1, (Option.some FieldType.int), [])
def m_Pa_apply : q_M := (⟨"ProofHall$Parser", "apply", "(I)V"⟩, prog_8_method_30_code, 9, (Option.none : Option FieldType), [])
def m_Pa_reduceChoices : q_M := (⟨"ProofHall$Parser", "reduceChoices", "()V"⟩, prog_8_method_29_code, 1, (Option.none : Option FieldType), [])
def m_Pr_addStep : q_M := (⟨"ProofHall$Program", "addStep", "(III)I"⟩, prog_9_method_7_code, 5, (Option.some FieldType.int), [])
def m_Pa_finish : q_M := (⟨"ProofHall$Parser", "finish", "(I)V"⟩, prog_8_method_15_code, 4, (Option.none : Option FieldType), [])
def m_Pa_capped : q_M := (⟨"ProofHall$Parser", "capped", "(I)I"⟩, prog_8_method_5_code, 1, (Option.some FieldType.int), [])
def m_Pa_goOnWithElse : q_M := (⟨"ProofHall$Parser", "goOnWithElse", "(I)V"⟩, prog_8_method_16_code, 3, (Option.none : Option FieldType), [])
def m_Pa_closeLoop : q_M := (⟨"ProofHall$Parser", "closeLoop", "(I)I"⟩, prog_8_method_18_code, 3, (Option.some FieldType.int), [])
def m_Pa_closeBranch : q_M := (⟨"ProofHall$Parser", "closeBranch", "(I)I"⟩, prog_8_method_17_code, 2, (Option.some FieldType.int), [])
def m_Pa_fork : q_M := (⟨"ProofHall$Parser", "fork", "()Z"⟩, prog_8_method_13_code, 5, (Option.some FieldType.boolean), [])
def m_Pa_loopNumber : q_M := (⟨"ProofHall$Parser", "loopNumber", "(I)Z"⟩, prog_8_method_14_code, 4, (Option.some FieldType.boolean), [])
def m_Pa_enter : q_M := (⟨"ProofHall$Parser", "enter", "(IIII)V"⟩, prog_8_method_9_code, 5, (Option.none : Option FieldType), [])
def m_Pa_closeBlock : q_M := (⟨"ProofHall$Parser", "closeBlock", "()Z"⟩, prog_8_method_10_code, 1, (Option.some FieldType.boolean), [])
def m_Pa_conclude : q_M := (⟨"ProofHall$Parser", "conclude", "(Z)V"⟩, prog_8_method_3_code, 2, (Option.none : Option FieldType), [])
def m_Ma_forget : q_M := (⟨"ProofHall$Machine", "forget", "()V"⟩, prog_7_method_2_code, 1, (Option.none : Option FieldType), [])
def m_In_study : q_M := (⟨"ProofHall$Inquiry", "study", "(LProofHall$Program;)V"⟩, prog_6_method_2_code, 2, (Option.none : Option FieldType), [])
def m_En_encode : q_M := (⟨"ProofHall$Encoder", "encode", "(LProofHall$Program;)V"⟩, prog_5_method_3_code, 4, (Option.none : Option FieldType), [])
def m_Ci_clear : q_M := (⟨"ProofHall$Circuit", "clear", "()V"⟩, prog_3_method_2_code, 1, (Option.none : Option FieldType), [])
def m_En_makeInputs : q_M := (⟨"ProofHall$Encoder", "makeInputs", "()V"⟩, prog_5_method_4_code, 3, (Option.none : Option FieldType), [])
def m_Ci_leaf : q_M := (⟨"ProofHall$Circuit", "leaf", "()I"⟩, prog_3_method_4_code, 1, (Option.some FieldType.int), [])
def m_En_evaluate : q_M := (⟨"ProofHall$Encoder", "evaluate", "(II)V"⟩, prog_5_method_7_code, 7, (Option.none : Option FieldType), [])
def m_En_fetch : q_M := (⟨"ProofHall$Encoder", "fetch", "(III)V"⟩, prog_5_method_8_code, 4, (Option.none : Option FieldType), [])
def m_Wo_loadNumber : q_M := (⟨"ProofHall$Words", "loadNumber", "(II)V"⟩, prog_12_method_3_code, 4, (Option.none : Option FieldType), [])
def m_Wo_load : q_M := (⟨"ProofHall$Words", "load", "(I[II)V"⟩, prog_12_method_2_code, 4, (Option.none : Option FieldType), [])
def m_Wo_choose : q_M := (⟨"ProofHall$Words", "choose", "(III)V"⟩, prog_12_method_8_code, 6, (Option.none : Option FieldType), [])
def m_Wo_truth : q_M := (⟨"ProofHall$Words", "truth", "(I)I"⟩, prog_12_method_5_code, 2, (Option.some FieldType.int), [])
def m_Wo_none : q_M := (⟨"ProofHall$Words", "none", "(II)I"⟩, prog_12_method_6_code, 5, (Option.some FieldType.int), [])
def m_Ci_and : q_M := (⟨"ProofHall$Circuit", "and", "(II)I"⟩, prog_3_method_5_code, 3, (Option.some FieldType.int), [])
def m_Ci_gate : q_M := (⟨"ProofHall$Circuit", "gate", "(IIII)I"⟩, prog_3_method_9_code, 9, (Option.some FieldType.int), [])
def m_Ci_pick : q_M := (⟨"ProofHall$Circuit", "pick", "(III)I"⟩, prog_3_method_8_code, 7, (Option.some FieldType.int), [])
def m_Ci_xor : q_M := (⟨"ProofHall$Circuit", "xor", "(II)I"⟩, prog_3_method_7_code, 6, (Option.some FieldType.int), [])
def m_Wo_single : q_M := (⟨"ProofHall$Words", "single", "(III)V"⟩, prog_12_method_7_code, 7, (Option.none : Option FieldType), [])
def m_Wo_leave : q_M := (⟨"ProofHall$Words", "leave", "(II)V"⟩, prog_12_method_4_code, 3, (Option.none : Option FieldType), [])
def m_Wo_arithmetic : q_M := (⟨"ProofHall$Words", "arithmetic", "(IIII)V"⟩, prog_12_method_10_code, 5, (Option.none : Option FieldType), [])
def m_Wo_shift : q_M := (⟨"ProofHall$Words", "shift", "(IIII)V"⟩, prog_12_method_17_code, 12, (Option.none : Option FieldType), [])
def m_Ci_or : q_M := (⟨"ProofHall$Circuit", "or", "(II)I"⟩, prog_3_method_6_code, 3, (Option.some FieldType.int), [])
def m_Wo_sum : q_M := (⟨"ProofHall$Words", "sum", "(IIII)V"⟩, prog_12_method_14_code, 10, (Option.none : Option FieldType), [])
def m_Wo_multiply : q_M := (⟨"ProofHall$Words", "multiply", "(III)V"⟩, prog_12_method_15_code, 9, (Option.none : Option FieldType), [])
def m_Wo_divide : q_M := (⟨"ProofHall$Words", "divide", "(IIII)V"⟩, prog_12_method_16_code, 11, (Option.none : Option FieldType), [])
def m_Wo_logic : q_M := (⟨"ProofHall$Words", "logic", "(III)V"⟩, prog_12_method_9_code, 4, (Option.none : Option FieldType), [])
def m_Wo_same : q_M := (⟨"ProofHall$Words", "same", "(II)I"⟩, prog_12_method_12_code, 5, (Option.some FieldType.int), [])
def m_Wo_below : q_M := (⟨"ProofHall$Words", "below", "(II)I"⟩, prog_12_method_13_code, 6, (Option.some FieldType.int), [])
def m_Wo_bitwise : q_M := (⟨"ProofHall$Words", "bitwise", "(III)V"⟩, prog_12_method_11_code, 7, (Option.none : Option FieldType), [])
def m_En_perform : q_M := (⟨"ProofHall$Encoder", "perform", "(II)I"⟩, prog_5_method_9_code, 3, (Option.some FieldType.int), [])
def m_En_claim : q_M := (⟨"ProofHall$Encoder", "claim", "(II)V"⟩, prog_5_method_10_code, 4, (Option.none : Option FieldType), [])
def m_En_fork : q_M := (⟨"ProofHall$Encoder", "fork", "(I)V"⟩, prog_5_method_13_code, 2, (Option.none : Option FieldType), [])
def m_En_swap : q_M := (⟨"ProofHall$Encoder", "swap", "()V"⟩, prog_5_method_14_code, 4, (Option.none : Option FieldType), [])
def m_En_join : q_M := (⟨"ProofHall$Encoder", "join", "()V"⟩, prog_5_method_15_code, 2, (Option.none : Option FieldType), [])
def m_En_joined : q_M := (⟨"ProofHall$Encoder", "joined", "(II)I"⟩, prog_5_method_16_code, 5, (Option.some FieldType.int), [])
def m_En_turn : q_M := (⟨"ProofHall$Encoder", "turn", "(III)I"⟩, prog_5_method_11_code, 4, (Option.some FieldType.int), [])
def m_En_deny : q_M := (⟨"ProofHall$Encoder", "deny", "(I)V"⟩, prog_5_method_12_code, 3, (Option.none : Option FieldType), [])
def m_L_fails : q_M := (⟨"ProofHallLaw", "fails", "(LProofHall;[J)I"⟩, method_6_code, 3, (Option.some FieldType.int), [((0 : Nat), (8 : Nat), (11 : Nat), (25 : Nat))])
def m_H_fails : q_M := (⟨"ProofHall", "fails", "()I"⟩, prog_1_method_5_code, 1, (Option.some FieldType.int), [])
def m_H_needProgram : q_M := (⟨"ProofHall", "needProgram", "()V"⟩, prog_1_method_18_code, 1, (Option.none : Option FieldType), [])
def m_In_open : q_M := (⟨"ProofHall$Inquiry", "open", "()V"⟩, prog_6_method_4_code, 1, (Option.none : Option FieldType), [])
def m_En_dropQuestion : q_M := (⟨"ProofHall$Encoder", "dropQuestion", "()V"⟩, prog_5_method_5_code, 1, (Option.none : Option FieldType), [])
def m_Ci_cutBack : q_M := (⟨"ProofHall$Circuit", "cutBack", "(I)V"⟩, prog_3_method_3_code, 2, (Option.none : Option FieldType), [])
def m_In_demand : q_M := (⟨"ProofHall$Inquiry", "demand", "(I)V"⟩, prog_6_method_5_code, 2, (Option.none : Option FieldType), [])
def m_In_concern : q_M := (⟨"ProofHall$Inquiry", "concern", "(I)V"⟩, prog_6_method_6_code, 2, (Option.none : Option FieldType), [])
def m_In_pose : q_M := (⟨"ProofHall$Inquiry", "pose", "()V"⟩, prog_6_method_8_code, 3, (Option.none : Option FieldType), [])
def m_So_begin : q_M := (⟨"ProofHall$Solver", "begin", "(LProofHall$Circuit;[II)V"⟩, prog_11_method_4_code, 4, (Option.none : Option FieldType), [])
def m_Cl_clear : q_M := (⟨"ProofHall$Clauses", "clear", "(I)V"⟩, prog_4_method_2_code, 2, (Option.none : Option FieldType), [])
def m_H_wipe : q_M := (⟨"ProofHall", "wipe", "([II)V"⟩, prog_1_method_21_code, 3, (Option.none : Option FieldType), [])
def m_Cl_write : q_M := (⟨"ProofHall$Clauses", "write", "(LProofHall$Circuit;[II)V"⟩, prog_4_method_4_code, 5, (Option.none : Option FieldType), [])
def m_Cl_writeGate : q_M := (⟨"ProofHall$Clauses", "writeGate", "(IIIII)V"⟩, prog_4_method_5_code, 6, (Option.none : Option FieldType), [])
def m_Cl_put : q_M := (⟨"ProofHall$Clauses", "put", "(III)V"⟩, prog_4_method_6_code, 5, (Option.none : Option FieldType), [])
def m_Cl_watch : q_M := (⟨"ProofHall$Clauses", "watch", "(I)V"⟩, prog_4_method_8_code, 4, (Option.none : Option FieldType), [])
def m_Ch_clear : q_M := (⟨"ProofHall$Checker", "clear", "(I)V"⟩, prog_2_method_2_code, 2, (Option.none : Option FieldType), [])
def m_So_assign : q_M := (⟨"ProofHall$Solver", "assign", "(II)V"⟩, prog_11_method_11_code, 3, (Option.none : Option FieldType), [])
def m_So_wish : q_M := (⟨"ProofHall$Solver", "wish", "(I)V"⟩, prog_11_method_5_code, 2, (Option.none : Option FieldType), [])
def m_So_require : q_M := (⟨"ProofHall$Solver", "require", "([II)V"⟩, prog_11_method_6_code, 6, (Option.none : Option FieldType), [])
def m_So_backTo : q_M := (⟨"ProofHall$Solver", "backTo", "(I)V"⟩, prog_11_method_12_code, 4, (Option.none : Option FieldType), [])
def m_So_has : q_M := (⟨"ProofHall$Solver", "has", "([III)Z"⟩, prog_11_method_7_code, 4, (Option.some FieldType.boolean), [])
def m_So_freeFirst : q_M := (⟨"ProofHall$Solver", "freeFirst", "([II)I"⟩, prog_11_method_8_code, 6, (Option.some FieldType.int), [])
def m_Cl_add : q_M := (⟨"ProofHall$Clauses", "add", "([II)I"⟩, prog_4_method_7_code, 4, (Option.some FieldType.int), [])
def m_In_look : q_M := (⟨"ProofHall$Inquiry", "look", "()V"⟩, prog_6_method_9_code, 2, (Option.none : Option FieldType), [])
def m_So_search : q_M := (⟨"ProofHall$Solver", "search", "()Z"⟩, prog_11_method_9_code, 4, (Option.some FieldType.boolean), [])
def m_So_propagate : q_M := (⟨"ProofHall$Solver", "propagate", "()I"⟩, prog_11_method_13_code, 2, (Option.some FieldType.int), [])
def m_So_visit : q_M := (⟨"ProofHall$Solver", "visit", "(I)I"⟩, prog_11_method_14_code, 13, (Option.some FieldType.int), [])
def m_So_replacement : q_M := (⟨"ProofHall$Solver", "replacement", "(I)I"⟩, prog_11_method_15_code, 4, (Option.some FieldType.int), [])
def m_So_noteFacts : q_M := (⟨"ProofHall$Solver", "noteFacts", "()V"⟩, prog_11_method_16_code, 1, (Option.none : Option FieldType), [])
def m_Ch_knows : q_M := (⟨"ProofHall$Checker", "knows", "(I)Z"⟩, prog_2_method_3_code, 2, (Option.some FieldType.boolean), [])
def m_Ch_check : q_M := (⟨"ProofHall$Checker", "check", "([I[II[II)V"⟩, prog_2_method_4_code, 6, (Option.none : Option FieldType), [])
def m_Ch_follows : q_M := (⟨"ProofHall$Checker", "follows", "([I[II[II)Z"⟩, prog_2_method_5_code, 8, (Option.some FieldType.boolean), [])
def m_Ch_remainder : q_M := (⟨"ProofHall$Checker", "remainder", "([II)I"⟩, prog_2_method_6_code, 7, (Option.some FieldType.int), [])
def m_So_learn : q_M := (⟨"ProofHall$Solver", "learn", "(I)Z"⟩, prog_11_method_17_code, 3, (Option.some FieldType.boolean), [])
def m_So_gather : q_M := (⟨"ProofHall$Solver", "gather", "(I)I"⟩, prog_11_method_18_code, 7, (Option.some FieldType.int), [])
def m_Cl_hasNearRoom : q_M := (⟨"ProofHall$Clauses", "hasNearRoom", "()Z"⟩, prog_4_method_3_code, 1, (Option.some FieldType.boolean), [])
def m_So_trace : q_M := (⟨"ProofHall$Solver", "trace", "(ZI)V"⟩, prog_11_method_19_code, 8, (Option.none : Option FieldType), [])
def m_So_nextWish : q_M := (⟨"ProofHall$Solver", "nextWish", "()I"⟩, prog_11_method_10_code, 2, (Option.some FieldType.int), [])
def m_So_checkModel : q_M := (⟨"ProofHall$Solver", "checkModel", "()V"⟩, prog_11_method_20_code, 2, (Option.none : Option FieldType), [])
def m_Cl_allHold : q_M := (⟨"ProofHall$Clauses", "allHold", "([I)Z"⟩, prog_4_method_9_code, 5, (Option.some FieldType.boolean), [])
def m_In_worth : q_M := (⟨"ProofHall$Inquiry", "worth", "([III)I"⟩, prog_6_method_10_code, 6, (Option.some FieldType.int), [])
def m_So_holds : q_M := (⟨"ProofHall$Solver", "holds", "(I)Z"⟩, prog_11_method_3_code, 2, (Option.some FieldType.boolean), [])
def m_Ma_execute : q_M := (⟨"ProofHall$Machine", "execute", "(LProofHall$Program;[I)V"⟩, prog_7_method_3_code, 5, (Option.none : Option FieldType), [])
def m_Ma_worth : q_M := (⟨"ProofHall$Machine", "worth", "(II)I"⟩, prog_7_method_6_code, 7, (Option.some FieldType.int), [])
def m_Ma_fetch : q_M := (⟨"ProofHall$Machine", "fetch", "(II)I"⟩, prog_7_method_7_code, 3, (Option.some FieldType.int), [])
def m_Ma_single : q_M := (⟨"ProofHall$Machine", "single", "(II)I"⟩, prog_7_method_9_code, 2, (Option.some FieldType.int), [])
def m_Ma_truth : q_M := (⟨"ProofHall$Machine", "truth", "(Z)I"⟩, prog_7_method_8_code, 1, (Option.some FieldType.int), [])
def m_H_mask : q_M := (⟨"ProofHall", "mask", "(I)I"⟩, prog_1_method_20_code, 1, (Option.some FieldType.int), [])
def m_Ma_both : q_M := (⟨"ProofHall$Machine", "both", "(IIII)I"⟩, prog_7_method_10_code, 4, (Option.some FieldType.int), [])
def m_Ma_arithmetic : q_M := (⟨"ProofHall$Machine", "arithmetic", "(IIII)I"⟩, prog_7_method_11_code, 4, (Option.some FieldType.int), [])
def m_Ma_perform : q_M := (⟨"ProofHall$Machine", "perform", "(II)I"⟩, prog_7_method_4_code, 4, (Option.some FieldType.int), [])
def m_Ma_enter : q_M := (⟨"ProofHall$Machine", "enter", "(II)I"⟩, prog_7_method_5_code, 3, (Option.some FieldType.int), [])
def m_In_verdict : q_M := (⟨"ProofHall$Inquiry", "verdict", "(Z)I"⟩, prog_6_method_11_code, 2, (Option.some FieldType.int), [])
def m_L_failsAt : q_M := (⟨"ProofHallLaw", "failsAt", "(LProofHall;I[J)I"⟩, method_7_code, 4, (Option.some FieldType.int), [((0 : Nat), (9 : Nat), (12 : Nat), (25 : Nat)), ((0 : Nat), (9 : Nat), (15 : Nat), (33 : Nat))])
def m_H_failsAt : q_M := (⟨"ProofHall", "failsAt", "(I)I"⟩, prog_1_method_6_code, 2, (Option.some FieldType.int), [])
def m_L_least : q_M := (⟨"ProofHallLaw", "least", "(LProofHall;I[J)I"⟩, method_8_code, 4, (Option.some FieldType.int), [((0 : Nat), (9 : Nat), (12 : Nat), (25 : Nat)), ((0 : Nat), (9 : Nat), (15 : Nat), (33 : Nat))])
def m_H_least : q_M := (⟨"ProofHall", "least", "(I)I"⟩, prog_1_method_7_code, 2, (Option.some FieldType.int), [])
def m_H_needVariable : q_M := (⟨"ProofHall", "needVariable", "(I)V"⟩, prog_1_method_19_code, 2, (Option.none : Option FieldType), [])
def m_In_extreme : q_M := (⟨"ProofHall$Inquiry", "extreme", "(II)I"⟩, prog_6_method_12_code, 7, (Option.some FieldType.int), [])
def m_In_requireLess : q_M := (⟨"ProofHall$Inquiry", "requireLess", "(III)V"⟩, prog_6_method_13_code, 8, (Option.none : Option FieldType), [])
def m_L_greatest : q_M := (⟨"ProofHallLaw", "greatest", "(LProofHall;I[J)I"⟩, method_9_code, 4, (Option.some FieldType.int), [((0 : Nat), (9 : Nat), (12 : Nat), (25 : Nat)), ((0 : Nat), (9 : Nat), (15 : Nat), (33 : Nat))])
def m_H_greatest : q_M := (⟨"ProofHall", "greatest", "(I)I"⟩, prog_1_method_8_code, 2, (Option.some FieldType.int), [])
def m_L_differ : q_M := (⟨"ProofHallLaw", "differ", "(LProofHall;II[J)I"⟩, method_10_code, 5, (Option.some FieldType.int), [((0 : Nat), (10 : Nat), (13 : Nat), (25 : Nat)), ((0 : Nat), (10 : Nat), (17 : Nat), (33 : Nat))])
def m_H_differ : q_M := (⟨"ProofHall", "differ", "(II)I"⟩, prog_1_method_9_code, 4, (Option.some FieldType.int), [])
def m_En_difference : q_M := (⟨"ProofHall$Encoder", "difference", "(II)I"⟩, prog_5_method_6_code, 5, (Option.some FieldType.int), [])
def m_L_can : q_M := (⟨"ProofHallLaw", "can", "(LProofHall;II[J)I"⟩, method_11_code, 5, (Option.some FieldType.int), [((0 : Nat), (10 : Nat), (13 : Nat), (25 : Nat)), ((0 : Nat), (10 : Nat), (17 : Nat), (33 : Nat))])
def m_H_can : q_M := (⟨"ProofHall", "can", "(II)I"⟩, prog_1_method_10_code, 3, (Option.some FieldType.int), [])
def m_In_demandWorth : q_M := (⟨"ProofHall$Inquiry", "demandWorth", "(II)V"⟩, prog_6_method_7_code, 4, (Option.none : Option FieldType), [])
def m_L_ends : q_M := (⟨"ProofHallLaw", "ends", "(LProofHall;[J)I"⟩, method_12_code, 3, (Option.some FieldType.int), [((0 : Nat), (8 : Nat), (11 : Nat), (25 : Nat))])
def m_H_ends : q_M := (⟨"ProofHall", "ends", "()I"⟩, prog_1_method_11_code, 1, (Option.some FieldType.int), [])
def m_In_tally : q_M := (⟨"ProofHall$Inquiry", "tally", "()I"⟩, prog_6_method_14_code, 3, (Option.some FieldType.int), [])
def m_In_requireOther : q_M := (⟨"ProofHall$Inquiry", "requireOther", "()V"⟩, prog_6_method_15_code, 5, (Option.none : Option FieldType), [])
def m_L_witness : q_M := (⟨"ProofHallLaw", "witness", "(LProofHall;I[J)I"⟩, method_13_code, 4, (Option.some FieldType.int), [((0 : Nat), (9 : Nat), (12 : Nat), (25 : Nat)), ((0 : Nat), (9 : Nat), (15 : Nat), (33 : Nat))])
def m_H_witness : q_M := (⟨"ProofHall", "witness", "(I)I"⟩, prog_1_method_12_code, 2, (Option.some FieldType.int), [])
def m_L_set : q_M := (⟨"ProofHallLaw", "set", "(LProofHall;II)I"⟩, method_14_code, 4, (Option.some FieldType.int), [((0 : Nat), (6 : Nat), (9 : Nat), (25 : Nat)), ((0 : Nat), (6 : Nat), (12 : Nat), (33 : Nat))])
def m_H_set : q_M := (⟨"ProofHall", "set", "(II)V"⟩, prog_1_method_13_code, 3, (Option.none : Option FieldType), [])
def m_L_take : q_M := (⟨"ProofHallLaw", "take", "(LProofHall;)I"⟩, method_15_code, 2, (Option.some FieldType.int), [((0 : Nat), (4 : Nat), (7 : Nat), (25 : Nat)), ((0 : Nat), (4 : Nat), (10 : Nat), (33 : Nat))])
def m_H_take : q_M := (⟨"ProofHall", "take", "()V"⟩, prog_1_method_14_code, 1, (Option.none : Option FieldType), [])
def m_L_run : q_M := (⟨"ProofHallLaw", "run", "(LProofHall;[J)I"⟩, method_16_code, 3, (Option.some FieldType.int), [((0 : Nat), (8 : Nat), (11 : Nat), (25 : Nat))])
def m_H_run : q_M := (⟨"ProofHall", "run", "()I"⟩, prog_1_method_15_code, 1, (Option.some FieldType.int), [])
def m_L_value : q_M := (⟨"ProofHallLaw", "value", "(LProofHall;I[J)I"⟩, method_17_code, 4, (Option.some FieldType.int), [((0 : Nat), (9 : Nat), (12 : Nat), (25 : Nat)), ((0 : Nat), (9 : Nat), (15 : Nat), (33 : Nat))])
def m_H_value : q_M := (⟨"ProofHall", "value", "(I)I"⟩, prog_1_method_16_code, 2, (Option.some FieldType.int), [])
def m_M_init : q_M := (⟨"ProofHallModel", "<init>", "()V"⟩, prog_14_method_1_code, 1, (Option.none : Option FieldType), [])
def m_M_thrown : q_M := (⟨"ProofHallModel", "thrown", "()I"⟩, prog_14_method_2_code, 1, (Option.some FieldType.int), [])
def m_M_feed : q_M := (⟨"ProofHallModel", "feed", "(IIIII)I"⟩, prog_14_method_5_code, 6, (Option.some FieldType.int), [])
def m_M_no : q_M := (⟨"ProofHallModel", "no", "(I)I"⟩, prog_14_method_3_code, 2, (Option.some FieldType.int), [])
def m_M_byteOf : q_M := (⟨"ProofHallModel", "byteOf", "(I)V"⟩, prog_14_method_4_code, 3, (Option.none : Option FieldType), [])
def m_M_end : q_M := (⟨"ProofHallModel", "end", "(I)I"⟩, prog_14_method_6_code, 2, (Option.some FieldType.int), [])
def m_M_build : q_M := (⟨"ProofHallModel", "build", "()I"⟩, prog_14_method_38_code, 5, (Option.some FieldType.int), [((8 : Nat), (13 : Nat), (16 : Nat), (27 : Nat))])
def m_M_cut : q_M := (⟨"ProofHallModel", "cut", "()V"⟩, prog_14_method_14_code, 6, (Option.none : Option FieldType), [])
def m_M_look : q_M := (⟨"ProofHallModel", "look", "(I)I"⟩, prog_14_method_7_code, 2, (Option.some FieldType.int), [])
def m_M_letter : q_M := (⟨"ProofHallModel", "letter", "(I)Z"⟩, prog_14_method_8_code, 1, (Option.some FieldType.boolean), [])
def m_M_token : q_M := (⟨"ProofHallModel", "token", "(II)V"⟩, prog_14_method_10_code, 3, (Option.none : Option FieldType), [])
def m_M_word : q_M := (⟨"ProofHallModel", "word", "(J)I"⟩, prog_14_method_12_code, 3, (Option.some FieldType.int), [])
def m_M_spelled : q_M := (⟨"ProofHallModel", "spelled", "(Ljava/lang/String;)J"⟩, prog_14_method_11_code, 4, (Option.some FieldType.long), [])
def m_M_digit : q_M := (⟨"ProofHallModel", "digit", "(I)Z"⟩, prog_14_method_9_code, 1, (Option.some FieldType.boolean), [])
def m_M_pair : q_M := (⟨"ProofHallModel", "pair", "(II)I"⟩, prog_14_method_13_code, 2, (Option.some FieldType.int), [])
def m_M_swap : q_M := (⟨"ProofHallModel", "swap", "()V"⟩, prog_14_method_36_code, 2, (Option.none : Option FieldType), [])
def m_M_wholeProgram : q_M := (⟨"ProofHallModel", "wholeProgram", "()I"⟩, prog_14_method_35_code, 4, (Option.some FieldType.int), [])
def m_M_kind : q_M := (⟨"ProofHallModel", "kind", "()I"⟩, prog_14_method_15_code, 1, (Option.some FieldType.int), [])
def m_M_declaration : q_M := (⟨"ProofHallModel", "declaration", "()V"⟩, prog_14_method_22_code, 7, (Option.none : Option FieldType), [])
def m_M_taken : q_M := (⟨"ProofHallModel", "taken", "()I"⟩, prog_14_method_17_code, 1, (Option.some FieldType.int), [])
def m_M_bad : q_M := (⟨"ProofHallModel", "bad", "()Ljava/lang/ArithmeticException;"⟩, prog_14_method_16_code, 1, (Option.some (FieldType.object "java/lang/ArithmeticException")), [])
def m_M_expect : q_M := (⟨"ProofHallModel", "expect", "(I)I"⟩, prog_14_method_18_code, 2, (Option.some FieldType.int), [])
def m_M_lookUp : q_M := (⟨"ProofHallModel", "lookUp", "(J)I"⟩, prog_14_method_21_code, 4, (Option.some FieldType.int), [])
def m_M_found : q_M := (⟨"ProofHallModel", "found", "(II)V"⟩, prog_14_method_19_code, 4, (Option.none : Option FieldType), [])
def m_M_statement : q_M := (⟨"ProofHallModel", "statement", "()I"⟩, prog_14_method_23_code, 5, (Option.some FieldType.int), [])
def m_M_expr : q_M := (⟨"ProofHallModel", "expr", "()I"⟩, prog_14_method_25_code, 6, (Option.some FieldType.int), [])
def m_M_level : q_M := (⟨"ProofHallModel", "level", "(I)I"⟩, prog_14_method_27_code, 8, (Option.some FieldType.int), [])
def m_M_unary : q_M := (⟨"ProofHallModel", "unary", "()I"⟩, prog_14_method_28_code, 5, (Option.some FieldType.int), [])
def m_M_node : q_M := (⟨"ProofHallModel", "node", "(IIII)I"⟩, prog_14_method_20_code, 5, (Option.some FieldType.int), [])
def m_M_inBrackets : q_M := (⟨"ProofHallModel", "inBrackets", "()I"⟩, prog_14_method_24_code, 3, (Option.some FieldType.int), [])
def m_M_levelOf : q_M := (⟨"ProofHallModel", "levelOf", "(I)I"⟩, prog_14_method_26_code, 1, (Option.some FieldType.int), [])
def m_M_refused : q_M := (⟨"ProofHallModel", "refused", "(II)I"⟩, prog_14_method_37_code, 3, (Option.some FieldType.int), [])
def m_M_workOfAll : q_M := (⟨"ProofHallModel", "workOfAll", "(I)J"⟩, prog_14_method_33_code, 5, (Option.some FieldType.long), [])
def m_M_workOfOne : q_M := (⟨"ProofHallModel", "workOfOne", "(I)J"⟩, prog_14_method_34_code, 2, (Option.some FieldType.long), [])
def m_M_workOf : q_M := (⟨"ProofHallModel", "workOf", "(I)J"⟩, prog_14_method_31_code, 9, (Option.some FieldType.long), [])
def m_M_isTwo : q_M := (⟨"ProofHallModel", "isTwo", "(I)Z"⟩, prog_14_method_30_code, 2, (Option.some FieldType.boolean), [])
def m_M_most : q_M := (⟨"ProofHallModel", "most", "(J)J"⟩, prog_14_method_29_code, 2, (Option.some FieldType.long), [])
def m_M_workOfOther : q_M := (⟨"ProofHallModel", "workOfOther", "(I)J"⟩, prog_14_method_32_code, 4, (Option.some FieldType.long), [])
def m_M_fails : q_M := (⟨"ProofHallModel", "fails", "()I"⟩, prog_14_method_50_code, 2, (Option.some FieldType.int), [])
def m_M_questions : q_M := (⟨"ProofHallModel", "questions", "()Z"⟩, prog_14_method_47_code, 3, (Option.some FieldType.boolean), [])
def m_M_spread : q_M := (⟨"ProofHallModel", "spread", "(I[I)V"⟩, prog_14_method_46_code, 5, (Option.none : Option FieldType), [])
def m_M_cut_2 : q_M := (⟨"ProofHallModel", "cut", "(II)I"⟩, prog_14_method_39_code, 2, (Option.some FieldType.int), [])
def m_M_runWhole : q_M := (⟨"ProofHallModel", "runWhole", "()I"⟩, prog_14_method_45_code, 2, (Option.some FieldType.int), [])
def m_M_go : q_M := (⟨"ProofHallModel", "go", "(I)I"⟩, prog_14_method_43_code, 4, (Option.some FieldType.int), [])
def m_M_one : q_M := (⟨"ProofHallModel", "one", "(I)I"⟩, prog_14_method_44_code, 4, (Option.some FieldType.int), [])
def m_M_eval : q_M := (⟨"ProofHallModel", "eval", "(I)I"⟩, prog_14_method_40_code, 6, (Option.some FieldType.int), [])
def m_M_other : q_M := (⟨"ProofHallModel", "other", "(I)I"⟩, prog_14_method_41_code, 3, (Option.some FieldType.int), [])
def m_M_two : q_M := (⟨"ProofHallModel", "two", "(IIII)I"⟩, prog_14_method_42_code, 4, (Option.some FieldType.int), [])
def m_M_asked : q_M := (⟨"ProofHallModel", "asked", "(I)I"⟩, prog_14_method_49_code, 2, (Option.some FieldType.int), [])
def m_M_failsAt : q_M := (⟨"ProofHallModel", "failsAt", "(I)I"⟩, prog_14_method_51_code, 3, (Option.some FieldType.int), [])
def m_M_least : q_M := (⟨"ProofHallModel", "least", "(I)I"⟩, prog_14_method_54_code, 2, (Option.some FieldType.int), [])
def m_M_extreme : q_M := (⟨"ProofHallModel", "extreme", "(II)I"⟩, prog_14_method_53_code, 5, (Option.some FieldType.int), [])
def m_M_isVar : q_M := (⟨"ProofHallModel", "isVar", "(I)Z"⟩, prog_14_method_52_code, 2, (Option.some FieldType.boolean), [])
def m_M_valueAt : q_M := (⟨"ProofHallModel", "valueAt", "(II)I"⟩, prog_14_method_48_code, 3, (Option.some FieldType.int), [])
def m_M_greatest : q_M := (⟨"ProofHallModel", "greatest", "(I)I"⟩, prog_14_method_55_code, 2, (Option.some FieldType.int), [])
def m_M_differ : q_M := (⟨"ProofHallModel", "differ", "(II)I"⟩, prog_14_method_56_code, 4, (Option.some FieldType.int), [])
def m_M_can : q_M := (⟨"ProofHallModel", "can", "(II)I"⟩, prog_14_method_57_code, 4, (Option.some FieldType.int), [])
def m_M_ends : q_M := (⟨"ProofHallModel", "ends", "()I"⟩, prog_14_method_58_code, 3, (Option.some FieldType.int), [])
def m_M_witness : q_M := (⟨"ProofHallModel", "witness", "(I)I"⟩, prog_14_method_59_code, 2, (Option.some FieldType.int), [])
def m_M_set : q_M := (⟨"ProofHallModel", "set", "(II)V"⟩, prog_14_method_60_code, 3, (Option.none : Option FieldType), [])
def m_M_take : q_M := (⟨"ProofHallModel", "take", "()V"⟩, prog_14_method_61_code, 1, (Option.none : Option FieldType), [])
def m_M_run : q_M := (⟨"ProofHallModel", "run", "()I"⟩, prog_14_method_62_code, 3, (Option.some FieldType.int), [])
def m_M_value : q_M := (⟨"ProofHallModel", "value", "(I)I"⟩, prog_14_method_63_code, 2, (Option.some FieldType.int), [])
def m_M_count : q_M := (⟨"ProofHallModel", "count", "(I)I"⟩, prog_14_method_64_code, 2, (Option.some FieldType.int), [])
/-- the words that a call keeps -/
def q_gw : Cond → Bool
  | .arrayClass _ => true
  | .fieldLinkNest .. => true
  | .methodLinkNest .. => true
  | .castable .. => true
  | .declares .. => true
  | w => w.onTables && w.keeps
theorem q_word {w : Cond} (hg : q_gw w = true) {args a' : Array Value} {s U : State} (hW : s.WarmedH U.vm) (h : w.before args s = true) : w.before a' U = true := by
  unfold q_gw at hg
  split at hg
  · exact word_at hW (Or.inr ⟨_, rfl⟩) h
  · exact va_Nw.use rfl (va_Nw.warmF hW (va_Nw.of rfl h))
  · exact va_Nw.use rfl (va_Nw.warmM hW (va_Nw.of rfl h))
  · exact va_Nw.use rfl (va_Nw.warmC hW (va_Nw.of rfl h))
  · exact va_Nw.use rfl (va_Nw.warmD hW (va_Nw.of rfl h))
  · exact word_at hW (Or.inl hg) h
def q_tb : List Cond := lw_tbl.filter q_gw
theorem q_in {w : Cond} (h : w ∈ tables_1) (hg : q_gw w = true := by rfl) : w ∈ q_tb := List.mem_filter.mpr ⟨List.mem_append_right _ h, hg⟩
theorem q_tb_good {w : Cond} (h : w ∈ q_tb) : q_gw w = true := (List.mem_filter.mp h).2
theorem q_tb_of {w : Cond} (h : w ∈ q_tb) : w ∈ lw_tbl := (List.mem_filter.mp h).1
theorem q_gw_lay {C : String} {T : u_T} {N : Nat} {w : Cond} (h : w ∈ u_ws C T N) : q_gw w = true := by
  obtain ⟨k, -, rfl⟩ := List.mem_map.mp h
  unfold u_lay
  split <;> rfl
theorem q_cls_ok (ci : Nat) (C : String) (T : u_T) (N : Nat) (h : q_cls[ci]? = some (C, T, N)) : (∀ w ∈ u_ws C T N, w ∈ q_tb) ∧ ∃ ty : Nat → FieldType, (∀ k, k < N → parseFieldDescriptor (T k).2.2.1 = some (ty k)) ∧ (∀ a, a < N → ∀ b, b < N → a ≠ b → (T a).2.1 ≠ (T b).2.1) ∧ (∀ k, k < N → defaultValue (ty k) = q_dv (T k).2.2.1 ∧ (q_k (T k).2.2.1 = 2 → q_rt (ty k) = true)) := by
  match ci, h with
  | 0, h => cases h; exact ⟨fun w hw => q_in (in_H w hw) (q_gw_lay hw), t_H, ty_H, nm_H, df_H⟩
  | 1, h => cases h; exact ⟨fun w hw => q_in (in_Sc w hw) (q_gw_lay hw), t_Sc, ty_Sc, nm_Sc, df_Sc⟩
  | 2, h => cases h; exact ⟨fun w hw => q_in (in_Pr w hw) (q_gw_lay hw), t_Pr, ty_Pr, nm_Pr, df_Pr⟩
  | 3, h => cases h; exact ⟨fun w hw => q_in (in_Pa w hw) (q_gw_lay hw), t_Pa, ty_Pa, nm_Pa, df_Pa⟩
  | 4, h => cases h; exact ⟨fun w hw => q_in (in_Ma w hw) (q_gw_lay hw), t_Ma, ty_Ma, nm_Ma, df_Ma⟩
  | 5, h => cases h; exact ⟨fun w hw => q_in (in_Ci w hw) (q_gw_lay hw), t_Ci, ty_Ci, nm_Ci, df_Ci⟩
  | 6, h => cases h; exact ⟨fun w hw => q_in (in_Wo w hw) (q_gw_lay hw), t_Wo, ty_Wo, nm_Wo, df_Wo⟩
  | 7, h => cases h; exact ⟨fun w hw => q_in (in_En w hw) (q_gw_lay hw), t_En, ty_En, nm_En, df_En⟩
  | 8, h => cases h; exact ⟨fun w hw => q_in (in_In w hw) (q_gw_lay hw), t_In, ty_In, nm_In, df_In⟩
  | 9, h => cases h; exact ⟨fun w hw => q_in (in_Cl w hw) (q_gw_lay hw), t_Cl, ty_Cl, nm_Cl, df_Cl⟩
  | 10, h => cases h; exact ⟨fun w hw => q_in (in_Ch w hw) (q_gw_lay hw), t_Ch, ty_Ch, nm_Ch, df_Ch⟩
  | 11, h => cases h; exact ⟨fun w hw => q_in (in_So w hw) (q_gw_lay hw), t_So, ty_So, nm_So, df_So⟩
  | 12, h => cases h; exact ⟨fun w hw => q_in (in_M w hw) (q_gw_lay hw), t_M, ty_M, nm_M, df_M⟩
  | ci + 13, h => simp [q_cls] at h
