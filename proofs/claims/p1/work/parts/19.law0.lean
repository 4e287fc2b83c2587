/-! THE CLAIM OUT OF THE LAW'S JUDGEMENT -/
def m_law : q_M := (x, code, 7, ret, [])
def q_s0 : q_H := (0, fun _ => (0, 0), fun _ _ => 0, fun _ _ => 0, fun _ _ => 0)
/-- the law, walked: it answers 1 -/
def q_goal : Prop := ∀ ω : q_W, q_sL ω ≤ 6 → J ω m_law 2048 600002 7302232 0 0 0 [(0, .ref 1000000)] [] q_s0 (fun r _ => r = .inl (some (.int 1)))
