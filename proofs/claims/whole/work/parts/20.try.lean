set_option maxRecDepth 10000 in
theorem t_apart {d : Nat} {a b : Int32} {x : jM} {Q : Option Value → jM → Prop} (h : Q (some (.int ((if 0 ≤ a / nI 100 - b / nI 100 then a / nI 100 - b / nI 100 else 0 - (a / nI 100 - b / nI 100)) + 0))) x) : jo (d + 1) 67 [.int a, .int b] x Q := by
  refine jo_i rfl rfl (by decide) ?_
  iterate 2 refine jw_u rfl ?_
  refine jw_u rfl ⟨by decide, ?_⟩
  iterate 2 refine jw_u rfl ?_
  refine jw_u rfl ⟨by decide, ?_⟩
  iterate 2 refine jw_u rfl ?_
  trace_state
  sorry
theorem t_isPerson {d : Nat} {a : Int32} {x : jM} {Q : Option Value → jM → Prop} (h1 : 0 ≤ a ∧ a < x 11 2 → Q (some (.int 1)) x) (h2 : ¬ (0 ≤ a ∧ a < x 11 2) → Q (some (.int 0)) x) : jo (d + 1) 61 [.ref 0, .int a] x Q := by
  refine jo_i rfl rfl (by decide) ?_
  iterate 1 refine jw_u rfl ?_
  refine jw_u rfl ⟨fun c1 => ?_, fun c1 => ?_⟩
  · iterate 3 refine jw_u rfl ?_
    trace_state
    sorry
  · sorry
