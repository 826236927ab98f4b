theorem t_apart {d : Nat} {a b : Int32} {x : jM} {Q : Option Value → jM → Prop} (h : Q (some (.int 5)) x) : jo (d + 1) 130 [.int a, .int b] x Q := by
  sorry
