theorem zz_isIn (d : Nat) (v a b : Int32) (sh : mj_S) (P : mj_P) (I : mj_I) (J : mj_J) (Q : mj_Q) (hQ : Q (some (.int (if a ≤ v ∧ v ≤ b then 1 else 0))) sh P I J) : mj_ret mj_pr (d + 1) n_Mo_isIn [.int v, .int a, .int b] (0, 0) sh P I J Q := by
  refine mj_in 3 t_Mo_isIn rfl rfl (fun X F => ?_)
  apply F
  conv => whnf
  apply F
  conv => whnf
  apply F
  conv => whnf
  trace_state
  sorry
