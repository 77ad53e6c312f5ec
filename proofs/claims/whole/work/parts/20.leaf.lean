/-! LAYER B: specs over the small machine: leaves -/
theorem i32_nlt {a b : Int32} : ¬ a < b ↔ b ≤ a := Int32.not_lt
theorem i32_nle {a b : Int32} : ¬ a ≤ b ↔ b < a := Int32.not_le
theorem Mo_isIn {d : Nat} {sh : mj_S} {P : mj_P} {I : mj_I} {J : mj_J} {Q : mj_Q} {v a b : Int32} (h1 : a ≤ v → v ≤ b → Q (some (.int 1)) sh P I J) (h0 : (v < a ∨ b < v) → Q (some (.int 0)) sh P I J) : mj_ret mj_pr (d + 1) n_Mo_isIn [.int v, .int a, .int b] (0, 0) sh P I J Q := by
  refine mj_in 3 t_Mo_isIn rfl rfl (fun X F => ?_)
  repeat (first | (apply F; conv => whnf) | (refine ⟨rfl, ?_⟩))
  refine ⟨fun h => ?_, fun h => ?_⟩
  · repeat (first | (apply F; conv => whnf) | (refine ⟨rfl, ?_⟩))
    exact h0 (Or.inl h)
  · repeat (first | (apply F; conv => whnf) | (refine ⟨rfl, ?_⟩))
    refine ⟨fun h2 => ?_, fun h2 => ?_⟩
    · repeat (first | (apply F; conv => whnf) | (refine ⟨rfl, ?_⟩))
      exact h0 (Or.inr h2)
    · repeat (first | (apply F; conv => whnf) | (refine ⟨rfl, ?_⟩))
      exact h1 (i32_nlt.mp h) (i32_nlt.mp h2)
theorem LS_isStation {d : Nat} {sh : mj_S} {P : mj_P} {I : mj_I} {J : mj_J} {Q : mj_Q} {v : Int32} (h1 : 0 ≤ v → v < 8 → Q (some (.int 1)) sh P I J) (h0 : (v < 0 ∨ 8 ≤ v) → Q (some (.int 0)) sh P I J) : mj_ret mj_pr (d + 1) n_LS_isStation [.int v] (0, 0) sh P I J Q := by
  refine mj_in 1 t_LS_isStation rfl rfl (fun X F => ?_)
  repeat (first | (apply F; conv => whnf) | (refine ⟨rfl, ?_⟩))
  refine ⟨fun h => ?_, fun h => ?_⟩
  · repeat (first | (apply F; conv => whnf) | (refine ⟨rfl, ?_⟩))
    exact h0 (Or.inl h)
  · repeat (first | (apply F; conv => whnf) | (refine ⟨rfl, ?_⟩))
    refine ⟨fun h2 => ?_, fun h2 => ?_⟩
    · repeat (first | (apply F; conv => whnf) | (refine ⟨rfl, ?_⟩))
      exact h0 (Or.inr h2)
    · repeat (first | (apply F; conv => whnf) | (refine ⟨rfl, ?_⟩))
      exact h1 (i32_nlt.mp h) (i32_nle.mp h2)
