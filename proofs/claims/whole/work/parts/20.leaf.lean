/-! LAYER B: specs over the small machine: leaves -/
theorem i32_nlt {a b : Int32} : ¬ a < b ↔ b ≤ a := Int32.not_lt
theorem i32_nle {a b : Int32} : ¬ a ≤ b ↔ b < a := Int32.not_le
theorem Mo_isIn {d : Nat} {sh : mj_S} {P : mj_P} {I : mj_I} {J : mj_J} {Q : mj_Q} {v a b : Int32} (h1 : a ≤ v → v ≤ b → Q (some (.int 1)) sh P I J) (h0 : (v < a ∨ b < v) → Q (some (.int 0)) sh P I J) : mj_ret mj_pr (d + 1) n_Mo_isIn [.int v, .int a, .int b] (0, 0) sh P I J Q := by
  refine mj_in2 3 t_Mo_isIn rfl rfl (fun X cr C F => ?_)
  repeat (first | (apply F; conv => whnf) | (refine ⟨rfl, ?_⟩) | (refine ⟨vpk (by decide) ?_, ?_⟩; rfl) | (refine ⟨fun h => absurd h (by decide), fun _ => ?_⟩) | (refine ⟨fun _ => ?_, fun h => absurd (by decide) h⟩) | fail)
  refine ⟨fun h => ?_, fun h => ?_⟩
  · repeat (first | (apply F; conv => whnf) | (refine ⟨rfl, ?_⟩) | (refine ⟨vpk (by decide) ?_, ?_⟩; rfl) | (refine ⟨fun h => absurd h (by decide), fun _ => ?_⟩) | (refine ⟨fun _ => ?_, fun h => absurd (by decide) h⟩) | fail)
    exact h0 (Or.inl h)
  · repeat (first | (apply F; conv => whnf) | (refine ⟨rfl, ?_⟩) | (refine ⟨vpk (by decide) ?_, ?_⟩; rfl) | (refine ⟨fun h => absurd h (by decide), fun _ => ?_⟩) | (refine ⟨fun _ => ?_, fun h => absurd (by decide) h⟩) | fail)
    refine ⟨fun h2 => ?_, fun h2 => ?_⟩
    · repeat (first | (apply F; conv => whnf) | (refine ⟨rfl, ?_⟩) | (refine ⟨vpk (by decide) ?_, ?_⟩; rfl) | (refine ⟨fun h => absurd h (by decide), fun _ => ?_⟩) | (refine ⟨fun _ => ?_, fun h => absurd (by decide) h⟩) | fail)
      exact h0 (Or.inr h2)
    · repeat (first | (apply F; conv => whnf) | (refine ⟨rfl, ?_⟩) | (refine ⟨vpk (by decide) ?_, ?_⟩; rfl) | (refine ⟨fun h => absurd h (by decide), fun _ => ?_⟩) | (refine ⟨fun _ => ?_, fun h => absurd (by decide) h⟩) | fail)
      exact h1 (i32_nlt.mp h) (i32_nlt.mp h2)
theorem LS_isStation {d : Nat} {sh : mj_S} {P : mj_P} {I : mj_I} {J : mj_J} {Q : mj_Q} {v : Int32} (h1 : 0 ≤ v → v < 8 → Q (some (.int 1)) sh P I J) (h0 : (v < 0 ∨ 8 ≤ v) → Q (some (.int 0)) sh P I J) : mj_ret mj_pr (d + 1) n_LS_isStation [.int v] (0, 0) sh P I J Q := by
  refine mj_in2 1 t_LS_isStation rfl rfl (fun X cr C F => ?_)
  repeat (first | (apply F; conv => whnf) | (refine ⟨rfl, ?_⟩) | (refine ⟨vpk (by decide) ?_, ?_⟩; rfl) | (refine ⟨fun h => absurd h (by decide), fun _ => ?_⟩) | (refine ⟨fun _ => ?_, fun h => absurd (by decide) h⟩) | fail)
  refine ⟨fun h => ?_, fun h => ?_⟩
  · repeat (first | (apply F; conv => whnf) | (refine ⟨rfl, ?_⟩) | (refine ⟨vpk (by decide) ?_, ?_⟩; rfl) | (refine ⟨fun h => absurd h (by decide), fun _ => ?_⟩) | (refine ⟨fun _ => ?_, fun h => absurd (by decide) h⟩) | fail)
    exact h0 (Or.inl h)
  · repeat (first | (apply F; conv => whnf) | (refine ⟨rfl, ?_⟩) | (refine ⟨vpk (by decide) ?_, ?_⟩; rfl) | (refine ⟨fun h => absurd h (by decide), fun _ => ?_⟩) | (refine ⟨fun _ => ?_, fun h => absurd (by decide) h⟩) | fail)
    refine ⟨fun h2 => ?_, fun h2 => ?_⟩
    · repeat (first | (apply F; conv => whnf) | (refine ⟨rfl, ?_⟩) | (refine ⟨vpk (by decide) ?_, ?_⟩; rfl) | (refine ⟨fun h => absurd h (by decide), fun _ => ?_⟩) | (refine ⟨fun _ => ?_, fun h => absurd (by decide) h⟩) | fail)
      exact h0 (Or.inr h2)
    · repeat (first | (apply F; conv => whnf) | (refine ⟨rfl, ?_⟩) | (refine ⟨vpk (by decide) ?_, ?_⟩; rfl) | (refine ⟨fun h => absurd h (by decide), fun _ => ?_⟩) | (refine ⟨fun _ => ?_, fun h => absurd (by decide) h⟩) | fail)
      exact h1 (i32_nlt.mp h) (i32_nle.mp h2)
theorem LS_isKind {d : Nat} {sh : mj_S} {P : mj_P} {I : mj_I} {J : mj_J} {Q : mj_Q} {v : Int32} (h1 : 0 ≤ v → v < 4 → Q (some (.int 1)) sh P I J) (h0 : (v < 0 ∨ 4 ≤ v) → Q (some (.int 0)) sh P I J) : mj_ret mj_pr (d + 1) n_LS_isKind [.int v] (0, 0) sh P I J Q := by
  refine mj_in2 1 t_LS_isKind rfl rfl (fun X cr C F => ?_)
  repeat' (first | (apply F; conv => whnf) | (refine ⟨rfl, ?_⟩) | (refine ⟨vpk (by decide) ?_, ?_⟩; rfl) | (refine ⟨fun h => absurd h (by decide), fun _ => ?_⟩) | (refine ⟨fun _ => ?_, fun h => absurd (by decide) h⟩) | (refine ⟨fun h => ?_, fun h => ?_⟩) | fail)
  all_goals first | exact h1 (by (simp only [Int32.lt_iff_toInt_lt, Int32.le_iff_toInt_le, ← Int32.toInt_inj] at *; simp only [Int32.reduceToInt] at *; omega)) (by (simp only [Int32.lt_iff_toInt_lt, Int32.le_iff_toInt_le, ← Int32.toInt_inj] at *; simp only [Int32.reduceToInt] at *; omega)) | exact h0 (by (simp only [Int32.lt_iff_toInt_lt, Int32.le_iff_toInt_le, ← Int32.toInt_inj] at *; simp only [Int32.reduceToInt] at *; omega))
theorem LS_isSet {d : Nat} {sh : mj_S} {P : mj_P} {I : mj_I} {J : mj_J} {Q : mj_Q} {v : Int32} (h1 : 0 ≤ v → v ≤ 1023 → Q (some (.int 1)) sh P I J) (h0 : (v < 0 ∨ 1023 < v) → Q (some (.int 0)) sh P I J) : mj_ret mj_pr (d + 1) n_LS_isSet [.int v] (0, 0) sh P I J Q := by
  refine mj_in2 1 t_LS_isSet rfl rfl (fun X cr C F => ?_)
  repeat' (first | (apply F; conv => whnf) | (refine ⟨rfl, ?_⟩) | (refine ⟨vpk (by decide) ?_, ?_⟩; rfl) | (refine ⟨fun h => absurd h (by decide), fun _ => ?_⟩) | (refine ⟨fun _ => ?_, fun h => absurd (by decide) h⟩) | (refine ⟨fun h => ?_, fun h => ?_⟩) | fail)
  all_goals first | exact h1 (by (simp only [Int32.lt_iff_toInt_lt, Int32.le_iff_toInt_le, ← Int32.toInt_inj] at *; simp only [Int32.reduceToInt] at *; omega)) (by (simp only [Int32.lt_iff_toInt_lt, Int32.le_iff_toInt_le, ← Int32.toInt_inj] at *; simp only [Int32.reduceToInt] at *; omega)) | exact h0 (by (simp only [Int32.lt_iff_toInt_lt, Int32.le_iff_toInt_le, ← Int32.toInt_inj] at *; simp only [Int32.reduceToInt] at *; omega))
theorem LS_isOdds {d : Nat} {sh : mj_S} {P : mj_P} {I : mj_I} {J : mj_J} {Q : mj_Q} {v : Int32} (h1 : 0 ≤ v → v ≤ 1000 → Q (some (.int 1)) sh P I J) (h0 : (v < 0 ∨ 1000 < v) → Q (some (.int 0)) sh P I J) : mj_ret mj_pr (d + 1) n_LS_isOdds [.int v] (0, 0) sh P I J Q := by
  refine mj_in2 1 t_LS_isOdds rfl rfl (fun X cr C F => ?_)
  repeat' (first | (apply F; conv => whnf) | (refine ⟨rfl, ?_⟩) | (refine ⟨vpk (by decide) ?_, ?_⟩; rfl) | (refine ⟨fun h => absurd h (by decide), fun _ => ?_⟩) | (refine ⟨fun _ => ?_, fun h => absurd (by decide) h⟩) | (refine ⟨fun h => ?_, fun h => ?_⟩) | fail)
  all_goals first | exact h1 (by (simp only [Int32.lt_iff_toInt_lt, Int32.le_iff_toInt_le, ← Int32.toInt_inj] at *; simp only [Int32.reduceToInt] at *; omega)) (by (simp only [Int32.lt_iff_toInt_lt, Int32.le_iff_toInt_le, ← Int32.toInt_inj] at *; simp only [Int32.reduceToInt] at *; omega)) | exact h0 (by (simp only [Int32.lt_iff_toInt_lt, Int32.le_iff_toInt_le, ← Int32.toInt_inj] at *; simp only [Int32.reduceToInt] at *; omega))
theorem LS_isFlag {d : Nat} {sh : mj_S} {P : mj_P} {I : mj_I} {J : mj_J} {Q : mj_Q} {v : Int32} (h1 : (v = 0 ∨ v = 1) → Q (some (.int 1)) sh P I J) (h0 : ¬ v = 0 → ¬ v = 1 → Q (some (.int 0)) sh P I J) : mj_ret mj_pr (d + 1) n_LS_isFlag [.int v] (0, 0) sh P I J Q := by
  refine mj_in2 1 t_LS_isFlag rfl rfl (fun X cr C F => ?_)
  repeat' (first | (apply F; conv => whnf) | (refine ⟨rfl, ?_⟩) | (refine ⟨vpk (by decide) ?_, ?_⟩; rfl) | (refine ⟨fun h => absurd h (by decide), fun _ => ?_⟩) | (refine ⟨fun _ => ?_, fun h => absurd (by decide) h⟩) | (refine ⟨fun h => ?_, fun h => ?_⟩) | fail)
  all_goals first | exact h1 (by (simp only [Int32.lt_iff_toInt_lt, Int32.le_iff_toInt_le, ← Int32.toInt_inj] at *; simp only [Int32.reduceToInt] at *; omega)) | exact h0 (by (simp only [Int32.lt_iff_toInt_lt, Int32.le_iff_toInt_le, ← Int32.toInt_inj] at *; simp only [Int32.reduceToInt] at *; omega)) (by (simp only [Int32.lt_iff_toInt_lt, Int32.le_iff_toInt_le, ← Int32.toInt_inj] at *; simp only [Int32.reduceToInt] at *; omega))
theorem LS_isDigit {d : Nat} {sh : mj_S} {P : mj_P} {I : mj_I} {J : mj_J} {Q : mj_Q} {v : Int32} (h1 : 0 ≤ v → v < 10 → Q (some (.int 1)) sh P I J) (h0 : (v < 0 ∨ 10 ≤ v) → Q (some (.int 0)) sh P I J) : mj_ret mj_pr (d + 1) n_LS_isDigit [.int v] (0, 0) sh P I J Q := by
  refine mj_in2 1 t_LS_isDigit rfl rfl (fun X cr C F => ?_)
  repeat' (first | (apply F; conv => whnf) | (refine ⟨rfl, ?_⟩) | (refine ⟨vpk (by decide) ?_, ?_⟩; rfl) | (refine ⟨fun h => absurd h (by decide), fun _ => ?_⟩) | (refine ⟨fun _ => ?_, fun h => absurd (by decide) h⟩) | (refine ⟨fun h => ?_, fun h => ?_⟩) | fail)
  all_goals first | exact h1 (by (simp only [Int32.lt_iff_toInt_lt, Int32.le_iff_toInt_le, ← Int32.toInt_inj] at *; simp only [Int32.reduceToInt] at *; omega)) (by (simp only [Int32.lt_iff_toInt_lt, Int32.le_iff_toInt_le, ← Int32.toInt_inj] at *; simp only [Int32.reduceToInt] at *; omega)) | exact h0 (by (simp only [Int32.lt_iff_toInt_lt, Int32.le_iff_toInt_le, ← Int32.toInt_inj] at *; simp only [Int32.reduceToInt] at *; omega))
