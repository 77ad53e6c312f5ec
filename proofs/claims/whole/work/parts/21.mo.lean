/-! the reference's small methods -/
theorem Mo_isLine {d : Nat} {e : mj_S} {P : mj_P} {r0 r1 r2 r3 rs : Nat} {kp : Option Nat} {I : mj_I} {J : mj_J} {Q : mj_Q} {l : Int32} (h1 : 0 ≤ l → l ≤ I 140 1 - 1 → Q (some (.int 1)) (sh0 ++ e) (cp P r0 r1 r2 r3 rs kp) I J) (h0 : (l < 0 ∨ I 140 1 - 1 < l) → Q (some (.int 0)) (sh0 ++ e) (cp P r0 r1 r2 r3 rs kp) I J) : mj_ret mj_pr (d + 2) n_Mo_isLine [.ref 139, .int l] (0, 0) (sh0 ++ e) (cp P r0 r1 r2 r3 rs kp) I J Q := by
  refine mj_in2 2 t_Mo_isLine rfl rfl (fun X cr C F => ?_)
  repeat (first | (apply F; conv => whnf) | (refine ⟨rfl, ?_⟩) | (refine ⟨vpk (by decide) ?_, ?_⟩; rfl) | (refine ⟨fun h => absurd h (by decide), fun _ => ?_⟩) | (refine ⟨fun _ => ?_, fun h => absurd (by decide) h⟩) | (refine ⟨fun h => absurd (by decide) h, fun _ => ?_⟩) | (refine ⟨fun _ => ?_, fun h => absurd h (by decide)⟩) | fail)
  refine C (Mo_isIn (fun a b => ?_) (fun a => ?_))
  · repeat (first | (apply F; conv => whnf) | (refine ⟨rfl, ?_⟩) | (refine ⟨vpk (by decide) ?_, ?_⟩; rfl) | (refine ⟨fun h => absurd h (by decide), fun _ => ?_⟩) | (refine ⟨fun _ => ?_, fun h => absurd (by decide) h⟩) | (refine ⟨fun h => absurd (by decide) h, fun _ => ?_⟩) | (refine ⟨fun _ => ?_, fun h => absurd h (by decide)⟩) | fail)
    exact h1 a b
  · repeat (first | (apply F; conv => whnf) | (refine ⟨rfl, ?_⟩) | (refine ⟨vpk (by decide) ?_, ?_⟩; rfl) | (refine ⟨fun h => absurd h (by decide), fun _ => ?_⟩) | (refine ⟨fun _ => ?_, fun h => absurd (by decide) h⟩) | (refine ⟨fun h => absurd (by decide) h, fun _ => ?_⟩) | (refine ⟨fun _ => ?_, fun h => absurd h (by decide)⟩) | fail)
    exact h0 a
