/-! conditions as rows of steps: codes 0 a number, 1 .. 6 what is known, 13 + 14 - 15 * 16 / (by a number) 17 < 18 = 19 > 20 not 21 and 22 or -/
def opB (c : Nat) (a b : Int32) : Int32 := match c with
  | 13 => a + b
  | 14 => a - b
  | 15 => a * b
  | 17 => if a < b then 1 else 0
  | 18 => if a = b then 1 else 0
  | 19 => if b < a then 1 else 0
  | 21 => a &&& b
  | _ => a ||| b
def opE (f : Nat → Int32) (s : List Int32) (o : Nat × Int32) : List Int32 :=
  if o.1 = 0 then o.2 :: s else if o.1 < 7 then f o.1 :: s
  else match s with
    | a :: t => if o.1 = 16 then a / o.2 :: t else if o.1 = 20 then (1 - a) :: t else (match t with
      | b :: u => opB o.1 b a :: u
      | [] => [])
    | [] => []
def opT (t : List Bool) (o : Nat × Int32) : Option (List Bool) :=
  if o.1 = 0 then (if t.length < 31 ∧ 0 ≤ o.2 ∧ o.2 < 10000 then some (false :: t) else none)
  else if o.1 < 7 then (if t.length < 31 then some (false :: t) else none)
  else if o.1 = 16 then (match t with
    | false :: u => if u.length < 30 ∧ 0 < o.2 ∧ o.2 < 10000 then some (false :: u) else none
    | _ => none)
  else if o.1 = 20 then (match t with
    | true :: u => some (true :: u)
    | _ => none)
  else if o.1 = 13 ∨ o.1 = 14 ∨ o.1 = 15 then (match t with
    | false :: false :: u => some (false :: u)
    | _ => none)
  else if o.1 = 17 ∨ o.1 = 18 ∨ o.1 = 19 then (match t with
    | false :: false :: u => some (true :: u)
    | _ => none)
  else if o.1 = 21 ∨ o.1 = 22 then (match t with
    | true :: true :: u => some (true :: u)
    | _ => none)
  else none
def opTs : List Bool → List (Nat × Int32) → Option (List Bool)
  | t, [] => some t
  | t, o :: r => (opT t o).bind (fun t' => opTs t' r)
def opEs (f : Nat → Int32) (s : List Int32) (l : List (Nat × Int32)) : List Int32 := l.foldl (opE f) s
/-- a condition that can be worked out -/
def wfO (l : List (Nat × Int32)) : Prop := opTs [] l = some [true]
def opV (f : Nat → Int32) (l : List (Nat × Int32)) : Int32 := (opEs f [] l).headD 0
/-- what lies on the pile, of which kinds -/
def tyS : List Bool → List Int32 → Prop
  | [], [] => True
  | b :: t, x :: s => (b = true → x = 0 ∨ x = 1) ∧ tyS t s
  | _, _ => False
theorem tyS_len : ∀ (t : List Bool) (s : List Int32), tyS t s → s.length = t.length
  | [], [], _ => rfl
  | b :: t, x :: s, h => by simp [tyS_len t s h.2]
  | [], _ :: _, h => h.elim
  | _ :: _, [], h => h.elim
/-- the kinds of steps, with what each asks of the pile -/
theorem opT_cases {t t' : List Bool} {o : Nat × Int32} (h : opT t o = some t') :
    (o.1 = 0 ∧ t.length < 31 ∧ 0 ≤ o.2 ∧ o.2 < 10000 ∧ t' = false :: t) ∨ ((0 < o.1 ∧ o.1 < 7) ∧ t.length < 31 ∧ t' = false :: t) ∨
    (o.1 = 16 ∧ ∃ u, t = false :: u ∧ u.length < 30 ∧ 0 < o.2 ∧ o.2 < 10000 ∧ t' = false :: u) ∨ (o.1 = 20 ∧ ∃ u, t = true :: u ∧ t' = true :: u) ∨
    ((o.1 = 13 ∨ o.1 = 14 ∨ o.1 = 15) ∧ ∃ u, t = false :: false :: u ∧ t' = false :: u) ∨ ((o.1 = 17 ∨ o.1 = 18 ∨ o.1 = 19) ∧ ∃ u, t = false :: false :: u ∧ t' = true :: u) ∨
    ((o.1 = 21 ∨ o.1 = 22) ∧ ∃ u, t = true :: true :: u ∧ t' = true :: u) := by
  unfold opT at h
  split at h
  · rename_i e
    split at h
    · rename_i g; cases h; exact Or.inl ⟨e, g.1, g.2.1, g.2.2, rfl⟩
    · cases h
  · split at h
    · rename_i e0 e
      split at h
      · rename_i g; cases h; exact Or.inr (Or.inl ⟨⟨by omega, e⟩, g, rfl⟩)
      · cases h
    · split at h
      · rename_i e
        split at h
        · rename_i u
          split at h
          · rename_i g; cases h; exact Or.inr (Or.inr (Or.inl ⟨e, u, rfl, g.1, g.2.1, g.2.2, rfl⟩))
          · cases h
        · cases h
      · split at h
        · rename_i e
          split at h
          · rename_i u; cases h; exact Or.inr (Or.inr (Or.inr (Or.inl ⟨e, u, rfl, rfl⟩)))
          · cases h
        · split at h
          · rename_i e
            split at h
            · rename_i u; cases h; exact Or.inr (Or.inr (Or.inr (Or.inr (Or.inl ⟨e, u, rfl, rfl⟩))))
            · cases h
          · split at h
            · rename_i e
              split at h
              · rename_i u; cases h; exact Or.inr (Or.inr (Or.inr (Or.inr (Or.inr (Or.inl ⟨e, u, rfl, rfl⟩)))))
              · cases h
            · split at h
              · rename_i e
                split at h
                · rename_i u; cases h; exact Or.inr (Or.inr (Or.inr (Or.inr (Or.inr (Or.inr ⟨e, u, rfl, rfl⟩)))))
                · cases h
              · cases h
theorem i32_b (c : Prop) [Decidable c] : (if c then (1 : Int32) else 0) = 0 ∨ (if c then (1 : Int32) else 0) = 1 := by
  by_cases h : c
  · rw [if_pos h]; exact Or.inr rfl
  · rw [if_neg h]; exact Or.inl rfl
theorem tyS_step {f : Nat → Int32} {t t' : List Bool} {s : List Int32} {o : Nat × Int32} (hs : tyS t s) (h : opT t o = some t') : tyS t' (opE f s o) := by
  rcases opT_cases h with ⟨e, -, -, -, rfl⟩ | ⟨⟨e0, e⟩, -, rfl⟩ | ⟨e, u, rfl, -, -, -, rfl⟩ | ⟨e, u, rfl, rfl⟩ | ⟨e, u, rfl, rfl⟩ | ⟨e, u, rfl, rfl⟩ | ⟨e, u, rfl, rfl⟩
  · unfold opE; rw [if_pos e]; exact ⟨fun z => (by cases z), hs⟩
  · unfold opE; rw [if_neg (by omega), if_pos e]; exact ⟨fun z => (by cases z), hs⟩
  · match s, hs with
    | a :: s, hs => unfold opE; rw [if_neg (by omega), if_neg (by omega)]; simp only [e, if_true]; exact ⟨fun z => (by cases z), hs.2⟩
  · match s, hs with
    | a :: s, hs =>
      unfold opE; rw [if_neg (by omega), if_neg (by omega)]
      simp only [e]
      refine ⟨fun _ => ?_, hs.2⟩
      rcases hs.1 rfl with z | z <;> rw [z] <;> decide
  · match s, hs with
    | a :: b :: s, hs => unfold opE; rw [if_neg (by omega), if_neg (by omega)]; simp only; rw [if_neg (by omega), if_neg (by omega)]; exact ⟨fun z => (by cases z), hs.2.2⟩
  · match s, hs with
    | a :: b :: s, hs =>
      unfold opE; rw [if_neg (by omega), if_neg (by omega)]; simp only; rw [if_neg (by omega), if_neg (by omega)]
      refine ⟨fun _ => ?_, hs.2.2⟩
      rcases e with e | e | e <;> rw [e] <;> exact i32_b _
  · match s, hs with
    | a :: b :: s, hs =>
      unfold opE; rw [if_neg (by omega), if_neg (by omega)]; simp only; rw [if_neg (by omega), if_neg (by omega)]
      refine ⟨fun _ => ?_, hs.2.2⟩
      rcases hs.1 rfl with z | z <;> rcases hs.2.1 rfl with y | y <;> rw [z, y] <;> rcases e with e | e <;> rw [e] <;> decide
theorem tyS_all {f : Nat → Int32} : ∀ (l : List (Nat × Int32)) (t t' : List Bool) (s : List Int32), tyS t s → opTs t l = some t' → tyS t' (opEs f s l)
  | [], t, t', s, hs, h => by cases h; exact hs
  | o :: r, t, t', s, hs, h => by
    unfold opTs at h
    cases hq : opT t o with
    | none => rw [hq] at h; cases h
    | some t2 => rw [hq] at h; exact tyS_all r t2 t' (opE f s o) (tyS_step hs hq) h
theorem wfO_val {f : Nat → Int32} {l : List (Nat × Int32)} (h : wfO l) : opEs f [] l = [opV f l] ∧ (opV f l = 0 ∨ opV f l = 1) := by
  have hs := tyS_all (f := f) l [] [true] [] trivial h
  unfold opV
  match hq : opEs f [] l, hs with
  | [x], hs => exact ⟨rfl, hs.1 rfl⟩
/-- a pile in a row, the lowest first -/
def stk (g : Nat → Int32) : List Int32 → Prop
  | [] => True
  | x :: s => g s.length = x ∧ stk g s
theorem stk_up : ∀ (s : List Int32) {g : Nat → Int32} {n : Nat} {v : Int32}, s.length ≤ n → stk g s → stk (fun j => if j = n then v else g j) s
  | [], _, _, _, _, _ => trivial
  | x :: s, g, n, v, hn, h => ⟨by simp at hn; show (if s.length = n then v else g s.length) = x; rw [if_neg (by omega)]; exact h.1, stk_up s (by simp at hn; omega) h.2⟩
theorem stk_congr : ∀ (s : List Int32) {g g' : Nat → Int32}, (∀ j, j < s.length → g' j = g j) → stk g s → stk g' s
  | [], _, _, _, _ => trivial
  | x :: s, g, g', hg, h => ⟨by rw [hg _ (by simp)]; exact h.1, stk_congr s (fun j hj => hg j (by simp; omega)) h.2⟩
theorem Mo_both {d : Nat} {sh : mj_S} {P : mj_P} {I : mj_I} {J : mj_J} {Q : mj_Q} {c : Nat} {a b : Int32} (hc : c = 13 ∨ c = 14 ∨ c = 15 ∨ c = 17 ∨ c = 18 ∨ c = 19 ∨ c = 21 ∨ c = 22) (hQ : Q (some (.int (opB c a b))) sh P I J) : mj_ret mj_pr (d + 1) n_Mo_both [.int (nI c), .int a, .int b] (0, 0) sh P I J Q := by
  refine mj_in2 3 t_Mo_both rfl rfl (fun X cr C F => ?_)
  rcases hc with rfl | rfl | rfl | rfl | rfl | rfl | rfl | rfl
  all_goals repeat' (first | (apply F; conv => whnf) | (refine ⟨rfl, ?_⟩) | (refine ⟨vpk (by decide) ?_, ?_⟩; rfl) | (refine ⟨fun h => absurd h (by decide), fun _ => ?_⟩) | (refine ⟨fun _ => ?_, fun h => absurd (by decide) h⟩) | (refine ⟨fun h => absurd (by decide) h, fun _ => ?_⟩) | (refine ⟨fun _ => ?_, fun h => absurd h (by decide)⟩) | (refine ⟨fun h => ?_, fun h => ?_⟩) | fail)
  all_goals first | exact hQ | (rw [show opB 17 a b = 1 from if_pos (by (simp only [Int32.lt_iff_toInt_lt, Int32.le_iff_toInt_le, ← Int32.toInt_inj] at *; simp only [Int32.reduceToInt] at *; omega))] at hQ; exact hQ) | (rw [show opB 17 a b = 0 from if_neg (by (simp only [Int32.lt_iff_toInt_lt, Int32.le_iff_toInt_le, ← Int32.toInt_inj] at *; simp only [Int32.reduceToInt] at *; omega))] at hQ; exact hQ) | (rw [show opB 18 a b = 1 from if_pos (by (simp only [Int32.lt_iff_toInt_lt, Int32.le_iff_toInt_le, ← Int32.toInt_inj] at *; simp only [Int32.reduceToInt] at *; omega))] at hQ; exact hQ) | (rw [show opB 18 a b = 0 from if_neg (by (simp only [Int32.lt_iff_toInt_lt, Int32.le_iff_toInt_le, ← Int32.toInt_inj] at *; simp only [Int32.reduceToInt] at *; omega))] at hQ; exact hQ) | (rw [show opB 19 a b = 1 from if_pos (by (simp only [Int32.lt_iff_toInt_lt, Int32.le_iff_toInt_le, ← Int32.toInt_inj] at *; simp only [Int32.reduceToInt] at *; omega))] at hQ; exact hQ) | (rw [show opB 19 a b = 0 from if_neg (by (simp only [Int32.lt_iff_toInt_lt, Int32.le_iff_toInt_le, ← Int32.toInt_inj] at *; simp only [Int32.reduceToInt] at *; omega))] at hQ; exact hQ)
/-- the class's tokens of the steps -/
def tokC (c : Nat) : Int32 := match c with
  | 13 => 10243
  | 14 => 10245
  | 15 => 10242
  | 16 => 10247
  | 17 => 10260
  | 18 => 10261
  | 19 => 10262
  | 20 => 10105
  | 21 => 10104
  | _ => 10103
theorem Ck_join {d : Nat} {sh : mj_S} {P : mj_P} {I : mj_I} {J : mj_J} {Q : mj_Q} {c : Nat} {a b : Int32} (hc : c = 13 ∨ c = 14 ∨ c = 15 ∨ c = 17 ∨ c = 18 ∨ c = 19 ∨ c = 21 ∨ c = 22) (hQ : Q (some (.int (opB c a b))) sh P I J) : mj_ret mj_pr (d + 1) n_Clerk_join [.int (tokC c), .int a, .int b] (0, 0) sh P I J Q := by
  refine mj_in2 3 t_Clerk_join rfl rfl (fun X cr C F => ?_)
  rcases hc with rfl | rfl | rfl | rfl | rfl | rfl | rfl | rfl
  all_goals repeat' (first | (apply F; conv => whnf) | (refine ⟨rfl, ?_⟩) | (refine ⟨vpk (by decide) ?_, ?_⟩; rfl) | (refine ⟨fun h => absurd h (by decide), fun _ => ?_⟩) | (refine ⟨fun _ => ?_, fun h => absurd (by decide) h⟩) | (refine ⟨fun h => absurd (by decide) h, fun _ => ?_⟩) | (refine ⟨fun _ => ?_, fun h => absurd h (by decide)⟩) | (refine ⟨fun h => ?_, fun h => ?_⟩) | fail)
  all_goals first | exact hQ | (rw [show opB 17 a b = 1 from if_pos (by (simp only [Int32.lt_iff_toInt_lt, Int32.le_iff_toInt_le, ← Int32.toInt_inj] at *; simp only [Int32.reduceToInt] at *; omega))] at hQ; exact hQ) | (rw [show opB 17 a b = 0 from if_neg (by (simp only [Int32.lt_iff_toInt_lt, Int32.le_iff_toInt_le, ← Int32.toInt_inj] at *; simp only [Int32.reduceToInt] at *; omega))] at hQ; exact hQ) | (rw [show opB 18 a b = 1 from if_pos (by (simp only [Int32.lt_iff_toInt_lt, Int32.le_iff_toInt_le, ← Int32.toInt_inj] at *; simp only [Int32.reduceToInt] at *; omega))] at hQ; exact hQ) | (rw [show opB 18 a b = 0 from if_neg (by (simp only [Int32.lt_iff_toInt_lt, Int32.le_iff_toInt_le, ← Int32.toInt_inj] at *; simp only [Int32.reduceToInt] at *; omega))] at hQ; exact hQ) | (rw [show opB 19 a b = 1 from if_pos (by (simp only [Int32.lt_iff_toInt_lt, Int32.le_iff_toInt_le, ← Int32.toInt_inj] at *; simp only [Int32.reduceToInt] at *; omega))] at hQ; exact hQ) | (rw [show opB 19 a b = 0 from if_neg (by (simp only [Int32.lt_iff_toInt_lt, Int32.le_iff_toInt_le, ← Int32.toInt_inj] at *; simp only [Int32.reduceToInt] at *; omega))] at hQ; exact hQ)
theorem Ck_joinP {d : Nat} {sh : mj_S} {P : mj_P} {I : mj_I} {J : mj_J} {Q : mj_Q} {a b : Int32} (hb : ¬ b = 0) (hQ : Q (some (.int (a / b))) sh P I J) : mj_ret mj_pr (d + 1) n_Clerk_join [.int 10247, .int a, .int b] (0, 0) sh P I J Q := by
  refine mj_in2 3 t_Clerk_join rfl rfl (fun X cr C F => ?_)
  repeat (first | (apply F; conv => whnf) | (refine ⟨rfl, ?_⟩) | (refine ⟨vpk (by decide) ?_, ?_⟩; rfl) | (refine ⟨fun h => absurd h (by decide), fun _ => ?_⟩) | (refine ⟨fun _ => ?_, fun h => absurd (by decide) h⟩) | (refine ⟨fun h => absurd (by decide) h, fun _ => ?_⟩) | (refine ⟨fun _ => ?_, fun h => absurd h (by decide)⟩) | fail)
  refine ⟨fun _ => ?_, fun z => absurd z hb⟩
  repeat (first | (apply F; conv => whnf) | (refine ⟨rfl, ?_⟩) | (refine ⟨vpk (by decide) ?_, ?_⟩; rfl) | (refine ⟨fun h => absurd h (by decide), fun _ => ?_⟩) | (refine ⟨fun _ => ?_, fun h => absurd (by decide) h⟩) | (refine ⟨fun h => absurd (by decide) h, fun _ => ?_⟩) | (refine ⟨fun _ => ?_, fun h => absurd h (by decide)⟩) | fail)
  refine ⟨hb, ?_⟩
  repeat (first | (apply F; conv => whnf) | (refine ⟨rfl, ?_⟩) | (refine ⟨vpk (by decide) ?_, ?_⟩; rfl) | (refine ⟨fun h => absurd h (by decide), fun _ => ?_⟩) | (refine ⟨fun _ => ?_, fun h => absurd (by decide) h⟩) | (refine ⟨fun h => absurd (by decide) h, fun _ => ?_⟩) | (refine ⟨fun _ => ?_, fun h => absurd h (by decide)⟩) | fail)
  exact hQ
theorem Ck_isOperand {d : Nat} {sh : mj_S} {P : mj_P} {I : mj_I} {J : mj_J} {Q : mj_Q} {x : Int32} (h1 : (x < 10000 ∨ (10106 ≤ x ∧ x < 10112)) → Q (some (.int 1)) sh P I J) (h0 : 10000 ≤ x → (x < 10106 ∨ 10112 ≤ x) → Q (some (.int 0)) sh P I J) : mj_ret mj_pr (d + 1) n_Clerk_isOperand [.int x] (0, 0) sh P I J Q := by
  refine mj_in2 1 t_Clerk_isOperand rfl rfl (fun X cr C F => ?_)
  repeat' (first | (apply F; conv => whnf) | (refine ⟨rfl, ?_⟩) | (refine ⟨vpk (by decide) ?_, ?_⟩; rfl) | (refine ⟨fun h => absurd h (by decide), fun _ => ?_⟩) | (refine ⟨fun _ => ?_, fun h => absurd (by decide) h⟩) | (refine ⟨fun h => absurd (by decide) h, fun _ => ?_⟩) | (refine ⟨fun _ => ?_, fun h => absurd h (by decide)⟩) | (refine ⟨fun h => ?_, fun h => ?_⟩) | fail)
  all_goals first | exact h1 (by (simp only [Int32.lt_iff_toInt_lt, Int32.le_iff_toInt_le, ← Int32.toInt_inj] at *; simp only [Int32.reduceToInt] at *; omega)) | exact h0 (by (simp only [Int32.lt_iff_toInt_lt, Int32.le_iff_toInt_le, ← Int32.toInt_inj] at *; simp only [Int32.reduceToInt] at *; omega)) (by (simp only [Int32.lt_iff_toInt_lt, Int32.le_iff_toInt_le, ← Int32.toInt_inj] at *; simp only [Int32.reduceToInt] at *; omega))
