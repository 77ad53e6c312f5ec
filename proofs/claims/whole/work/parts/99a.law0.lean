/-! the law: at first -/
theorem ag_R {r : Nat → Option Nat} : ∀ {L : List (Option Nat)} {i : Nat}, agR r i L → ∀ j v, L[j]? = some v → r (i + j) = v
  | [], _, _, j, v, h => by rw [List.getElem?_nil] at h; exact absurd h (by simp)
  | x :: t, i, a, 0, v, h => by
    rw [List.getElem?_cons_zero] at h
    have e : x = v := Option.some.inj h
    rw [← e]; exact a.1
  | x :: t, i, a, j + 1, v, h => by
    rw [List.getElem?_cons_succ] at h
    have := ag_R a.2 j v h
    rw [show i + (j + 1) = i + 1 + j by omega]; exact this
theorem ag_T {P : mj_P} : ∀ {L : List (List (Option Nat))} {a : Nat}, agT P a L → ∀ b j v, (L.getD b [])[j]? = some v → P (a + b) j = v
  | [], _, _, b, j, v, h => by
    rw [List.getD_nil, List.getElem?_nil] at h; exact absurd h (by simp)
  | x :: t, a, g, 0, j, v, h => by
    rw [List.getD_cons_zero] at h
    have := ag_R g.1 j v h
    rw [Nat.zero_add] at this; exact this
  | x :: t, a, g, b + 1, j, v, h => by
    rw [List.getD_cons_succ] at h
    have := ag_T g.2 b j v h
    rw [show a + (b + 1) = a + 1 + b by omega]; exact this
theorem cp_of {P : mj_P} (h : agT P 0 (cp_t 27 34 41 48 89 none)) : P = cp P 27 34 41 48 89 none := by
  funext a j
  unfold cp
  cases e : ((cp_t 27 34 41 48 89 none).getD a [])[j]? with
  | none => rfl
  | some v =>
    have := ag_T h a j v e
    rw [Nat.zero_add] at this
    exact this
set_option maxRecDepth 4000 in
theorem Inv_0 {P1 P : mj_P} {I1 I : mj_I} {J1 J : mj_J} (g1 : agT P1 0 (R0 :: [[some 2, some 3, some 4, some 6, some 8, some 10, some 11, some 12, some 13, some 14], [some 15, some 16, some 17, some 18, some 19, some 20, some 21, some 22, some 23, some 24, some 25, some 26], [some 27, some 34, some 41, some 48], [some 5], [], [some 7], [], [some 9], [], [], [], [], [], [], [], [], [], [], [], [], [], [], [], [], [], [], [some 28, some 29, some 30, some 31, some 32, some 33], [], [], [], [], [], [], [some 35, some 36, some 37, some 38, some 39, some 40], [], [], [], [], [], [], [some 42, some 43, some 44, some 45, some 46, some 47], [], [], [], [], [], [], [some 49, some 50, some 51, some 52, some 53, some 54], [], [], [], [], [], [], [some 56, some 57, some 66, some 67, some 68], [some 69, some 71, some 73, some 75, some 77, some 79, some 81, some 83], [some 58, some 59, some 60, some 61, some 62, some 63, some 64, some 65], [], [], [], [], [], [], [], [], [], [], [], [some 70], [], [some 72], [], [some 74], [], [some 76], [], [some 78], [], [some 80], [], [some 82], [], [some 84], [], [some 86], [], [some 85, some 88, none, none, none, none, some 89], [], [some 90, some 91, some 92, some 93, some 94, some 95], [], [], [], [], [], [], [some 97, some 99, some 100], [some 98], [], [], [], [some 96, some 102, some 104, some 106, some 108], [some 103], [], [some 105], [], [some 107], [], [some 109], [], [some 96, some 111, some 113, some 114, some 115], [some 112], [], [], [], [], [some 96, some 117, some 118, some 119], [some 120, some 122, some 124, some 126, some 128, some 130, some 132, some 134], [], [], [some 121], [], [some 123], [], [some 125], [], [some 127], [], [some 129], [], [some 131], [], [some 133], [], [some 135], [], [some 137], [], []])) (z : ∀ b, 1 ≤ b → b < 55 → b ≠ 2 → b ≠ 3 → ∀ j, I1 b j = 0) (zJ : J1 1 16 = 0) (i5 : I1 55 5 = 0) (i6 : I1 55 6 = 0) (i85 : I1 85 1 = 0) (i87 : I1 87 7 = 0) (j87 : I1 87 8 = -1) (f : FR 139 (mj_w P1 139 (fun _ => none)) (mj_w I1 139 (fun _ => 0)) (mj_w J1 139 (fun _ => 0)) P I J) (g2 : agT P 139 [[some 140, some 141, some 142, some 143, none, none, none, none, some 144, some 145, some 146, some 147, some 148, none, none, none, none, none, none, none, none, none, none, none, none, some 149, some 150, none, none, some 151, some 152, some 153, some 154, none, some 155, some 156, some 157, some 158], [], [], [], [], [], [], [], [], [], [], [], [], [], [], [], [], [], [], []]) (m9 : ∀ j, j ≠ 24 → I 139 j = 0) (m24 : I 139 24 = -1) (m : ∀ j, I 140 j = 0) (mJ : J 139 5 = 0) : Inv sh0 P I J := by
  have fP : ∀ b, b < 139 → P b = P1 b := fun b hb => by rw [(f b hb).1, mj_w_row _ _ _ (by omega)]
  have fI : ∀ b, b < 139 → I b = I1 b := fun b hb => by rw [(f b hb).2.1, mj_w_row _ _ _ (by omega)]
  have fJ : ∀ b, b < 139 → J b = J1 b := fun b hb => by rw [(f b hb).2.2, mj_w_row _ _ _ (by omega)]
  have z : ∀ b, 1 ≤ b → b < 55 → b ≠ 2 → b ≠ 3 → ∀ j, I b j = 0 := fun b b1 b2 b3 b4 j => by rw [fI b (by omega)]; exact z b b1 b2 b3 b4 j
  have hp : P = cp P 27 34 41 48 89 none := cp_of (agT_app (L := R0 :: [[some 2, some 3, some 4, some 6, some 8, some 10, some 11, some 12, some 13, some 14], [some 15, some 16, some 17, some 18, some 19, some 20, some 21, some 22, some 23, some 24, some 25, some 26], [some 27, some 34, some 41, some 48], [some 5], [], [some 7], [], [some 9], [], [], [], [], [], [], [], [], [], [], [], [], [], [], [], [], [], [], [some 28, some 29, some 30, some 31, some 32, some 33], [], [], [], [], [], [], [some 35, some 36, some 37, some 38, some 39, some 40], [], [], [], [], [], [], [some 42, some 43, some 44, some 45, some 46, some 47], [], [], [], [], [], [], [some 49, some 50, some 51, some 52, some 53, some 54], [], [], [], [], [], [], [some 56, some 57, some 66, some 67, some 68], [some 69, some 71, some 73, some 75, some 77, some 79, some 81, some 83], [some 58, some 59, some 60, some 61, some 62, some 63, some 64, some 65], [], [], [], [], [], [], [], [], [], [], [], [some 70], [], [some 72], [], [some 74], [], [some 76], [], [some 78], [], [some 80], [], [some 82], [], [some 84], [], [some 86], [], [some 85, some 88, none, none, none, none, some 89], [], [some 90, some 91, some 92, some 93, some 94, some 95], [], [], [], [], [], [], [some 97, some 99, some 100], [some 98], [], [], [], [some 96, some 102, some 104, some 106, some 108], [some 103], [], [some 105], [], [some 107], [], [some 109], [], [some 96, some 111, some 113, some 114, some 115], [some 112], [], [], [], [], [some 96, some 117, some 118, some 119], [some 120, some 122, some 124, some 126, some 128, some 130, some 132, some 134], [], [], [some 121], [], [some 123], [], [some 125], [], [some 127], [], [some 129], [], [some 131], [], [some 133], [], [some 135], [], [some 137], [], []]) (agT_congr g1 (fun b _ b2 => fP b b2)) g2)
  have nl : ∀ {p : Nat → Prop}, ∀ i, i < 0 → p i := fun i h => absurd h (Nat.not_lt_zero _)
  have mz : ∀ a, 1 ≤ a → a < 55 → a ≠ 2 → a ≠ 3 → mg I a [] := fun a a1 a2 a3 a4 => ⟨z a a1 a2 a3 a4 1, fun j h => absurd h (Nat.not_lt_zero _), by decide, fun x h => absurd h List.not_mem_nil⟩
  have rr : ∀ k, k < 4 → ruC I (ra 27 34 41 48 k) [] := fun k hk => by
    refine ⟨?_, fun i h => absurd h (Nat.not_lt_zero _)⟩
    rcases (show k = 0 ∨ k = 1 ∨ k = 2 ∨ k = 3 by omega) with rfl | rfl | rfl | rfl
    · exact z 27 (by decide) (by decide) (by decide) (by decide) 6
    · exact z 34 (by decide) (by decide) (by decide) (by decide) 6
    · exact z 41 (by decide) (by decide) (by decide) (by decide) 6
    · exact z 48 (by decide) (by decide) (by decide) (by decide) 6
  have z1 := z 1 (by decide) (by decide) (by decide) (by decide)
  refine ⟨[], P, 27, 34, 41, 48, 89, none, [], [], 0, -1, 0, 0, 0, 0, [], [], [], fun _ _ => 0, (fun _ => 0, 0, fun _ => 0), [], fun _ => [], 0, (List.append_nil _).symm, hp, ⟨by decide, by decide⟩, ?_, ?_, ?_, ⟨by decide, fun p h => absurd h List.not_mem_nil⟩, ⟨0, by decide, by rw [fI _ (by decide)]; exact i5, by rw [fI _ (by decide)]; exact i6, fun i h => absurd h (Nat.not_lt_zero _)⟩, ⟨m9 4 (by decide), fun i h => absurd h (Nat.not_lt_zero _)⟩, ⟨by decide, fun p h => absurd h List.not_mem_nil⟩, ⟨by rw [fI _ (by decide)]; exact i85, fun i h => absurd h (Nat.not_lt_zero _)⟩, ⟨m9 15 (by decide), fun i h => absurd h (Nat.not_lt_zero _)⟩, ⟨by rw [fI _ (by decide)]; exact i87, by rw [fI _ (by decide)]; exact j87, m9 22 (by decide), m24⟩, Or.inl ⟨rfl, m9 7 (by decide), rfl⟩⟩
  · exact ⟨by decide, by decide, ⟨by decide, fun x h => absurd h List.not_mem_nil⟩, ⟨by decide, fun x h => absurd h List.not_mem_nil⟩, ⟨by decide, fun x h => absurd h List.not_mem_nil⟩, fun l h => absurd h (Nat.not_lt_zero _), Nat.zero_le _, fun _ _ _ _ _ => rfl, by decide, fun e h => absurd h List.not_mem_nil, fun k _ => ⟨Nat.zero_le _, fun u h => absurd h List.not_mem_nil⟩⟩
  · exact ⟨z1 13, z1 10, z1 15, z1 14, mz 4 (by decide) (by decide) (by decide) (by decide), mz 6 (by decide) (by decide) (by decide) (by decide), mz 8 (by decide) (by decide) (by decide) (by decide), fun l h => absurd h (Nat.not_lt_zero _), ⟨fun j _ => z 10 (by decide) (by decide) (by decide) (by decide) j, z1 11, fun j _ => z 11 (by decide) (by decide) (by decide) (by decide) j⟩, ⟨z1 12, fun i h => absurd h (Nat.not_lt_zero _)⟩, rr, by rw [fJ _ (by decide)]; exact zJ⟩
  · exact ⟨m 0, m 1, m 3, m 4, ⟨m 6, fun i h => absurd h (Nat.not_lt_zero _)⟩, ⟨m 7, fun i h => absurd h (Nat.not_lt_zero _)⟩, ⟨m 8, fun i h => absurd h (Nat.not_lt_zero _)⟩, fun l h => absurd h (Nat.not_lt_zero _), ⟨fun l _ x _ => m _, m 2, Nat.zero_le _, fun j _ => m _⟩, ⟨m 5, fun i h => absurd h (Nat.not_lt_zero _)⟩, fun k _ => ⟨m _, fun i h => absurd h (Nat.not_lt_zero _)⟩, mJ⟩
theorem lw_cmp {n i : Nat} (hn : n ≤ 3584) (hi : i ≤ 3600) : (nI n - 7 < nI i) ↔ n < i + 7 := by
  by_cases h : 7 ≤ n
  · rw [show nI n - 7 = nI (n - 7) from ni_sR (b := 7) h]
    simp (disch := omega) only [nI_ltI]
    omega
  · have e : nI n - 7 < 0 := by
      rcases (show n = 0 ∨ n = 1 ∨ n = 2 ∨ n = 3 ∨ n = 4 ∨ n = 5 ∨ n = 6 by omega) with rfl | rfl | rfl | rfl | rfl | rfl | rfl <;> decide
    have p : ¬ nI i < 0 := nI_pos (by omega)
    refine ⟨fun _ => by omega, fun _ => ?_⟩
    rw [Int32.lt_iff_toInt_lt] at e p ⊢
    omega
