/-! constructors: the world -/
def wf (k : Nat) : Nat := [1, 2, 3, 5, 7, 9, 10, 11, 12, 13].getD k 0
/-- the world at w, c of its cells made, m of its fields set, l lines, r rules -/
def WS (pre : mj_S) (w : Nat) (P0 : mj_P) (I0 : mj_I) (J0 : mj_J) (c m l r : Nat) (sh : mj_S) (P : mj_P) (I : mj_I) (J : mj_J) : Prop := sh = pre ++ kwE.take c ∧ (∀ b, b < w → P b = P0 b) ∧ (∀ b, b < w → I b = I0 b) ∧ (∀ b, b < w → J b = J0 b) ∧ (∀ b, w ≤ b → b < w + c → b ≠ w + 1 → b ≠ w + 2 → ∀ j, I b j = 0) ∧ (∀ k, k < m → P w k = some (w + wf k)) ∧ (∀ i, i < 3 → 4 + 2 * i < c → P (w + 3 + 2 * i) 0 = some (w + 4 + 2 * i)) ∧ (∀ j, j < l → P (w + 1) j = some (w + 14 + j)) ∧ (∀ j, j < r → P (w + 2) j = some (w + 26 + 7 * j) ∧ ∀ i, i < 6 → P (w + 26 + 7 * j) i = some (w + 27 + 7 * j + i)) ∧ J w 16 = 0
theorem tk_1 {c : Nat} {x : Nat × Nat} (h : kwE[c]? = some x) : kwE.take (c + 1) = kwE.take c ++ [x] := by
  rw [List.take_add_one, h]
  rfl
theorem kwE_len : kwE.length = 54 := rfl
theorem WS_len {pre : mj_S} {w : Nat} {P0 : mj_P} {I0 : mj_I} {J0 : mj_J} {c m l r : Nat} {sh : mj_S} {P : mj_P} {I : mj_I} {J : mj_J} (h : WS pre w P0 I0 J0 c m l r sh P I J) (hp : pre.length = w) (hc : c ≤ 54) : sh.length = w + c := by
  rw [h.1, List.length_append, List.length_take, kwE_len, hp]
  omega
theorem WS_kd {pre : mj_S} {w : Nat} {P0 : mj_P} {I0 : mj_I} {J0 : mj_J} {c m l r : Nat} {sh : mj_S} {P : mj_P} {I : mj_I} {J : mj_J} (h : WS pre w P0 I0 J0 c m l r sh P I J) (hp : pre.length = w) (hc : c ≤ 54) {k : Nat} (hk : k < c) (X9 : mj_S) : mj_kd (sh ++ X9) (w + k) = mj_kd kwE k := by
  rw [kd_ap (by rw [WS_len h hp hc]; omega), h.1, kd_pre hp]
  unfold mj_kd
  rw [List.getD_eq_getElem?_getD, List.getD_eq_getElem?_getD, List.getElem?_take_of_lt hk]
theorem WS_ln {pre : mj_S} {w : Nat} {P0 : mj_P} {I0 : mj_I} {J0 : mj_J} {c m l r : Nat} {sh : mj_S} {P : mj_P} {I : mj_I} {J : mj_J} (h : WS pre w P0 I0 J0 c m l r sh P I J) (hp : pre.length = w) (hc : c ≤ 54) {k : Nat} (hk : k < c) (X9 : mj_S) : mj_ln (sh ++ X9) (w + k) = mj_ln kwE k := by
  have hl := WS_len h hp hc
  unfold mj_ln
  rw [List.getD_eq_getElem?_getD, List.getElem?_append_left (by omega), h.1, List.getElem?_append_right (by omega), show w + k - pre.length = k by omega, List.getElem?_take_of_lt hk, List.getD_eq_getElem?_getD]
theorem WS_R {pre : mj_S} {w : Nat} {P0 : mj_P} {I0 : mj_I} {J0 : mj_J} {c m : Nat} {sh : mj_S} {P : mj_P} {I : mj_I} {J : mj_J} {x : Nat × Nat} (h : WS pre w P0 I0 J0 c m 0 0 sh P I J) (hp : pre.length = w) (hx : kwE[c]? = some x) (hc : c = 1 ∨ c = 2) (hm : wf m = c) : WS pre w P0 I0 J0 (c + 1) (m + 1) 0 0 (sh ++ [x]) (mj_u (mj_w P sh.length (fun _ => none)) w m (some sh.length)) I J := by
  have hl := WS_len h hp (by omega)
  obtain ⟨h1, h2, h3, h4, h5, h6, h7, h8, h9, h10⟩ := h
  rw [hl]
  refine ⟨by rw [tk_1 hx, ← List.append_assoc, ← h1], fun b hb => by rw [mj_u_row _ _ _ _ (by omega), mj_w_row _ _ _ (by omega)]; exact h2 b hb, h3, h4, fun b b1 b2 b3 b4 j => h5 b b1 (by omega) b3 b4 j, fun k hk => ?_, fun i hi hi2 => by omega, fun _ h => absurd h (Nat.not_lt_zero _), fun _ h => absurd h (Nat.not_lt_zero _), h10⟩
  by_cases e : k = m
  · rw [e, mj_u_eq, hm]
  · rw [mj_u_ne2 _ _ _ _ e, mj_w_row _ _ _ (by omega)]; exact h6 k (by omega)
theorem WS_I {pre : mj_S} {w : Nat} {P0 : mj_P} {I0 : mj_I} {J0 : mj_J} {c m : Nat} {sh : mj_S} {P : mj_P} {I : mj_I} {J : mj_J} {x : Nat × Nat} (h : WS pre w P0 I0 J0 c m 0 0 sh P I J) (hp : pre.length = w) (hx : kwE[c]? = some x) (hc : 9 ≤ c ∧ c ≤ 53) (hm : wf m = c) : WS pre w P0 I0 J0 (c + 1) (m + 1) 0 0 (sh ++ [x]) (mj_u P w m (some sh.length)) (mj_w I sh.length (fun _ => 0)) J := by
  have hl := WS_len h hp (by omega)
  obtain ⟨h1, h2, h3, h4, h5, h6, h7, h8, h9, h10⟩ := h
  rw [hl]
  refine ⟨by rw [tk_1 hx, ← List.append_assoc, ← h1], fun b hb => by rw [mj_u_row _ _ _ _ (by omega)]; exact h2 b hb, fun b hb => by rw [mj_w_row _ _ _ (by omega)]; exact h3 b hb, h4, fun b b1 b2 b3 b4 j => ?_, fun k hk => ?_, fun i hi hi2 => by rw [mj_u_row _ _ _ _ (by omega)]; exact h7 i hi (by omega), fun _ h => absurd h (Nat.not_lt_zero _), fun _ h => absurd h (Nat.not_lt_zero _), h10⟩
  · by_cases e : b = w + c
    · rw [e, mj_w_eq]
    · rw [mj_w_row _ _ _ e]; exact h5 b b1 (by omega) b3 b4 j
  · by_cases e : k = m
    · rw [e, mj_u_eq, hm]
    · rw [mj_u_ne2 _ _ _ _ e]; exact h6 k (by omega)
theorem WS_M {pre : mj_S} {w : Nat} {P0 : mj_P} {I0 : mj_I} {J0 : mj_J} {c m : Nat} {sh : mj_S} {P P' : mj_P} {I I' : mj_I} {J : mj_J} (h : WS pre w P0 I0 J0 c m 0 0 sh P I J) (hp : pre.length = w) (hx : kwE[c]? = some (3, 0)) (hy : kwE[c + 1]? = some (13, 36)) (hc : c = 3 ∨ c = 5 ∨ c = 7) (hm : wf m = c) (q1 : P' sh.length 0 = some (sh.length + 1)) (q2 : ∀ b, b ≠ sh.length → P' b = mj_w P sh.length (fun _ => none) b) (q3 : ∀ j, I' sh.length j = 0) (q4 : ∀ j, I' (sh.length + 1) j = 0) (q5 : ∀ b, b ≠ sh.length → b ≠ sh.length + 1 → I' b = mj_w I sh.length (fun _ => 0) b) : WS pre w P0 I0 J0 (c + 2) (m + 1) 0 0 (sh ++ [(3, 0)] ++ [(13, 36)]) (mj_u P' w m (some sh.length)) I' (mj_w J sh.length (fun _ => 0)) := by
  have hl := WS_len h hp (by omega)
  obtain ⟨h1, h2, h3, h4, h5, h6, h7, h8, h9, h10⟩ := h
  rw [hl] at q1 q2 q3 q4 q5 ⊢
  refine ⟨by rw [tk_1 hy, tk_1 hx, ← List.append_assoc, ← List.append_assoc, ← h1], fun b hb => by rw [mj_u_row _ _ _ _ (by omega), q2 _ (by omega), mj_w_row _ _ _ (by omega)]; exact h2 b hb, fun b hb => by rw [q5 _ (by omega) (by omega), mj_w_row _ _ _ (by omega)]; exact h3 b hb, fun b hb => by rw [mj_w_row _ _ _ (by omega)]; exact h4 b hb, fun b b1 b2 b3 b4 j => ?_, fun k hk => ?_, fun i hi hi2 => ?_, fun _ h => absurd h (Nat.not_lt_zero _), fun _ h => absurd h (Nat.not_lt_zero _), by rw [mj_w_row _ _ _ (by omega)]; exact h10⟩
  · by_cases e : b = w + c
    · rw [e]; exact q3 j
    · by_cases e2 : b = w + c + 1
      · rw [e2]; exact q4 j
      · rw [q5 _ e e2, mj_w_row _ _ _ e]; exact h5 b b1 (by omega) b3 b4 j
  · by_cases e : k = m
    · rw [e, mj_u_eq, hm]
    · rw [mj_u_ne2 _ _ _ _ e, q2 _ (by omega), mj_w_row _ _ _ (by omega)]; exact h6 k (by omega)
  · rw [mj_u_row _ _ _ _ (by omega)]
    by_cases e : w + 3 + 2 * i = w + c
    · rw [e, q1]; congr 1; omega
    · rw [q2 _ e, mj_w_row _ _ _ e]; exact h7 i hi (by omega)
theorem WS_z {pre : mj_S} {w : Nat} {P0 : mj_P} {I0 : mj_I} {J0 : mj_J} {c m l r : Nat} {sh : mj_S} {P : mj_P} {I : mj_I} {J : mj_J} (k9 : Nat) (h : WS pre w P0 I0 J0 c m l r sh P I J) : WS pre w P0 I0 J0 c m l r sh P (mj_u I w k9 0) J := by
  obtain ⟨h1, h2, h3, h4, h5, h6, h7, h8, h9, h10⟩ := h
  refine ⟨h1, h2, fun b hb => by rw [mj_u_row _ _ _ _ (by omega)]; exact h3 b hb, h4, fun b b1 b2 b3 b4 j => ?_, h6, h7, h8, h9, h10⟩
  by_cases e : b = w
  · subst e
    by_cases e : j = k9
    · rw [e, mj_u_eq]
    · rw [mj_u_ne2 _ _ _ _ e]; exact h5 b b1 b2 b3 b4 j
  · rw [mj_u_row _ _ _ _ e]; exact h5 b b1 b2 b3 b4 j
theorem WS_zJ {pre : mj_S} {w : Nat} {P0 : mj_P} {I0 : mj_I} {J0 : mj_J} {c m l r : Nat} {sh : mj_S} {P : mj_P} {I : mj_I} {J : mj_J} (h : WS pre w P0 I0 J0 c m l r sh P I J) : WS pre w P0 I0 J0 c m l r sh P I (mj_u J w 16 0) := by
  obtain ⟨h1, h2, h3, h4, h5, h6, h7, h8, h9, h10⟩ := h
  exact ⟨h1, h2, h3, fun b hb => by rw [mj_u_row _ _ _ _ (by omega)]; exact h4 b hb, h5, h6, h7, h8, h9, mj_u_eq _ _ _ _⟩
theorem WS_L {pre : mj_S} {w : Nat} {P0 : mj_P} {I0 : mj_I} {J0 : mj_J} {i : Nat} {sh : mj_S} {P : mj_P} {I I' : mj_I} {J : mj_J} (h : WS pre w P0 I0 J0 (14 + i) 10 i 0 sh P I J) (hp : pre.length = w) (hi : i < 12) (q3 : ∀ j, I' sh.length j = 0) (q5 : ∀ b, b ≠ sh.length → I' b = mj_w I sh.length (fun _ => 0) b) : WS pre w P0 I0 J0 (14 + (i + 1)) 10 (i + 1) 0 (sh ++ [(2, 0)]) (mj_u (mj_w P sh.length (fun _ => none)) (w + 1) i (some sh.length)) I' (mj_w J sh.length (fun _ => 0)) := by
  have hl := WS_len h hp (by omega)
  obtain ⟨h1, h2, h3, h4, h5, h6, h7, h8, h9, h10⟩ := h
  have hx : kwE[14 + i]? = some (2, 0) := by
    rcases (show i = 0 ∨ i = 1 ∨ i = 2 ∨ i = 3 ∨ i = 4 ∨ i = 5 ∨ i = 6 ∨ i = 7 ∨ i = 8 ∨ i = 9 ∨ i = 10 ∨ i = 11 by omega) with rfl | rfl | rfl | rfl | rfl | rfl | rfl | rfl | rfl | rfl | rfl | rfl <;> rfl
  rw [hl] at q3 q5 ⊢
  refine ⟨by rw [show 14 + (i + 1) = 14 + i + 1 by omega, tk_1 hx, ← List.append_assoc, ← h1], fun b hb => by rw [mj_u_row _ _ _ _ (by omega), mj_w_row _ _ _ (by omega)]; exact h2 b hb, fun b hb => by rw [q5 _ (by omega), mj_w_row _ _ _ (by omega)]; exact h3 b hb, fun b hb => by rw [mj_w_row _ _ _ (by omega)]; exact h4 b hb, fun b b1 b2 b3 b4 j => ?_, fun k hk => by rw [mj_u_row _ _ _ _ (by omega), mj_w_row _ _ _ (by omega)]; exact h6 k hk, fun i hi hi2 => by rw [mj_u_row _ _ _ _ (by omega), mj_w_row _ _ _ (by omega)]; exact h7 i hi (by omega), fun j hj => ?_, fun _ h => absurd h (Nat.not_lt_zero _), by rw [mj_w_row _ _ _ (by omega)]; exact h10⟩
  · by_cases e : b = w + (14 + i)
    · rw [e]; exact q3 j
    · rw [q5 _ e, mj_w_row _ _ _ e]; exact h5 b b1 (by omega) b3 b4 j
  · by_cases e : j = i
    · rw [e, mj_u_eq, Nat.add_assoc]
    · rw [mj_u_ne2 _ _ _ _ e, mj_w_row _ _ _ (by omega)]; exact h8 j (by omega)
theorem WS_U {pre : mj_S} {w : Nat} {P0 : mj_P} {I0 : mj_I} {J0 : mj_J} {i : Nat} {sh : mj_S} {P P' : mj_P} {I I' : mj_I} {J : mj_J} (h : WS pre w P0 I0 J0 (26 + 7 * i) 10 12 i sh P I J) (hp : pre.length = w) (hi : i < 4) (q1 : ∀ i, i < 6 → P' sh.length i = some (sh.length + 1 + i)) (q2 : ∀ b, b ≠ sh.length → P' b = mj_w P sh.length (fun _ => none) b) (q3 : ∀ b, sh.length ≤ b → b < sh.length + 7 → ∀ j, I' b j = 0) (q5 : ∀ b, b < sh.length ∨ sh.length + 7 ≤ b → I' b = mj_w I sh.length (fun _ => 0) b) : WS pre w P0 I0 J0 (26 + 7 * (i + 1)) 10 12 (i + 1) (sh ++ [(7, 0)] ++ ruE) (mj_u P' (w + 2) i (some sh.length)) I' (mj_w J sh.length (fun _ => 0)) := by
  have hl := WS_len h hp (by omega)
  obtain ⟨h1, h2, h3, h4, h5, h6, h7, h8, h9, h10⟩ := h
  have hx : kwE.take (26 + 7 * (i + 1)) = kwE.take (26 + 7 * i) ++ [(7, 0)] ++ ruE := by
    rcases (show i = 0 ∨ i = 1 ∨ i = 2 ∨ i = 3 by omega) with rfl | rfl | rfl | rfl <;> rfl
  rw [hl] at q1 q2 q3 q5 ⊢
  refine ⟨by rw [hx, h1]; simp only [List.append_assoc], fun b hb => by rw [mj_u_row _ _ _ _ (by omega), q2 _ (by omega), mj_w_row _ _ _ (by omega)]; exact h2 b hb, fun b hb => by rw [q5 _ (by omega), mj_w_row _ _ _ (by omega)]; exact h3 b hb, fun b hb => by rw [mj_w_row _ _ _ (by omega)]; exact h4 b hb, fun b b1 b2 b3 b4 j => ?_, fun k hk => by rw [mj_u_row _ _ _ _ (by omega), q2 _ (by omega), mj_w_row _ _ _ (by omega)]; exact h6 k hk, fun i hi hi2 => by rw [mj_u_row _ _ _ _ (by omega), q2 _ (by omega), mj_w_row _ _ _ (by omega)]; exact h7 i hi (by omega), fun j hj => by rw [mj_u_row _ _ _ _ (by omega), q2 _ (by omega), mj_w_row _ _ _ (by omega)]; exact h8 j hj, fun j hj => ?_, by rw [mj_w_row _ _ _ (by omega)]; exact h10⟩
  · by_cases e : b < w + (26 + 7 * i)
    · rw [q5 _ (by omega), mj_w_row _ _ _ (by omega)]; exact h5 b b1 (by omega) b3 b4 j
    · exact q3 b (by omega) (by omega) j
  · by_cases e : j = i
    · subst e
      refine ⟨by rw [mj_u_eq]; congr 1; omega, fun k hk => ?_⟩
      rw [mj_u_row _ _ _ _ (by omega), show w + 26 + 7 * j = w + (26 + 7 * j) by omega, q1 k hk]
      congr 1; omega
    · have := h9 j (by omega)
      refine ⟨by rw [mj_u_ne2 _ _ _ _ e, q2 _ (by omega), mj_w_row _ _ _ (by omega)]; exact this.1, fun k hk => ?_⟩
      rw [mj_u_row _ _ _ _ (by omega), q2 _ (by omega), mj_w_row _ _ _ (by omega)]
      exact this.2 k hk
theorem WS_isW {pre : mj_S} {w : Nat} {P0 : mj_P} {I0 : mj_I} {J0 : mj_J} {sh : mj_S} {P : mj_P} {I : mj_I} {J : mj_J} (h : WS pre w P0 I0 J0 54 10 12 4 sh P I J) (hp : pre.length = w) : isW (pre ++ kwE) P w (fun k => w + 26 + 7 * k) := by
  obtain ⟨h1, h2, h3, h4, h5, h6, h7, h8, h9, h10⟩ := h
  have K : ∀ c, mj_kd (pre ++ kwE) (w + c) = mj_kd kwE c := fun c => kd_pre hp
  have L : ∀ c, mj_ln (pre ++ kwE) (w + c) = mj_ln kwE c := fun c => ln_pre hp
  refine ⟨K 0, ⟨h6 0 (by decide), h6 1 (by decide), h6 2 (by decide), h6 3 (by decide), h6 4 (by decide), h6 5 (by decide), h6 6 (by decide), h6 7 (by decide), h6 8 (by decide), h6 9 (by decide)⟩, ⟨K 1, L 1⟩, fun l hl => ⟨h8 l hl, ?_⟩, ⟨K 2, L 2⟩, fun k hk => ⟨(h9 k hk).1, ?_⟩, ⟨⟨K 3, h7 0 (by decide) (by decide), K 4, L 4⟩, ⟨K 5, h7 1 (by decide) (by decide), K 6, L 6⟩, ⟨K 7, h7 2 (by decide) (by decide), K 8, L 8⟩⟩, ⟨K 9, L 9⟩, ⟨K 10, L 10⟩, ⟨K 11, L 11⟩, ⟨K 12, L 12⟩, ⟨K 13, L 13⟩⟩
  · rw [Nat.add_assoc, K]
    rcases (show l = 0 ∨ l = 1 ∨ l = 2 ∨ l = 3 ∨ l = 4 ∨ l = 5 ∨ l = 6 ∨ l = 7 ∨ l = 8 ∨ l = 9 ∨ l = 10 ∨ l = 11 by omega) with rfl | rfl | rfl | rfl | rfl | rfl | rfl | rfl | rfl | rfl | rfl | rfl <;> rfl
  · have p := (h9 k hk).2
    rcases (show k = 0 ∨ k = 1 ∨ k = 2 ∨ k = 3 by omega) with rfl | rfl | rfl | rfl
    · exact ⟨K 26, p 0 (by decide), p 1 (by decide), p 2 (by decide), p 3 (by decide), p 4 (by decide), p 5 (by decide), K 27, K 28, K 29, K 30, K 31, K 32, L 27, L 28, L 29, L 30, L 31, L 32⟩
    · exact ⟨K 33, p 0 (by decide), p 1 (by decide), p 2 (by decide), p 3 (by decide), p 4 (by decide), p 5 (by decide), K 34, K 35, K 36, K 37, K 38, K 39, L 34, L 35, L 36, L 37, L 38, L 39⟩
    · exact ⟨K 40, p 0 (by decide), p 1 (by decide), p 2 (by decide), p 3 (by decide), p 4 (by decide), p 5 (by decide), K 41, K 42, K 43, K 44, K 45, K 46, L 41, L 42, L 43, L 44, L 45, L 46⟩
    · exact ⟨K 47, p 0 (by decide), p 1 (by decide), p 2 (by decide), p 3 (by decide), p 4 (by decide), p 5 (by decide), K 48, K 49, K 50, K 51, K 52, K 53, L 48, L 49, L 50, L 51, L 52, L 53⟩
