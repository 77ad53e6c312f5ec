/-! messages -/
theorem nlit (n : Nat) : (OfNat.ofNat n : Int32) = nI n := rfl
theorem vpn {x : Int32} {n k : Nat} (h : x = nI k) (hk : k < n) (hn : n < 2147483648) : vp_in x n := by rw [h]; exact vp_in_nI hk hn
/-- a message at a: its shape -/
def isM (sh : mj_S) (P : mj_P) (a : Nat) : Prop := mj_kd sh a = 3 ∧ P a 0 = some (a + 1) ∧ mj_kd sh (a + 1) = 13 ∧ mj_ln sh (a + 1) = 36
/-- and its digits -/
def mg (I : mj_I) (a : Nat) (l : List Nat) : Prop := I a 1 = nI l.length ∧ (∀ j, j < l.length → I (a + 1) j = nI (l.getD j 0)) ∧ l.length ≤ 36 ∧ ∀ x ∈ l, x < 10
theorem gD {l : List Nat} {i : Nat} (h : i < l.length) : l.getD i 0 = l[i] := by simp [List.getD_eq_getElem?_getD, h]
theorem gDm {l : List Nat} {i : Nat} (h : i < l.length) : l.getD i 0 ∈ l := by rw [gD h]; exact List.getElem_mem _
theorem mg_congr {I I' : mj_I} {a : Nat} {l : List Nat} (h : mg I a l) (h1 : I' a = I a) (h2 : I' (a + 1) = I (a + 1)) : mg I' a l := by
  unfold mg
  rw [h1, h2]
  exact h
theorem M_clear {d : Nat} {sh : mj_S} {P : mj_P} {I : mj_I} {J : mj_J} {Q : mj_Q} {a : Nat} (hk : mj_kd sh a = 3) (hQ : ∀ I', mg I' a [] → (∀ b, b ≠ a → I' b = I b) → Q none sh P I' J) : mj_ret mj_pr (d + 1) n_Message_clear [.ref a] (0, 0) sh P I J Q := by
  refine mj_in2 1 t_Message_clear rfl rfl (fun X cr C F => ?_)
  repeat (first | (apply F; conv => whnf) | (refine ⟨rfl, ?_⟩) | (refine ⟨vpk (by decide) ?_, ?_⟩; rfl) | (refine ⟨fun h => absurd h (by decide), fun _ => ?_⟩) | (refine ⟨fun _ => ?_, fun h => absurd (by decide) h⟩) | (refine ⟨fun h => absurd (by decide) h, fun _ => ?_⟩) | (refine ⟨fun _ => ?_, fun h => absurd h (by decide)⟩) | (refine ⟨by assumption, ?_⟩) | fail)
  refine hQ _ ⟨mj_u_eq I a 1 0, fun j hj => absurd hj (Nat.not_lt_zero j), by decide, fun x hx => by cases hx⟩ (fun b hb => mj_u_row I a 1 0 hb)
theorem M_append {d : Nat} {sh : mj_S} {P : mj_P} {I : mj_I} {J : mj_J} {Q : mj_Q} {a x : Nat} {l : List Nat} (hM : isM sh P a) (h : mg I a l) (hx : x < 10) (hQ : ∀ I', mg I' a ((l ++ [x]).take 36) → (∀ b, b ≠ a → b ≠ a + 1 → I' b = I b) → Q none sh P I' J) : mj_ret mj_pr (d + 1) n_Message_append [.ref a, .int (nI x)] (0, 0) sh P I J Q := by
  obtain ⟨k1, hp, k2, hl⟩ := hM
  obtain ⟨g1, g2, g3, g4⟩ := id h
  refine mj_in2 2 t_Message_append rfl rfl (fun X cr C F => ?_)
  repeat (first | (apply F; conv => whnf) | (refine ⟨rfl, ?_⟩) | (refine ⟨vpk (by decide) ?_, ?_⟩; rfl) | (refine ⟨fun h => absurd h (by decide), fun _ => ?_⟩) | (refine ⟨fun _ => ?_, fun h => absurd (by decide) h⟩) | (refine ⟨fun h => absurd (by decide) h, fun _ => ?_⟩) | (refine ⟨fun _ => ?_, fun h => absurd h (by decide)⟩) | (refine ⟨by assumption, ?_⟩) | (rw [hp]; conv => whnf) | fail)
  rw [k2, hl]
  refine ⟨by decide, ?_⟩
  repeat (first | (apply F; conv => whnf) | (refine ⟨rfl, ?_⟩) | (refine ⟨vpk (by decide) ?_, ?_⟩; rfl) | (refine ⟨fun h => absurd h (by decide), fun _ => ?_⟩) | (refine ⟨fun _ => ?_, fun h => absurd (by decide) h⟩) | (refine ⟨fun h => absurd (by decide) h, fun _ => ?_⟩) | (refine ⟨fun _ => ?_, fun h => absurd h (by decide)⟩) | (refine ⟨by assumption, ?_⟩) | (rw [hp]; conv => whnf) | fail)
  rw [g1]
  refine ⟨fun q => ?_, fun q => ?_⟩
  · repeat (first | (apply F; conv => whnf) | (refine ⟨rfl, ?_⟩) | (refine ⟨vpk (by decide) ?_, ?_⟩; rfl) | (refine ⟨fun h => absurd h (by decide), fun _ => ?_⟩) | (refine ⟨fun _ => ?_, fun h => absurd (by decide) h⟩) | (refine ⟨fun h => absurd (by decide) h, fun _ => ?_⟩) | (refine ⟨fun _ => ?_, fun h => absurd h (by decide)⟩) | (refine ⟨by assumption, ?_⟩) | (rw [hp]; conv => whnf) | fail)
    have e : l.length = 36 := by
      have : 36 ≤ l.length := (nI_leI (by decide) (by omega)).mp q
      omega
    refine hQ I ?_ (fun _ _ _ => rfl)
    rw [List.take_append_of_le_length (by omega), List.take_of_length_le (by omega)]
    exact h
  · have e : l.length < 36 := by
      rcases Nat.lt_or_ge l.length 36 with z | z
      · exact z
      · exact absurd (nI_le z (by omega)) q
    repeat (first | (apply F; conv => whnf) | (refine ⟨rfl, ?_⟩) | (refine ⟨vpk (by decide) ?_, ?_⟩; rfl) | (refine ⟨fun h => absurd h (by decide), fun _ => ?_⟩) | (refine ⟨fun _ => ?_, fun h => absurd (by decide) h⟩) | (refine ⟨fun h => absurd (by decide) h, fun _ => ?_⟩) | (refine ⟨fun _ => ?_, fun h => absurd h (by decide)⟩) | (refine ⟨by assumption, ?_⟩) | (rw [hp]; conv => whnf) | fail)
    rw [hl, g1]
    refine ⟨vp_in_nI e (by decide), ?_⟩
    repeat (first | (apply F; conv => whnf) | (refine ⟨rfl, ?_⟩) | (refine ⟨vpk (by decide) ?_, ?_⟩; rfl) | (refine ⟨fun h => absurd h (by decide), fun _ => ?_⟩) | (refine ⟨fun _ => ?_, fun h => absurd (by decide) h⟩) | (refine ⟨fun h => absurd (by decide) h, fun _ => ?_⟩) | (refine ⟨fun _ => ?_, fun h => absurd h (by decide)⟩) | (refine ⟨by assumption, ?_⟩) | (rw [hp]; conv => whnf) | fail)
    rw [nI_clamp (by omega)]
    have e1 : mj_u I (a + 1) l.length (nI x) a 1 = nI l.length := by rw [mj_u_ne1 _ _ _ _ (by omega)]; exact g1
    rw [e1]
    refine hQ _ ⟨?_, ?_, ?_, ?_⟩ ?_
    · rw [mj_u_eq, List.take_of_length_le (by simp; omega)]
      simp [nI_succ]
    · intro j hj
      rw [List.take_of_length_le (by simp; omega)] at hj ⊢
      rw [mj_u_ne1 _ _ _ _ (by omega)]
      by_cases ej : j = l.length
      · subst ej
        rw [mj_u_eq]
        simp
      · simp at hj
        rw [mj_u_ne2 _ _ _ _ ej, g2 j (by omega)]
        rw [List.getD_eq_getElem?_getD, List.getD_eq_getElem?_getD, List.getElem?_append_left (by omega)]
    · simp; omega
    · intro z hz
      have hz := List.mem_of_mem_take hz
      rcases List.mem_append.mp hz with hz | hz
      · exact g4 z hz
      · simp at hz; omega
    · intro b hb1 hb2
      rw [mj_u_row _ _ _ _ hb1, mj_u_row _ _ _ _ hb2]
theorem i32_dec (x : Int32) {n : Nat} (hn : n < 2147483648) : (∃ k, k < n ∧ x = nI k) ∨ (x < 0 ∨ nI n ≤ x) := by
  rcases pk_ix x hn with h | h | ⟨j, h1, h2⟩
  · exact Or.inr (Or.inl h)
  · exact Or.inr (Or.inr h)
  · exact Or.inl ⟨j, h1, h2⟩
theorem M_digitAt {d : Nat} {sh : mj_S} {P : mj_P} {I : mj_I} {J : mj_J} {Q : mj_Q} {a : Nat} {i o : Int32} {l : List Nat} (hM : isM sh P a) (h : mg I a l) (h1 : ∀ k, k < l.length → i = nI k → Q (some (.int (nI (l.getD k 0)))) sh P I J) (h0 : (i < 0 ∨ nI l.length ≤ i) → Q (some (.int o)) sh P I J) : mj_ret mj_pr (d + 1) n_Message_digitAt [.ref a, .int i, .int o] (0, 0) sh P I J Q := by
  obtain ⟨k1, hp, k2, hl⟩ := hM
  obtain ⟨g1, g2, g3, g4⟩ := id h
  refine mj_in2 3 t_Message_digitAt rfl rfl (fun X cr C F => ?_)
  repeat (first | (apply F; conv => whnf) | (refine ⟨rfl, ?_⟩) | (refine ⟨vpk (by decide) ?_, ?_⟩; rfl) | (refine ⟨fun h => absurd h (by decide), fun _ => ?_⟩) | (refine ⟨fun _ => ?_, fun h => absurd (by decide) h⟩) | (refine ⟨fun h => absurd (by decide) h, fun _ => ?_⟩) | (refine ⟨fun _ => ?_, fun h => absurd h (by decide)⟩) | (refine ⟨by assumption, ?_⟩) | (rw [hp]; conv => whnf) | fail)
  refine ⟨fun q => ?_, fun q => ?_⟩
  · repeat (first | (apply F; conv => whnf) | (refine ⟨rfl, ?_⟩) | (refine ⟨vpk (by decide) ?_, ?_⟩; rfl) | (refine ⟨fun h => absurd h (by decide), fun _ => ?_⟩) | (refine ⟨fun _ => ?_, fun h => absurd (by decide) h⟩) | (refine ⟨fun h => absurd (by decide) h, fun _ => ?_⟩) | (refine ⟨fun _ => ?_, fun h => absurd h (by decide)⟩) | (refine ⟨by assumption, ?_⟩) | (rw [hp]; conv => whnf) | fail)
    exact h0 (Or.inl q)
  · repeat (first | (apply F; conv => whnf) | (refine ⟨rfl, ?_⟩) | (refine ⟨vpk (by decide) ?_, ?_⟩; rfl) | (refine ⟨fun h => absurd h (by decide), fun _ => ?_⟩) | (refine ⟨fun _ => ?_, fun h => absurd (by decide) h⟩) | (refine ⟨fun h => absurd (by decide) h, fun _ => ?_⟩) | (refine ⟨fun _ => ?_, fun h => absurd h (by decide)⟩) | (refine ⟨by assumption, ?_⟩) | (rw [hp]; conv => whnf) | fail)
    rw [g1]
    refine ⟨fun q2 => ?_, fun q2 => ?_⟩
    · repeat (first | (apply F; conv => whnf) | (refine ⟨rfl, ?_⟩) | (refine ⟨vpk (by decide) ?_, ?_⟩; rfl) | (refine ⟨fun h => absurd h (by decide), fun _ => ?_⟩) | (refine ⟨fun _ => ?_, fun h => absurd (by decide) h⟩) | (refine ⟨fun h => absurd (by decide) h, fun _ => ?_⟩) | (refine ⟨fun _ => ?_, fun h => absurd h (by decide)⟩) | (refine ⟨by assumption, ?_⟩) | (rw [hp]; conv => whnf) | fail)
      exact h0 (Or.inr q2)
    · rcases i32_dec i (show l.length < 2147483648 by omega) with ⟨k, hk, rfl⟩ | z | z
      · repeat (first | (apply F; conv => whnf) | (refine ⟨rfl, ?_⟩) | (refine ⟨vpk (by decide) ?_, ?_⟩; rfl) | (refine ⟨fun h => absurd h (by decide), fun _ => ?_⟩) | (refine ⟨fun _ => ?_, fun h => absurd (by decide) h⟩) | (refine ⟨fun h => absurd (by decide) h, fun _ => ?_⟩) | (refine ⟨fun _ => ?_, fun h => absurd h (by decide)⟩) | (refine ⟨by assumption, ?_⟩) | (rw [hp]; conv => whnf) | fail)
        rw [hl]
        refine ⟨vp_in_nI (by omega) (by decide), ?_⟩
        repeat (first | (apply F; conv => whnf) | (refine ⟨rfl, ?_⟩) | (refine ⟨vpk (by decide) ?_, ?_⟩; rfl) | (refine ⟨fun h => absurd h (by decide), fun _ => ?_⟩) | (refine ⟨fun _ => ?_, fun h => absurd (by decide) h⟩) | (refine ⟨fun h => absurd (by decide) h, fun _ => ?_⟩) | (refine ⟨fun _ => ?_, fun h => absurd h (by decide)⟩) | (refine ⟨by assumption, ?_⟩) | (rw [hp]; conv => whnf) | fail)
        rw [nI_clamp (by omega), g2 k hk]
        exact h1 k hk rfl
      · exact absurd z q
      · exact absurd z q2
theorem va_cpy_all {f g : Nat → Int32} {n j : Nat} (h : j < n) : va_cpy f g 0 0 n j = f j := by
  unfold va_cpy
  rw [if_pos ⟨Nat.zero_le _, by omega⟩]
  congr 1
  omega
theorem M_copyFrom {d : Nat} {sh : mj_S} {P : mj_P} {I : mj_I} {J : mj_J} {Q : mj_Q} {a b : Nat} {l : List Nat} (hM : isM sh P a) (hN : isM sh P b) (h : mg I b l) (hab : a ≠ b + 1) (hQ : ∀ I', mg I' a l → (∀ c, c ≠ a → c ≠ a + 1 → I' c = I c) → Q none sh P I' J) : mj_ret mj_pr (d + 1) n_Message_copyFrom [.ref a, .ref b] (0, 0) sh P I J Q := by
  obtain ⟨k1, hp, k2, hl⟩ := hM
  obtain ⟨m1, hq, m2, ml⟩ := hN
  obtain ⟨g1, g2, g3, g4⟩ := id h
  refine mj_in2 2 t_Message_copyFrom rfl rfl (fun X cr C F => ?_)
  repeat (first | (apply F; conv => whnf) | (refine ⟨rfl, ?_⟩) | (refine ⟨vpk (by decide) ?_, ?_⟩; rfl) | (refine ⟨fun h => absurd h (by decide), fun _ => ?_⟩) | (refine ⟨fun _ => ?_, fun h => absurd (by decide) h⟩) | (refine ⟨fun h => absurd (by decide) h, fun _ => ?_⟩) | (refine ⟨fun _ => ?_, fun h => absurd h (by decide)⟩) | (refine ⟨by assumption, ?_⟩) | (rw [hp]; conv => whnf) | (rw [hq]; conv => whnf) | fail)
  refine ⟨⟨m2, k2⟩, by decide, ⟨by rw [ml]; decide, by rw [hl]; decide⟩, ?_⟩
  repeat (first | (apply F; conv => whnf) | (refine ⟨rfl, ?_⟩) | (refine ⟨vpk (by decide) ?_, ?_⟩; rfl) | (refine ⟨fun h => absurd h (by decide), fun _ => ?_⟩) | (refine ⟨fun _ => ?_, fun h => absurd (by decide) h⟩) | (refine ⟨fun h => absurd (by decide) h, fun _ => ?_⟩) | (refine ⟨fun _ => ?_, fun h => absurd h (by decide)⟩) | (refine ⟨by assumption, ?_⟩) | (rw [hp]; conv => whnf) | (rw [hq]; conv => whnf) | fail)
  have e1 : ∀ f : Nat → Int32, mj_w I (a + 1) f b 1 = I b 1 := fun f => by
    by_cases z : b = a + 1
    · exfalso
      rw [z] at m1
      rw [m1] at k2
      cases k2
    · rw [mj_w_ne _ _ z]
  rw [e1, g1]
  refine hQ _ ⟨mj_u_eq _ _ _ _, fun j hj => ?_, g3, g4⟩ (fun c c1 c2 => ?_)
  · rw [mj_u_ne1 _ _ _ _ (by omega), mj_w_eq]
    have e2 : va_cpy (I (b + 1)) (I (a + 1)) (Int32.toNatClampNeg 0) (Int32.toNatClampNeg 0) (Int32.toNatClampNeg 36) j = I (b + 1) j := va_cpy_all (by show j < 36; omega)
    rw [e2]
    exact g2 j hj
  · rw [mj_u_row _ _ _ _ c1, mj_w_row _ _ _ c2]
theorem M_sameAs {d : Nat} {sh : mj_S} {P : mj_P} {I : mj_I} {J : mj_J} {Q : mj_Q} {a b : Nat} {l k : List Nat} (hM : isM sh P a) (hN : isM sh P b) (h : mg I a l) (h' : mg I b k) (h1 : l = k → Q (some (.int 1)) sh P I J) (h0 : l ≠ k → Q (some (.int 0)) sh P I J) : mj_ret mj_pr (d + 1) n_Message_sameAs [.ref a, .ref b] (0, 0) sh P I J Q := by
  obtain ⟨k1, hp, k2, hl⟩ := hM
  obtain ⟨m1, hq, m2, ml⟩ := hN
  obtain ⟨g1, g2, g3, g4⟩ := id h
  obtain ⟨f1, f2, f3, f4⟩ := id h'
  refine mj_in2 3 t_Message_sameAs rfl rfl (fun X cr C F => ?_)
  repeat (first | (apply F; conv => whnf) | (refine ⟨rfl, ?_⟩) | (refine ⟨vpk (by decide) ?_, ?_⟩; rfl) | (refine ⟨fun h => absurd h (by decide), fun _ => ?_⟩) | (refine ⟨fun _ => ?_, fun h => absurd (by decide) h⟩) | (refine ⟨fun h => absurd (by decide) h, fun _ => ?_⟩) | (refine ⟨fun _ => ?_, fun h => absurd h (by decide)⟩) | (refine ⟨by assumption, ?_⟩) | (rw [hp]; conv => whnf) | (rw [hq]; conv => whnf) | fail)
  rw [g1, f1]
  refine ⟨fun q => ?_, fun q => ?_⟩
  · have el : l.length = k.length := (nI_eq (by omega) (by omega)).mp q
    repeat (first | ((fail_if_success (show X 15 _ _ _ _ _ _ _)); apply F; conv => whnf) | (refine ⟨rfl, ?_⟩) | (refine ⟨vpk (by decide) ?_, ?_⟩; rfl) | (refine ⟨fun h => absurd h (by decide), fun _ => ?_⟩) | (refine ⟨fun _ => ?_, fun h => absurd (by decide) h⟩) | (refine ⟨fun h => absurd (by decide) h, fun _ => ?_⟩) | (refine ⟨fun _ => ?_, fun h => absurd h (by decide)⟩) | (refine ⟨by assumption, ?_⟩) | (rw [hp]; conv => whnf) | (rw [hq]; conv => whnf) | fail)
    have loop : ∀ m i, i + m = l.length → (∀ j, j < i → l.getD j 0 = k.getD j 0) → X 15 [some (.ref a), some (.ref b), some (.int (nI i))] [] (0, 0) sh P I J := by
      intro m
      induction m with
      | zero =>
        intro i hi hs
        (apply F; conv => whnf)
        repeat (first | ((fail_if_success (show X 15 _ _ _ _ _ _ _)); apply F; conv => whnf) | (refine ⟨rfl, ?_⟩) | (refine ⟨vpk (by decide) ?_, ?_⟩; rfl) | (refine ⟨fun h => absurd h (by decide), fun _ => ?_⟩) | (refine ⟨fun _ => ?_, fun h => absurd (by decide) h⟩) | (refine ⟨fun h => absurd (by decide) h, fun _ => ?_⟩) | (refine ⟨fun _ => ?_, fun h => absurd h (by decide)⟩) | (refine ⟨by assumption, ?_⟩) | (rw [hp]; conv => whnf) | (rw [hq]; conv => whnf) | fail)
        rw [g1]
        refine ⟨fun q => ?_, fun q => absurd (nI_le (by omega) (by omega)) q⟩
        repeat (first | (apply F; conv => whnf) | (refine ⟨rfl, ?_⟩) | (refine ⟨vpk (by decide) ?_, ?_⟩; rfl) | (refine ⟨fun h => absurd h (by decide), fun _ => ?_⟩) | (refine ⟨fun _ => ?_, fun h => absurd (by decide) h⟩) | (refine ⟨fun h => absurd (by decide) h, fun _ => ?_⟩) | (refine ⟨fun _ => ?_, fun h => absurd h (by decide)⟩) | (refine ⟨by assumption, ?_⟩) | (rw [hp]; conv => whnf) | (rw [hq]; conv => whnf) | fail)
        refine h1 ?_
        apply List.ext_getElem el
        intro j hj1 hj2
        have := hs j (by omega)
        rw [gD hj1, gD hj2] at this
        exact this
      | succ m ih =>
        intro i hi hs
        (apply F; conv => whnf)
        repeat (first | ((fail_if_success (show X 15 _ _ _ _ _ _ _)); apply F; conv => whnf) | (refine ⟨rfl, ?_⟩) | (refine ⟨vpk (by decide) ?_, ?_⟩; rfl) | (refine ⟨fun h => absurd h (by decide), fun _ => ?_⟩) | (refine ⟨fun _ => ?_, fun h => absurd (by decide) h⟩) | (refine ⟨fun h => absurd (by decide) h, fun _ => ?_⟩) | (refine ⟨fun _ => ?_, fun h => absurd h (by decide)⟩) | (refine ⟨by assumption, ?_⟩) | (rw [hp]; conv => whnf) | (rw [hq]; conv => whnf) | fail)
        rw [g1]
        refine ⟨fun q => absurd q (nI_ge (by omega) (by omega)), fun q => ?_⟩
        repeat (first | ((fail_if_success (show X 15 _ _ _ _ _ _ _)); apply F; conv => whnf) | (refine ⟨rfl, ?_⟩) | (refine ⟨vpk (by decide) ?_, ?_⟩; rfl) | (refine ⟨fun h => absurd h (by decide), fun _ => ?_⟩) | (refine ⟨fun _ => ?_, fun h => absurd (by decide) h⟩) | (refine ⟨fun h => absurd (by decide) h, fun _ => ?_⟩) | (refine ⟨fun _ => ?_, fun h => absurd h (by decide)⟩) | (refine ⟨by assumption, ?_⟩) | (rw [hp]; conv => whnf) | (rw [hq]; conv => whnf) | fail)
        rw [hl]
        refine ⟨vp_in_nI (by omega) (by decide), ?_⟩
        repeat (first | ((fail_if_success (show X 15 _ _ _ _ _ _ _)); apply F; conv => whnf) | (refine ⟨rfl, ?_⟩) | (refine ⟨vpk (by decide) ?_, ?_⟩; rfl) | (refine ⟨fun h => absurd h (by decide), fun _ => ?_⟩) | (refine ⟨fun _ => ?_, fun h => absurd (by decide) h⟩) | (refine ⟨fun h => absurd (by decide) h, fun _ => ?_⟩) | (refine ⟨fun _ => ?_, fun h => absurd h (by decide)⟩) | (refine ⟨by assumption, ?_⟩) | (rw [hp]; conv => whnf) | (rw [hq]; conv => whnf) | fail)
        rw [ml]
        refine ⟨vp_in_nI (by omega) (by decide), ?_⟩
        repeat (first | ((fail_if_success (show X 15 _ _ _ _ _ _ _)); apply F; conv => whnf) | (refine ⟨rfl, ?_⟩) | (refine ⟨vpk (by decide) ?_, ?_⟩; rfl) | (refine ⟨fun h => absurd h (by decide), fun _ => ?_⟩) | (refine ⟨fun _ => ?_, fun h => absurd (by decide) h⟩) | (refine ⟨fun h => absurd (by decide) h, fun _ => ?_⟩) | (refine ⟨fun _ => ?_, fun h => absurd h (by decide)⟩) | (refine ⟨by assumption, ?_⟩) | (rw [hp]; conv => whnf) | (rw [hq]; conv => whnf) | fail)
        rw [nI_clamp (by omega), g2 i (by omega), f2 i (by omega)]
        have b1 : l.getD i 0 < 10 := by
          rw [gD (show i < l.length by omega)]; exact g4 _ (List.getElem_mem _)
        have b2 : k.getD i 0 < 10 := by
          rw [gD (show i < k.length by omega)]; exact f4 _ (List.getElem_mem _)
        refine ⟨fun q => ?_, fun q => ?_⟩
        · repeat (first | ((fail_if_success (show X 15 _ _ _ _ _ _ _)); apply F; conv => whnf) | (refine ⟨rfl, ?_⟩) | (refine ⟨vpk (by decide) ?_, ?_⟩; rfl) | (refine ⟨fun h => absurd h (by decide), fun _ => ?_⟩) | (refine ⟨fun _ => ?_, fun h => absurd (by decide) h⟩) | (refine ⟨fun h => absurd (by decide) h, fun _ => ?_⟩) | (refine ⟨fun _ => ?_, fun h => absurd h (by decide)⟩) | (refine ⟨by assumption, ?_⟩) | (rw [hp]; conv => whnf) | (rw [hq]; conv => whnf) | fail)
          have e := (nI_eq (by omega) (by omega)).mp q
          rw [nI_1]
          exact ih (i + 1) (by omega) (fun j hj => by
            by_cases z : j = i
            · rw [z]; exact e
            · exact hs j (by omega))
        · repeat (first | ((fail_if_success (show X 15 _ _ _ _ _ _ _)); apply F; conv => whnf) | (refine ⟨rfl, ?_⟩) | (refine ⟨vpk (by decide) ?_, ?_⟩; rfl) | (refine ⟨fun h => absurd h (by decide), fun _ => ?_⟩) | (refine ⟨fun _ => ?_, fun h => absurd (by decide) h⟩) | (refine ⟨fun h => absurd (by decide) h, fun _ => ?_⟩) | (refine ⟨fun _ => ?_, fun h => absurd h (by decide)⟩) | (refine ⟨by assumption, ?_⟩) | (rw [hp]; conv => whnf) | (rw [hq]; conv => whnf) | fail)
          exact h0 (fun z => q (by rw [z]))
    exact loop l.length 0 (by omega) (fun j hj => absurd hj (Nat.not_lt_zero j))
  · repeat (first | (apply F; conv => whnf) | (refine ⟨rfl, ?_⟩) | (refine ⟨vpk (by decide) ?_, ?_⟩; rfl) | (refine ⟨fun h => absurd h (by decide), fun _ => ?_⟩) | (refine ⟨fun _ => ?_, fun h => absurd (by decide) h⟩) | (refine ⟨fun h => absurd (by decide) h, fun _ => ?_⟩) | (refine ⟨fun _ => ?_, fun h => absurd h (by decide)⟩) | (refine ⟨by assumption, ?_⟩) | (rw [hp]; conv => whnf) | (rw [hq]; conv => whnf) | fail)
    exact h0 (fun z => q (by rw [z]))
/-- the number that a row of digits writes -/
def nv : List Nat → Nat → Nat
  | [], a => a
  | x :: r, a => nv r (a * 10 + x)
theorem nv_snoc (l : List Nat) (x a : Nat) : nv (l ++ [x]) a = nv l a * 10 + x := by
  induction l generalizing a with
  | nil => rfl
  | cons y r ih => exact ih (a * 10 + y)
theorem nv_lt : ∀ (l : List Nat) (a : Nat), (∀ x ∈ l, x < 10) → nv l a < (a + 1) * 10 ^ l.length
  | [], a, _ => by simp [nv]
  | x :: r, a, h => by
    have h1 := nv_lt r (a * 10 + x) (fun y hy => h y (List.mem_cons_of_mem _ hy))
    have h2 := h x List.mem_cons_self
    refine Nat.lt_of_lt_of_le h1 ?_
    rw [List.length_cons, Nat.pow_succ, Nat.mul_comm (10 ^ r.length) 10, ← Nat.mul_assoc]
    exact Nat.mul_le_mul_right _ (by omega)
/-- VALUE: the last nine digits -/
def valu (l : List Nat) : Nat := nv (l.drop (l.length - 9)) 0
theorem drop_take_snoc {l : List Nat} {o i : Nat} (h1 : o ≤ i) (h2 : i < l.length) : (l.take (i + 1)).drop o = (l.take i).drop o ++ [l.getD i 0] := by
  rw [gD h2, List.take_succ_eq_append_getElem h2, List.drop_append_of_le_length (by rw [List.length_take]; omega)]
theorem lN_mul10 (n : Nat) : lN n * 10 = lN (n * 10) := by
  rw [← lN_mul]; rfl
theorem M_value {d : Nat} {sh : mj_S} {P : mj_P} {I : mj_I} {J : mj_J} {Q : mj_Q} {a : Nat} {l : List Nat} (hM : isM sh P a) (h : mg I a l) (hQ : Q (some (.long (lN (valu l)))) sh P I J) : mj_ret mj_pr (d + 1) n_Message_value [.ref a] (0, 0) sh P I J Q := by
  obtain ⟨k1, hp, k2, hl⟩ := hM
  obtain ⟨g1, g2, g3, g4⟩ := id h
  refine mj_in2 4 t_Message_value rfl rfl (fun X cr C F => ?_)
  repeat (first | ((fail_if_success (show X 14 _ _ _ _ _ _ _)); apply F; conv => whnf) | (refine ⟨rfl, ?_⟩) | (refine ⟨vpk (by decide) ?_, ?_⟩; rfl) | (refine ⟨fun h => absurd h (by decide), fun _ => ?_⟩) | (refine ⟨fun _ => ?_, fun h => absurd (by decide) h⟩) | (refine ⟨fun h => absurd (by decide) h, fun _ => ?_⟩) | (refine ⟨fun _ => ?_, fun h => absurd h (by decide)⟩) | (refine ⟨by assumption, ?_⟩) | (rw [hp]; conv => whnf) | fail)
  rw [g1]
  have e0 : (if (0 : Int32) < nI l.length - 9 then nI l.length - 9 else 0) = nI (l.length - 9) := by
    rcases Nat.lt_or_ge l.length 9 with z | z
    · have e : nI l.length - 9 < 0 := pk_sneg (b := 9) (by decide) z
      rw [if_neg (fun q => by
        have := Int32.lt_trans e q
        exact Int32.lt_irrefl this), show l.length - 9 = 0 by omega]
      rfl
    · have e : nI l.length - 9 = nI (l.length - 9) := pk_sub (b := 9) z
      rw [e]
      split
      · rfl
      · rename_i q
        rcases Nat.eq_zero_or_pos (l.length - 9) with y | y
        · rw [y]; rfl
        · exact absurd (nI_lt (a := 0) y (by omega)) q
  have loop : ∀ m i, i + m = l.length → l.length - 9 ≤ i → X 14 [some (.ref a), some (.long (lN (nv ((l.take i).drop (l.length - 9)) 0))), none, some (.int (nI i))] [] (0, 0) sh P I J := by
    intro m
    induction m with
    | zero =>
      intro i hi ho
      (apply F; conv => whnf)
      repeat (first | ((fail_if_success (show X 14 _ _ _ _ _ _ _)); apply F; conv => whnf) | (refine ⟨rfl, ?_⟩) | (refine ⟨vpk (by decide) ?_, ?_⟩; rfl) | (refine ⟨fun h => absurd h (by decide), fun _ => ?_⟩) | (refine ⟨fun _ => ?_, fun h => absurd (by decide) h⟩) | (refine ⟨fun h => absurd (by decide) h, fun _ => ?_⟩) | (refine ⟨fun _ => ?_, fun h => absurd h (by decide)⟩) | (refine ⟨by assumption, ?_⟩) | (rw [hp]; conv => whnf) | fail)
      rw [g1]
      refine ⟨fun q => ?_, fun q => absurd (nI_le (by omega) (by omega)) q⟩
      repeat (first | (apply F; conv => whnf) | (refine ⟨rfl, ?_⟩) | (refine ⟨vpk (by decide) ?_, ?_⟩; rfl) | (refine ⟨fun h => absurd h (by decide), fun _ => ?_⟩) | (refine ⟨fun _ => ?_, fun h => absurd (by decide) h⟩) | (refine ⟨fun h => absurd (by decide) h, fun _ => ?_⟩) | (refine ⟨fun _ => ?_, fun h => absurd h (by decide)⟩) | (refine ⟨by assumption, ?_⟩) | (rw [hp]; conv => whnf) | fail)
      have : i = l.length := by omega
      subst this
      rw [List.take_length]
      exact hQ
    | succ m ih =>
      intro i hi ho
      (apply F; conv => whnf)
      repeat (first | ((fail_if_success (show X 14 _ _ _ _ _ _ _)); apply F; conv => whnf) | (refine ⟨rfl, ?_⟩) | (refine ⟨vpk (by decide) ?_, ?_⟩; rfl) | (refine ⟨fun h => absurd h (by decide), fun _ => ?_⟩) | (refine ⟨fun _ => ?_, fun h => absurd (by decide) h⟩) | (refine ⟨fun h => absurd (by decide) h, fun _ => ?_⟩) | (refine ⟨fun _ => ?_, fun h => absurd h (by decide)⟩) | (refine ⟨by assumption, ?_⟩) | (rw [hp]; conv => whnf) | fail)
      rw [g1]
      refine ⟨fun q => absurd q (nI_ge (by omega) (by omega)), fun q => ?_⟩
      repeat (first | ((fail_if_success (show X 14 _ _ _ _ _ _ _)); apply F; conv => whnf) | (refine ⟨rfl, ?_⟩) | (refine ⟨vpk (by decide) ?_, ?_⟩; rfl) | (refine ⟨fun h => absurd h (by decide), fun _ => ?_⟩) | (refine ⟨fun _ => ?_, fun h => absurd (by decide) h⟩) | (refine ⟨fun h => absurd (by decide) h, fun _ => ?_⟩) | (refine ⟨fun _ => ?_, fun h => absurd h (by decide)⟩) | (refine ⟨by assumption, ?_⟩) | (rw [hp]; conv => whnf) | fail)
      rw [hl]
      refine ⟨vp_in_nI (by omega) (by decide), ?_⟩
      repeat (first | ((fail_if_success (show X 14 _ _ _ _ _ _ _)); apply F; conv => whnf) | (refine ⟨rfl, ?_⟩) | (refine ⟨vpk (by decide) ?_, ?_⟩; rfl) | (refine ⟨fun h => absurd h (by decide), fun _ => ?_⟩) | (refine ⟨fun _ => ?_, fun h => absurd (by decide) h⟩) | (refine ⟨fun h => absurd (by decide) h, fun _ => ?_⟩) | (refine ⟨fun _ => ?_, fun h => absurd h (by decide)⟩) | (refine ⟨by assumption, ?_⟩) | (rw [hp]; conv => whnf) | fail)
      rw [nI_clamp (by omega), g2 i (by omega), nI_l (by have := g4 _ (gDm (show i < l.length by omega)); omega), nI_1, lN_mul10, lN_add]
      have := ih (i + 1) (by omega) (by omega)
      rw [drop_take_snoc ho (by omega), nv_snoc] at this
      exact this
  rw [e0]
  have z := loop (l.length - (l.length - 9)) (l.length - 9) (by omega) (Nat.le_refl _)
  rw [List.drop_eq_nil_of_le (by rw [List.length_take]; omega)] at z
  exact z
/-- a set of digits as a number -/
def dset : List Nat → Nat
  | [] => 0
  | x :: r => dset r ||| 2 ^ x
theorem dset_snoc (l : List Nat) (x : Nat) : dset (l ++ [x]) = dset l ||| 2 ^ x := by
  induction l with
  | nil => rfl
  | cons y r ih =>
    show dset (r ++ [x]) ||| 2 ^ y = (dset r ||| 2 ^ y) ||| 2 ^ x
    rw [ih, Nat.or_assoc, Nat.or_comm (2 ^ x), Nat.or_assoc]
theorem dset_lt : ∀ l : List Nat, (∀ x ∈ l, x < 10) → dset l < 1024
  | [], _ => by decide
  | x :: r, h => by
    have h1 := dset_lt r (fun y hy => h y (List.mem_cons_of_mem _ hy))
    have h2 := h x List.mem_cons_self
    exact Nat.or_lt_two_pow (n := 10) h1 (Nat.pow_lt_pow_right (by decide) h2)
theorem dset_bit : ∀ (l : List Nat) (i : Nat), (dset l).testBit i = true ↔ i ∈ l
  | [], i => by simp [dset]
  | x :: r, i => by
    show ((dset r ||| 2 ^ x).testBit i = true) ↔ i ∈ x :: r
    rw [Nat.testBit_or, Bool.or_eq_true, dset_bit r i, Nat.testBit_two_pow]
    simp [eq_comm, or_comm]
theorem nI_orN (a b : Nat) : nI a ||| nI b = nI (a ||| b) := by
  apply Int32.toBitVec_inj.mp
  apply BitVec.eq_of_toNat_eq
  simp [nI, Int32.toBitVec_or]
theorem nI_shl1 {x : Nat} (h : x < 10) : (1 : Int32) <<< (nI x &&& 31) = nI (2 ^ x) := by
  rcases (show x = 0 ∨ x = 1 ∨ x = 2 ∨ x = 3 ∨ x = 4 ∨ x = 5 ∨ x = 6 ∨ x = 7 ∨ x = 8 ∨ x = 9 by omega) with rfl | rfl | rfl | rfl | rfl | rfl | rfl | rfl | rfl | rfl <;> decide
theorem M_digitSet {d : Nat} {sh : mj_S} {P : mj_P} {I : mj_I} {J : mj_J} {Q : mj_Q} {a : Nat} {l : List Nat} (hM : isM sh P a) (h : mg I a l) (hQ : Q (some (.int (nI (dset l)))) sh P I J) : mj_ret mj_pr (d + 1) n_Message_digitSet [.ref a] (0, 0) sh P I J Q := by
  obtain ⟨k1, hp, k2, hl⟩ := hM
  obtain ⟨g1, g2, g3, g4⟩ := id h
  refine mj_in2 3 t_Message_digitSet rfl rfl (fun X cr C F => ?_)
  repeat (first | ((fail_if_success (show X 4 _ _ _ _ _ _ _)); apply F; conv => whnf) | (refine ⟨rfl, ?_⟩) | (refine ⟨vpk (by decide) ?_, ?_⟩; rfl) | (refine ⟨fun h => absurd h (by decide), fun _ => ?_⟩) | (refine ⟨fun _ => ?_, fun h => absurd (by decide) h⟩) | (refine ⟨fun h => absurd (by decide) h, fun _ => ?_⟩) | (refine ⟨fun _ => ?_, fun h => absurd h (by decide)⟩) | (refine ⟨by assumption, ?_⟩) | (rw [hp]; conv => whnf) | fail)
  have loop : ∀ m i, i + m = l.length → X 4 [some (.ref a), some (.int (nI (dset (l.take i)))), some (.int (nI i))] [] (0, 0) sh P I J := by
    intro m
    induction m with
    | zero =>
      intro i hi
      (apply F; conv => whnf)
      repeat (first | ((fail_if_success (show X 4 _ _ _ _ _ _ _)); apply F; conv => whnf) | (refine ⟨rfl, ?_⟩) | (refine ⟨vpk (by decide) ?_, ?_⟩; rfl) | (refine ⟨fun h => absurd h (by decide), fun _ => ?_⟩) | (refine ⟨fun _ => ?_, fun h => absurd (by decide) h⟩) | (refine ⟨fun h => absurd (by decide) h, fun _ => ?_⟩) | (refine ⟨fun _ => ?_, fun h => absurd h (by decide)⟩) | (refine ⟨by assumption, ?_⟩) | (rw [hp]; conv => whnf) | fail)
      rw [g1]
      refine ⟨fun q => ?_, fun q => absurd (nI_le (by omega) (by omega)) q⟩
      repeat (first | (apply F; conv => whnf) | (refine ⟨rfl, ?_⟩) | (refine ⟨vpk (by decide) ?_, ?_⟩; rfl) | (refine ⟨fun h => absurd h (by decide), fun _ => ?_⟩) | (refine ⟨fun _ => ?_, fun h => absurd (by decide) h⟩) | (refine ⟨fun h => absurd (by decide) h, fun _ => ?_⟩) | (refine ⟨fun _ => ?_, fun h => absurd h (by decide)⟩) | (refine ⟨by assumption, ?_⟩) | (rw [hp]; conv => whnf) | fail)
      have : i = l.length := by omega
      subst this
      rw [List.take_length]
      exact hQ
    | succ m ih =>
      intro i hi
      (apply F; conv => whnf)
      repeat (first | ((fail_if_success (show X 4 _ _ _ _ _ _ _)); apply F; conv => whnf) | (refine ⟨rfl, ?_⟩) | (refine ⟨vpk (by decide) ?_, ?_⟩; rfl) | (refine ⟨fun h => absurd h (by decide), fun _ => ?_⟩) | (refine ⟨fun _ => ?_, fun h => absurd (by decide) h⟩) | (refine ⟨fun h => absurd (by decide) h, fun _ => ?_⟩) | (refine ⟨fun _ => ?_, fun h => absurd h (by decide)⟩) | (refine ⟨by assumption, ?_⟩) | (rw [hp]; conv => whnf) | fail)
      rw [g1]
      refine ⟨fun q => absurd q (nI_ge (by omega) (by omega)), fun q => ?_⟩
      repeat (first | ((fail_if_success (show X 4 _ _ _ _ _ _ _)); apply F; conv => whnf) | (refine ⟨rfl, ?_⟩) | (refine ⟨vpk (by decide) ?_, ?_⟩; rfl) | (refine ⟨fun h => absurd h (by decide), fun _ => ?_⟩) | (refine ⟨fun _ => ?_, fun h => absurd (by decide) h⟩) | (refine ⟨fun h => absurd (by decide) h, fun _ => ?_⟩) | (refine ⟨fun _ => ?_, fun h => absurd h (by decide)⟩) | (refine ⟨by assumption, ?_⟩) | (rw [hp]; conv => whnf) | fail)
      rw [hl]
      refine ⟨vp_in_nI (by omega) (by decide), ?_⟩
      repeat (first | ((fail_if_success (show X 4 _ _ _ _ _ _ _)); apply F; conv => whnf) | (refine ⟨rfl, ?_⟩) | (refine ⟨vpk (by decide) ?_, ?_⟩; rfl) | (refine ⟨fun h => absurd h (by decide), fun _ => ?_⟩) | (refine ⟨fun _ => ?_, fun h => absurd (by decide) h⟩) | (refine ⟨fun h => absurd (by decide) h, fun _ => ?_⟩) | (refine ⟨fun _ => ?_, fun h => absurd h (by decide)⟩) | (refine ⟨by assumption, ?_⟩) | (rw [hp]; conv => whnf) | fail)
      rw [nI_clamp (by omega), g2 i (by omega), nI_shl1 (g4 _ (gDm (show i < l.length by omega))), nI_orN, nI_1]
      have z := ih (i + 1) (by omega)
      rw [List.take_succ_eq_append_getElem (show i < l.length by omega), dset_snoc, ← gD] at z
      exact z
  exact loop l.length 0 (by omega)
/-- what is left when digits of a set are lost -/
def kept (lost : Nat) (l : List Nat) : List Nat := l.filter (fun x => !lost.testBit x)
theorem kept_snoc (lost : Nat) (l : List Nat) (x : Nat) : kept lost (l ++ [x]) = if lost.testBit x = true then kept lost l else kept lost l ++ [x] := by
  unfold kept
  rw [List.filter_append]
  by_cases h : lost.testBit x = true
  · simp [h]
  · simp [h]
theorem kept_len (lost : Nat) (l : List Nat) : (kept lost l).length ≤ l.length := List.length_filter_le _ _
theorem nI_shrN {n x : Nat} (hn : n < 2147483648) (h : x < 10) : nI n >>> (nI x &&& 31) = nI (n / 2 ^ x) := by
  rcases (show x = 0 ∨ x = 1 ∨ x = 2 ∨ x = 3 ∨ x = 4 ∨ x = 5 ∨ x = 6 ∨ x = 7 ∨ x = 8 ∨ x = 9 by omega) with rfl | rfl | rfl | rfl | rfl | rfl | rfl | rfl | rfl | rfl <;> exact pk_shrN hn _ _ (by decide)
/-- is a digit lost, as the code asks it -/
theorem bitq {n x : Nat} (hn : n < 2147483648) (h : x < 10) : nI n >>> (nI x &&& 31) &&& 1 = if n.testBit x = true then 1 else 0 := by
  rw [nI_shrN hn h, pk_andN (m := 1) (by have := Nat.div_le_self n (2 ^ x); omega) 1 rfl, Nat.testBit_eq_decide_div_mod_eq]
  have : n / 2 ^ x % 2 ^ 1 = 0 ∨ n / 2 ^ x % 2 ^ 1 = 1 := by omega
  rcases this with e | e
  · rw [e, if_neg (by simp [e])]; rfl
  · rw [e, if_pos (by simp [e])]; rfl
/-- keepFrom, of another message -/
theorem M_keepFrom {d : Nat} {sh : mj_S} {P : mj_P} {I : mj_I} {J : mj_J} {Q : mj_Q} {a b lost : Nat} {l : List Nat} (hM : isM sh P a) (hN : isM sh P b) (h : mg I b l) (hl9 : lost < 2147483648) (hab : a ≠ b) (hab1 : a ≠ b + 1) (hQ : ∀ I', mg I' a (kept lost l) → (∀ c, c ≠ a → c ≠ a + 1 → I' c = I c) → Q (some (.int (nI (l.length - (kept lost l).length)))) sh P I' J) : mj_ret mj_pr (d + 2) n_Message_keepFrom [.ref a, .ref b, .int (nI lost)] (0, 0) sh P I J Q := by
  have hM0 := hM
  obtain ⟨k1, hp, k2, hl⟩ := hM
  obtain ⟨m1, hq, m2, ml⟩ := hN
  obtain ⟨g1, g2, g3, g4⟩ := id h
  refine mj_in2 6 t_Message_keepFrom rfl rfl (fun X cr C F => ?_)
  repeat (first | ((fail_if_success (show X 13 _ _ _ _ _ _ _)); apply F; conv => whnf) | (refine ⟨rfl, ?_⟩) | (refine ⟨vpk (by decide) ?_, ?_⟩; rfl) | (refine ⟨fun h => absurd h (by decide), fun _ => ?_⟩) | (refine ⟨fun _ => ?_, fun h => absurd (by decide) h⟩) | (refine ⟨fun h => absurd (by decide) h, fun _ => ?_⟩) | (refine ⟨fun _ => ?_, fun h => absurd h (by decide)⟩) | (refine ⟨by assumption, ?_⟩) | (rw [hp]; conv => whnf) | (rw [hq]; conv => whnf) | fail)
  rw [g1]
  have loop : ∀ m i (I1 : mj_I) (L5 : Option Value), i + m = l.length → (∀ x, L5 ≠ some (.long x)) → (∀ x, L5 ≠ some (.double x)) → mg I1 a (kept lost (l.take i)) → (∀ c, c ≠ a → c ≠ a + 1 → I1 c = I c) → X 13 [some (.ref a), some (.ref b), some (.int (nI lost)), some (.int (nI l.length)), some (.int (nI i)), L5] [] (0, 0) sh P I1 J := by
    intro m
    induction m with
    | zero =>
      intro i I1 L5 hi _ _ hk hf
      (apply F; conv => whnf)
      repeat (first | ((fail_if_success (show X 13 _ _ _ _ _ _ _)); apply F; conv => whnf) | (refine ⟨rfl, ?_⟩) | (refine ⟨vpk (by decide) ?_, ?_⟩; rfl) | (refine ⟨fun h => absurd h (by decide), fun _ => ?_⟩) | (refine ⟨fun _ => ?_, fun h => absurd (by decide) h⟩) | (refine ⟨fun h => absurd (by decide) h, fun _ => ?_⟩) | (refine ⟨fun _ => ?_, fun h => absurd h (by decide)⟩) | (refine ⟨by assumption, ?_⟩) | (rw [hp]; conv => whnf) | (rw [hq]; conv => whnf) | fail)
      refine ⟨fun q => ?_, fun q => absurd (nI_le (by omega) (by omega)) q⟩
      have : i = l.length := by omega
      subst this
      rw [List.take_length] at hk
      repeat (first | (apply F; conv => whnf) | (refine ⟨rfl, ?_⟩) | (refine ⟨vpk (by decide) ?_, ?_⟩; rfl) | (refine ⟨fun h => absurd h (by decide), fun _ => ?_⟩) | (refine ⟨fun _ => ?_, fun h => absurd (by decide) h⟩) | (refine ⟨fun h => absurd (by decide) h, fun _ => ?_⟩) | (refine ⟨fun _ => ?_, fun h => absurd h (by decide)⟩) | (refine ⟨by assumption, ?_⟩) | (rw [hp]; conv => whnf) | (rw [hq]; conv => whnf) | fail)
      rw [hk.1, pk_sub (kept_len lost l)]
      exact hQ I1 hk hf
    | succ m ih =>
      intro i I1 L5 hi _ _ hk hf
      (apply F; conv => whnf)
      repeat (first | ((fail_if_success (show X 13 _ _ _ _ _ _ _)); apply F; conv => whnf) | (refine ⟨rfl, ?_⟩) | (refine ⟨vpk (by decide) ?_, ?_⟩; rfl) | (refine ⟨fun h => absurd h (by decide), fun _ => ?_⟩) | (refine ⟨fun _ => ?_, fun h => absurd (by decide) h⟩) | (refine ⟨fun h => absurd (by decide) h, fun _ => ?_⟩) | (refine ⟨fun _ => ?_, fun h => absurd h (by decide)⟩) | (refine ⟨by assumption, ?_⟩) | (rw [hp]; conv => whnf) | (rw [hq]; conv => whnf) | fail)
      refine ⟨fun q => absurd q (nI_ge (by omega) (by omega)), fun q => ?_⟩
      repeat (first | ((fail_if_success (show X 13 _ _ _ _ _ _ _)); apply F; conv => whnf) | (refine ⟨rfl, ?_⟩) | (refine ⟨vpk (by decide) ?_, ?_⟩; rfl) | (refine ⟨fun h => absurd h (by decide), fun _ => ?_⟩) | (refine ⟨fun _ => ?_, fun h => absurd (by decide) h⟩) | (refine ⟨fun h => absurd (by decide) h, fun _ => ?_⟩) | (refine ⟨fun _ => ?_, fun h => absurd h (by decide)⟩) | (refine ⟨by assumption, ?_⟩) | (rw [hp]; conv => whnf) | (rw [hq]; conv => whnf) | fail)
      rw [ml]
      refine ⟨vp_in_nI (by omega) (by decide), ?_⟩
      repeat (first | ((fail_if_success (show X 13 _ _ _ _ _ _ _)); apply F; conv => whnf) | (refine ⟨rfl, ?_⟩) | (refine ⟨vpk (by decide) ?_, ?_⟩; rfl) | (refine ⟨fun h => absurd h (by decide), fun _ => ?_⟩) | (refine ⟨fun _ => ?_, fun h => absurd (by decide) h⟩) | (refine ⟨fun h => absurd (by decide) h, fun _ => ?_⟩) | (refine ⟨fun _ => ?_, fun h => absurd h (by decide)⟩) | (refine ⟨by assumption, ?_⟩) | (rw [hp]; conv => whnf) | (rw [hq]; conv => whnf) | fail)
      have hx : l.getD i 0 < 10 := g4 _ (gDm (show i < l.length by omega))
      rw [nI_clamp (by omega), hf (b + 1) (by omega) (by omega), g2 i (by omega), bitq hl9 hx]
      have ht : l.take (i + 1) = l.take i ++ [l.getD i 0] := by rw [gD (show i < l.length by omega), List.take_succ_eq_append_getElem (show i < l.length by omega)]
      by_cases hb : lost.testBit (l.getD i 0) = true
      · rw [if_pos hb]
        refine ⟨fun _ => ?_, fun q => absurd q (by decide)⟩
        repeat (first | ((fail_if_success (show X 13 _ _ _ _ _ _ _)); apply F; conv => whnf) | (refine ⟨rfl, ?_⟩) | (refine ⟨vpk (by decide) ?_, ?_⟩; rfl) | (refine ⟨fun h => absurd h (by decide), fun _ => ?_⟩) | (refine ⟨fun _ => ?_, fun h => absurd (by decide) h⟩) | (refine ⟨fun h => absurd (by decide) h, fun _ => ?_⟩) | (refine ⟨fun _ => ?_, fun h => absurd h (by decide)⟩) | (refine ⟨by assumption, ?_⟩) | (rw [hp]; conv => whnf) | (rw [hq]; conv => whnf) | fail)
        rw [nI_1]
        refine ih (i + 1) I1 _ (by omega) (fun x z => by cases z) (fun x z => by cases z) ?_ hf
        rw [ht, kept_snoc, if_pos hb]
        exact hk
      · rw [if_neg hb]
        refine ⟨fun q => absurd rfl q, fun _ => ?_⟩
        repeat (first | ((fail_if_success (show X 13 _ _ _ _ _ _ _)); apply F; conv => whnf) | (refine ⟨rfl, ?_⟩) | (refine ⟨vpk (by decide) ?_, ?_⟩; rfl) | (refine ⟨fun h => absurd h (by decide), fun _ => ?_⟩) | (refine ⟨fun _ => ?_, fun h => absurd (by decide) h⟩) | (refine ⟨fun h => absurd (by decide) h, fun _ => ?_⟩) | (refine ⟨fun _ => ?_, fun h => absurd h (by decide)⟩) | (refine ⟨by assumption, ?_⟩) | (rw [hp]; conv => whnf) | (rw [hq]; conv => whnf) | fail)
        have hkl : (kept lost (l.take i)).length ≤ i := Nat.le_trans (kept_len _ _) (by rw [List.length_take]; omega)
        refine C (M_append hM0 hk hx (fun I2 hk2 hf2 => ?_))
        repeat (first | ((fail_if_success (show X 13 _ _ _ _ _ _ _)); apply F; conv => whnf) | (refine ⟨rfl, ?_⟩) | (refine ⟨vpk (by decide) ?_, ?_⟩; rfl) | (refine ⟨fun h => absurd h (by decide), fun _ => ?_⟩) | (refine ⟨fun _ => ?_, fun h => absurd (by decide) h⟩) | (refine ⟨fun h => absurd (by decide) h, fun _ => ?_⟩) | (refine ⟨fun _ => ?_, fun h => absurd h (by decide)⟩) | (refine ⟨by assumption, ?_⟩) | (rw [hp]; conv => whnf) | (rw [hq]; conv => whnf) | fail)
        rw [nI_1]
        refine ih (i + 1) I2 _ (by omega) (fun x z => by cases z) (fun x z => by cases z) ?_ (fun c c1 c2 => by rw [hf2 c c1 c2]; exact hf c c1 c2)
        rw [ht, kept_snoc, if_neg hb]
        rw [List.take_of_length_le (by simp; omega)] at hk2
        exact hk2
  refine loop l.length 0 _ none (by omega) (fun x z => by cases z) (fun x z => by cases z) ⟨mj_u_eq I a 1 0, fun j hj => absurd hj (Nat.not_lt_zero j), Nat.zero_le 36, fun x hx => by cases hx⟩ (fun c c1 c2 => mj_u_row I a 1 0 c1)
