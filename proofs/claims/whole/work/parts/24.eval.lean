/-! conditions worked out: by the class (holds), by the reference (comesTo) -/
/-- the rules' shape -/
def isR (sh : mj_S) (P : mj_P) (r : Nat) : Prop := mj_kd sh r = 7 ∧ P r 0 = some (r + 1) ∧ P r 1 = some (r + 2) ∧ P r 2 = some (r + 3) ∧ P r 3 = some (r + 4) ∧ P r 4 = some (r + 5) ∧ P r 5 = some (r + 6) ∧ mj_kd sh (r + 1) = 13 ∧ mj_kd sh (r + 2) = 13 ∧ mj_kd sh (r + 3) = 13 ∧ mj_kd sh (r + 4) = 13 ∧ mj_kd sh (r + 5) = 13 ∧ mj_kd sh (r + 6) = 13 ∧ mj_ln sh (r + 1) = 16 ∧ mj_ln sh (r + 2) = 16 ∧ mj_ln sh (r + 3) = 64 ∧ mj_ln sh (r + 4) = 16 ∧ mj_ln sh (r + 5) = 16 ∧ mj_ln sh (r + 6) = 400
/-- a step in the class's words -/
def encC (o : Nat × Int32) : List Int32 := if o.1 = 0 then [o.2] else if o.1 < 7 then [nI (10105 + o.1)] else if o.1 = 16 then [o.2, 10247] else [tokC o.1]
def encs (l : List (Nat × Int32)) : List Int32 := l.flatMap encC
theorem stk_top {g : Nat → Int32} {x : Int32} {s : List Int32} (h : stk g (x :: s)) : g s.length = x := h.1
set_option maxHeartbeats 4000000 in
theorem Ck_holds {d : Nat} {e : mj_S} {P : mj_P} {r0 r1 r2 r3 rs : Nat} {kp : Option Nat} {I : mj_I} {J : mj_J} {Q : mj_Q} {r i bg : Nat} {ops : List (Nat × Int32)} {f : Nat → Int32} (hR : isR (sh0 ++ e) (cp P r0 r1 r2 r3 rs kp) r) (hr : r + 6 < 96) (hi : i < 16) (hb : I (r + 4) i = nI bg) (he : I (r + 5) i = nI (bg + (encs ops).length)) (hl : bg + (encs ops).length ≤ 400) (hs : ∀ j, j < (encs ops).length → I (r + 6) (bg + j) = (encs ops).getD j 0) (hf : ∀ c, 0 < c → c < 7 → I 100 (c - 1) = f c) (hw : ops = [] ∨ wfO ops)
    (h1 : (ops = [] ∨ opV f ops = 1) → ∀ I', (∀ b, b ≠ 99 → I' b = I b) → Q (some (.int 1)) (sh0 ++ e) (cp P r0 r1 r2 r3 rs kp) I' J) (h0 : (¬ ops = [] ∧ opV f ops = 0) → ∀ I', (∀ b, b ≠ 99 → I' b = I b) → Q (some (.int 0)) (sh0 ++ e) (cp P r0 r1 r2 r3 rs kp) I' J) : mj_ret mj_pr (d + 2) n_Clerk_holds [.ref 96, .ref r, .int (nI i)] (0, 0) (sh0 ++ e) (cp P r0 r1 r2 r3 rs kp) I J Q := by
  obtain ⟨k0, p0, p1, p2, p3, p4, p5, k1, k2, k3, k4, k5, k6, l1, l2, l3, l4, l5, l6⟩ := id hR
  refine mj_in2 6 t_Clerk_holds rfl rfl (fun X cr C F => ?_)
  repeat (first | ((fail_if_success (show X 10 _ _ _ _ _ _ _)); apply F; conv => whnf) | (refine ⟨rfl, ?_⟩) | (refine ⟨vpk (by decide) ?_, ?_⟩; rfl) | (refine ⟨fun h => absurd h (by decide), fun _ => ?_⟩) | (refine ⟨fun _ => ?_, fun h => absurd (by decide) h⟩) | (refine ⟨fun h => absurd (by decide) h, fun _ => ?_⟩) | (refine ⟨fun _ => ?_, fun h => absurd h (by decide)⟩) | (refine ⟨by assumption, ?_⟩) | (rw [p3]; conv => whnf) | fail)
  rw [l4]
  refine ⟨vp_in_nI hi (by decide), ?_⟩
  repeat (first | ((fail_if_success (show X 10 _ _ _ _ _ _ _)); apply F; conv => whnf) | (refine ⟨rfl, ?_⟩) | (refine ⟨vpk (by decide) ?_, ?_⟩; rfl) | (refine ⟨fun h => absurd h (by decide), fun _ => ?_⟩) | (refine ⟨fun _ => ?_, fun h => absurd (by decide) h⟩) | (refine ⟨fun h => absurd (by decide) h, fun _ => ?_⟩) | (refine ⟨fun _ => ?_, fun h => absurd h (by decide)⟩) | (refine ⟨by assumption, ?_⟩) | (rw [p3]; conv => whnf) | fail)
  rw [nI_clamp (by omega), hb]
  rcases hw with e | hw
  · subst e
    (apply F; conv => whnf)
    repeat (first | (apply F; conv => whnf) | (refine ⟨rfl, ?_⟩) | (refine ⟨vpk (by decide) ?_, ?_⟩; rfl) | (refine ⟨fun h => absurd h (by decide), fun _ => ?_⟩) | (refine ⟨fun _ => ?_, fun h => absurd (by decide) h⟩) | (refine ⟨fun h => absurd (by decide) h, fun _ => ?_⟩) | (refine ⟨fun _ => ?_, fun h => absurd h (by decide)⟩) | (refine ⟨by assumption, ?_⟩) | (rw [p4]; conv => whnf) | fail)
    rw [l5]
    refine ⟨vp_in_nI hi (by decide), ?_⟩
    repeat (first | (apply F; conv => whnf) | (refine ⟨rfl, ?_⟩) | (refine ⟨vpk (by decide) ?_, ?_⟩; rfl) | (refine ⟨fun h => absurd h (by decide), fun _ => ?_⟩) | (refine ⟨fun _ => ?_, fun h => absurd (by decide) h⟩) | (refine ⟨fun h => absurd (by decide) h, fun _ => ?_⟩) | (refine ⟨fun _ => ?_, fun h => absurd h (by decide)⟩) | fail)
    rw [nI_clamp (by omega), he]
    refine ⟨fun _ => ?_, fun q => absurd (nI_le (by simp [encs]) (by omega)) q⟩
    repeat (first | (apply F; conv => whnf) | (refine ⟨rfl, ?_⟩) | (refine ⟨vpk (by decide) ?_, ?_⟩; rfl) | (refine ⟨fun h => absurd h (by decide), fun _ => ?_⟩) | (refine ⟨fun _ => ?_, fun h => absurd (by decide) h⟩) | (refine ⟨fun h => absurd (by decide) h, fun _ => ?_⟩) | (refine ⟨fun _ => ?_, fun h => absurd h (by decide)⟩) | fail)
    exact h1 (Or.inl rfl) I (fun _ _ => rfl)
  obtain ⟨hv, hv2⟩ := wfO_val (f := f) hw
  have hne : ¬ ops = [] := fun e => by rw [e] at hw; cases hw
  have upd9 : ∀ (I1 : mj_I) (k : Nat) (v : Int32), mj_u I1 99 k v 99 = fun j => if j = k then v else I1 99 j := fun I1 k v => by funext j; simp [mj_u]
  have fr9 : ∀ (I1 : mj_I) (k : Nat) (v : Int32), (∀ b, b ≠ 99 → I1 b = I b) → ∀ b, b ≠ 99 → mj_u I1 99 k v b = I b := fun I1 k v h b hb => by rw [mj_u_row _ _ _ _ hb]; exact h b hb
  have push : ∀ (x v : Int32) (s : List Int32) (n : Nat) (I1 : mj_I) (L5 : Option Value), n < (encs ops).length → I (r + 6) (bg + n) = x → s.length < 32 → (∀ b, b ≠ 99 → I1 b = I b) → stk (I1 99) s → ((x < 10000 ∧ v = x) ∨ ∃ c, 0 < c ∧ c < 7 ∧ x = nI (10105 + c) ∧ v = f c) → (∀ (I2 : mj_I) (L5' : Option Value), (∀ b, b ≠ 99 → I2 b = I b) → stk (I2 99) (v :: s) → X 10 [some (.ref 96), some (.ref r), some (.int (nI i)), some (.int (nI (s.length + 1))), some (.int (nI (bg + (n + 1)))), L5'] [] (0, 0) (sh0 ++ e) (cp P r0 r1 r2 r3 rs kp) I2 J) → X 10 [some (.ref 96), some (.ref r), some (.int (nI i)), some (.int (nI s.length)), some (.int (nI (bg + n))), L5] [] (0, 0) (sh0 ++ e) (cp P r0 r1 r2 r3 rs kp) I1 J := by
    intro x v s n I1 L5 hn hx hsl hfr hst hv K
    (apply F; conv => whnf)
    repeat (first | ((fail_if_success (show X 10 _ _ _ _ _ _ _)); apply F; conv => whnf) | (refine ⟨rfl, ?_⟩) | (refine ⟨vpk (by decide) ?_, ?_⟩; rfl) | (refine ⟨fun h => absurd h (by decide), fun _ => ?_⟩) | (refine ⟨fun _ => ?_, fun h => absurd (by decide) h⟩) | (refine ⟨fun h => absurd (by decide) h, fun _ => ?_⟩) | (refine ⟨fun _ => ?_, fun h => absurd h (by decide)⟩) | (refine ⟨by assumption, ?_⟩) | (rw [p4]; conv => whnf) | fail)
    rw [l5]
    refine ⟨vp_in_nI hi (by decide), ?_⟩
    repeat (first | ((fail_if_success (show X 10 _ _ _ _ _ _ _)); apply F; conv => whnf) | (refine ⟨rfl, ?_⟩) | (refine ⟨vpk (by decide) ?_, ?_⟩; rfl) | (refine ⟨fun h => absurd h (by decide), fun _ => ?_⟩) | (refine ⟨fun _ => ?_, fun h => absurd (by decide) h⟩) | (refine ⟨fun h => absurd (by decide) h, fun _ => ?_⟩) | (refine ⟨fun _ => ?_, fun h => absurd h (by decide)⟩) | fail)
    rw [nI_clamp (by omega), hfr (r + 5) (by omega), he]
    refine ⟨fun q => absurd q (nI_ge (by omega) (by omega)), fun _ => ?_⟩
    repeat (first | ((fail_if_success (show X 10 _ _ _ _ _ _ _)); apply F; conv => whnf) | (refine ⟨rfl, ?_⟩) | (refine ⟨vpk (by decide) ?_, ?_⟩; rfl) | (refine ⟨fun h => absurd h (by decide), fun _ => ?_⟩) | (refine ⟨fun _ => ?_, fun h => absurd (by decide) h⟩) | (refine ⟨fun h => absurd (by decide) h, fun _ => ?_⟩) | (refine ⟨fun _ => ?_, fun h => absurd h (by decide)⟩) | (refine ⟨by assumption, ?_⟩) | (rw [p5]; conv => whnf) | fail)
    rw [l6]
    refine ⟨vp_in_nI (by omega) (by decide), ?_⟩
    repeat (first | ((fail_if_success (show X 10 _ _ _ _ _ _ _)); apply F; conv => whnf) | (refine ⟨rfl, ?_⟩) | (refine ⟨vpk (by decide) ?_, ?_⟩; rfl) | (refine ⟨fun h => absurd h (by decide), fun _ => ?_⟩) | (refine ⟨fun _ => ?_, fun h => absurd (by decide) h⟩) | (refine ⟨fun h => absurd (by decide) h, fun _ => ?_⟩) | (refine ⟨fun _ => ?_, fun h => absurd h (by decide)⟩) | fail)
    rw [nI_clamp (by omega), hfr (r + 6) (by omega), hx]
    have fin : ∀ L5', X 155 [some (.ref 96), some (.ref r), some (.int (nI i)), some (.int (nI (s.length + 1))), some (.int (nI (bg + n))), L5'] [] (0, 0) (sh0 ++ e) (cp P r0 r1 r2 r3 rs kp) (mj_u I1 99 s.length v) J := fun L5' => by
      (apply F; conv => whnf)
      rw [nI_1]
      repeat (first | ((fail_if_success (show X 10 _ _ _ _ _ _ _)); apply F; conv => whnf) | (refine ⟨rfl, ?_⟩) | (refine ⟨vpk (by decide) ?_, ?_⟩; rfl) | (refine ⟨fun h => absurd h (by decide), fun _ => ?_⟩) | (refine ⟨fun _ => ?_, fun h => absurd (by decide) h⟩) | (refine ⟨fun h => absurd (by decide) h, fun _ => ?_⟩) | (refine ⟨fun _ => ?_, fun h => absurd h (by decide)⟩) | fail)
      refine K _ _ (fr9 _ _ _ hfr) ?_
      rw [upd9]
      exact ⟨if_pos rfl, stk_up s (Nat.le_refl _) hst⟩
    refine C (Ck_isOperand (fun _ => ?_) (fun q1 q2 => ?_))
    · repeat (first | ((fail_if_success (show X 10 _ _ _ _ _ _ _)); apply F; conv => whnf) | (refine ⟨rfl, ?_⟩) | (refine ⟨vpk (by decide) ?_, ?_⟩; rfl) | (refine ⟨fun h => absurd h (by decide), fun _ => ?_⟩) | (refine ⟨fun _ => ?_, fun h => absurd (by decide) h⟩) | (refine ⟨fun h => absurd (by decide) h, fun _ => ?_⟩) | (refine ⟨fun _ => ?_, fun h => absurd h (by decide)⟩) | fail)
      refine ⟨fun _ => ?_, fun q => absurd (nI_lt (b := 32) hsl (by decide)) q⟩
      repeat (first | ((fail_if_success (show X 10 _ _ _ _ _ _ _)); apply F; conv => whnf) | (refine ⟨rfl, ?_⟩) | (refine ⟨vpk (by decide) ?_, ?_⟩; rfl) | (refine ⟨fun h => absurd h (by decide), fun _ => ?_⟩) | (refine ⟨fun _ => ?_, fun h => absurd (by decide) h⟩) | (refine ⟨fun h => absurd (by decide) h, fun _ => ?_⟩) | (refine ⟨fun _ => ?_, fun h => absurd h (by decide)⟩) | fail)
      rcases hv with ⟨hx1, rfl⟩ | ⟨c, c1, c2, rfl, rfl⟩
      · refine ⟨fun q => absurd q (i32_nle.mpr hx1), fun _ => ?_⟩
        repeat (first | ((fail_if_success (show X 10 _ _ _ _ _ _ _)); apply F; conv => whnf) | (refine ⟨rfl, ?_⟩) | (refine ⟨vpk (by decide) ?_, ?_⟩; rfl) | (refine ⟨fun h => absurd h (by decide), fun _ => ?_⟩) | (refine ⟨fun _ => ?_, fun h => absurd (by decide) h⟩) | (refine ⟨fun h => absurd (by decide) h, fun _ => ?_⟩) | (refine ⟨fun _ => ?_, fun h => absurd h (by decide)⟩) | fail)
        refine ⟨vpq 32 rfl (by omega) (by decide), ?_⟩
        rw [nI_clamp (by omega)]
        repeat (first | ((fail_if_success (show X 155 _ _ _ _ _ _ _)); apply F; conv => whnf) | (refine ⟨rfl, ?_⟩) | (refine ⟨vpk (by decide) ?_, ?_⟩; rfl) | (refine ⟨fun h => absurd h (by decide), fun _ => ?_⟩) | (refine ⟨fun _ => ?_, fun h => absurd (by decide) h⟩) | (refine ⟨fun h => absurd (by decide) h, fun _ => ?_⟩) | (refine ⟨fun _ => ?_, fun h => absurd h (by decide)⟩) | fail)
        rw [nI_1]
        exact fin _
      · refine ⟨fun _ => ?_, fun q => absurd (nI_le (a := 10000) (by omega) (by omega)) q⟩
        repeat (first | ((fail_if_success (show X 10 _ _ _ _ _ _ _)); apply F; conv => whnf) | (refine ⟨rfl, ?_⟩) | (refine ⟨vpk (by decide) ?_, ?_⟩; rfl) | (refine ⟨fun h => absurd h (by decide), fun _ => ?_⟩) | (refine ⟨fun _ => ?_, fun h => absurd (by decide) h⟩) | (refine ⟨fun h => absurd (by decide) h, fun _ => ?_⟩) | (refine ⟨fun _ => ?_, fun h => absurd h (by decide)⟩) | fail)
        have e3 : nI (10105 + c) - 10106 = nI (c - 1) := by rw [show (10106 : Int32) = nI 10106 from rfl, pk_sub (by omega), show 10105 + c - 10106 = c - 1 by omega]
        rw [e3]
        refine ⟨vpq 6 rfl (by omega) (by decide), ?_⟩
        repeat (first | ((fail_if_success (show X 10 _ _ _ _ _ _ _)); apply F; conv => whnf) | (refine ⟨rfl, ?_⟩) | (refine ⟨vpk (by decide) ?_, ?_⟩; rfl) | (refine ⟨fun h => absurd h (by decide), fun _ => ?_⟩) | (refine ⟨fun _ => ?_, fun h => absurd (by decide) h⟩) | (refine ⟨fun h => absurd (by decide) h, fun _ => ?_⟩) | (refine ⟨fun _ => ?_, fun h => absurd h (by decide)⟩) | fail)
        refine ⟨vpq 32 rfl (by omega) (by decide), ?_⟩
        rw [nI_clamp (by omega), nI_clamp (by omega), hfr 100 (by decide), hf c c1 c2]
        repeat (first | ((fail_if_success (show X 155 _ _ _ _ _ _ _)); apply F; conv => whnf) | (refine ⟨rfl, ?_⟩) | (refine ⟨vpk (by decide) ?_, ?_⟩; rfl) | (refine ⟨fun h => absurd h (by decide), fun _ => ?_⟩) | (refine ⟨fun _ => ?_, fun h => absurd (by decide) h⟩) | (refine ⟨fun h => absurd (by decide) h, fun _ => ?_⟩) | (refine ⟨fun _ => ?_, fun h => absurd h (by decide)⟩) | fail)
        rw [nI_1]
        exact fin _
    · exfalso
      rcases hv with ⟨hx1, -⟩ | ⟨c, c1, c2, rfl, -⟩
      · exact absurd q1 (i32_nle.mpr hx1)
      · rcases q2 with q | q
        · exact absurd q (nI_nlt (b := 10106) (by omega) (by omega))
        · exact absurd q (nI_ge (b := 10112) (by omega) (by omega))
  have bin : ∀ (x a b v : Int32) (s : List Int32) (n : Nat) (I1 : mj_I) (L5 : Option Value), n < (encs ops).length → I (r + 6) (bg + n) = x → s.length < 30 → (∀ b, b ≠ 99 → I1 b = I b) → stk (I1 99) (a :: b :: s) → (10000 ≤ x ∧ (x < 10105 ∨ 10112 ≤ x)) → (∀ (I' : mj_I) (Q' : mj_Q), Q' (some (.int v)) (sh0 ++ e) (cp P r0 r1 r2 r3 rs kp) I' J → mj_ret mj_pr (d + 1) n_Clerk_join [.int x, .int b, .int a] (0, 0) (sh0 ++ e) (cp P r0 r1 r2 r3 rs kp) I' J Q') → (∀ (I2 : mj_I) (L5' : Option Value), (∀ b, b ≠ 99 → I2 b = I b) → stk (I2 99) (v :: s) → X 10 [some (.ref 96), some (.ref r), some (.int (nI i)), some (.int (nI (s.length + 1))), some (.int (nI (bg + (n + 1)))), L5'] [] (0, 0) (sh0 ++ e) (cp P r0 r1 r2 r3 rs kp) I2 J) → X 10 [some (.ref 96), some (.ref r), some (.int (nI i)), some (.int (nI (s.length + 2))), some (.int (nI (bg + n))), L5] [] (0, 0) (sh0 ++ e) (cp P r0 r1 r2 r3 rs kp) I1 J := by
    intro x a b v s n I1 L5 hn hx hsl hfr hst hxr hj K
    (apply F; conv => whnf)
    repeat (first | ((fail_if_success (show X 10 _ _ _ _ _ _ _)); apply F; conv => whnf) | (refine ⟨rfl, ?_⟩) | (refine ⟨vpk (by decide) ?_, ?_⟩; rfl) | (refine ⟨fun h => absurd h (by decide), fun _ => ?_⟩) | (refine ⟨fun _ => ?_, fun h => absurd (by decide) h⟩) | (refine ⟨fun h => absurd (by decide) h, fun _ => ?_⟩) | (refine ⟨fun _ => ?_, fun h => absurd h (by decide)⟩) | (refine ⟨by assumption, ?_⟩) | (rw [p4]; conv => whnf) | fail)
    rw [l5]
    refine ⟨vp_in_nI hi (by decide), ?_⟩
    repeat (first | ((fail_if_success (show X 10 _ _ _ _ _ _ _)); apply F; conv => whnf) | (refine ⟨rfl, ?_⟩) | (refine ⟨vpk (by decide) ?_, ?_⟩; rfl) | (refine ⟨fun h => absurd h (by decide), fun _ => ?_⟩) | (refine ⟨fun _ => ?_, fun h => absurd (by decide) h⟩) | (refine ⟨fun h => absurd (by decide) h, fun _ => ?_⟩) | (refine ⟨fun _ => ?_, fun h => absurd h (by decide)⟩) | fail)
    rw [nI_clamp (by omega), hfr (r + 5) (by omega), he]
    refine ⟨fun q => absurd q (nI_ge (by omega) (by omega)), fun _ => ?_⟩
    repeat (first | ((fail_if_success (show X 10 _ _ _ _ _ _ _)); apply F; conv => whnf) | (refine ⟨rfl, ?_⟩) | (refine ⟨vpk (by decide) ?_, ?_⟩; rfl) | (refine ⟨fun h => absurd h (by decide), fun _ => ?_⟩) | (refine ⟨fun _ => ?_, fun h => absurd (by decide) h⟩) | (refine ⟨fun h => absurd (by decide) h, fun _ => ?_⟩) | (refine ⟨fun _ => ?_, fun h => absurd h (by decide)⟩) | (refine ⟨by assumption, ?_⟩) | (rw [p5]; conv => whnf) | fail)
    rw [l6]
    refine ⟨vp_in_nI (by omega) (by decide), ?_⟩
    repeat (first | ((fail_if_success (show X 10 _ _ _ _ _ _ _)); apply F; conv => whnf) | (refine ⟨rfl, ?_⟩) | (refine ⟨vpk (by decide) ?_, ?_⟩; rfl) | (refine ⟨fun h => absurd h (by decide), fun _ => ?_⟩) | (refine ⟨fun _ => ?_, fun h => absurd (by decide) h⟩) | (refine ⟨fun h => absurd (by decide) h, fun _ => ?_⟩) | (refine ⟨fun _ => ?_, fun h => absurd h (by decide)⟩) | fail)
    rw [nI_clamp (by omega), hfr (r + 6) (by omega), hx]
    refine C (Ck_isOperand (fun q => ?_) (fun _ _ => ?_))
    · exfalso
      rcases q with q | ⟨q, q'⟩
      · exact absurd q (i32_nlt.mpr hxr.1)
      · rcases hxr.2 with z | z
        · exact absurd q (i32_nle.mpr (Int32.lt_trans z (by decide)))
        · exact absurd q' (i32_nlt.mpr z)
    · repeat (first | ((fail_if_success (show X 10 _ _ _ _ _ _ _)); apply F; conv => whnf) | (refine ⟨rfl, ?_⟩) | (refine ⟨vpk (by decide) ?_, ?_⟩; rfl) | (refine ⟨fun h => absurd h (by decide), fun _ => ?_⟩) | (refine ⟨fun _ => ?_, fun h => absurd (by decide) h⟩) | (refine ⟨fun h => absurd (by decide) h, fun _ => ?_⟩) | (refine ⟨fun _ => ?_, fun h => absurd h (by decide)⟩) | fail)
      refine ⟨fun _ => ?_, fun q => ?_⟩
      · repeat (first | ((fail_if_success (show X 10 _ _ _ _ _ _ _)); apply F; conv => whnf) | (refine ⟨rfl, ?_⟩) | (refine ⟨vpk (by decide) ?_, ?_⟩; rfl) | (refine ⟨fun h => absurd h (by decide), fun _ => ?_⟩) | (refine ⟨fun _ => ?_, fun h => absurd (by decide) h⟩) | (refine ⟨fun h => absurd (by decide) h, fun _ => ?_⟩) | (refine ⟨fun _ => ?_, fun h => absurd h (by decide)⟩) | fail)
        refine ⟨fun _ => ?_, fun q => absurd (nI_le (a := 2) (by omega) (by omega)) q⟩
        repeat (first | ((fail_if_success (show X 10 _ _ _ _ _ _ _)); apply F; conv => whnf) | (refine ⟨rfl, ?_⟩) | (refine ⟨vpk (by decide) ?_, ?_⟩; rfl) | (refine ⟨fun h => absurd h (by decide), fun _ => ?_⟩) | (refine ⟨fun _ => ?_, fun h => absurd (by decide) h⟩) | (refine ⟨fun h => absurd (by decide) h, fun _ => ?_⟩) | (refine ⟨fun _ => ?_, fun h => absurd h (by decide)⟩) | fail)
        rw [show nI (s.length + 2) + -1 = nI (s.length + 1) from pk_m1 _, show nI (s.length + 1) - 1 = nI s.length from nI_pred _]
        refine ⟨vpq 32 rfl (by omega) (by decide), ?_⟩
        repeat (first | ((fail_if_success (show X 10 _ _ _ _ _ _ _)); apply F; conv => whnf) | (refine ⟨rfl, ?_⟩) | (refine ⟨vpk (by decide) ?_, ?_⟩; rfl) | (refine ⟨fun h => absurd h (by decide), fun _ => ?_⟩) | (refine ⟨fun _ => ?_, fun h => absurd (by decide) h⟩) | (refine ⟨fun h => absurd (by decide) h, fun _ => ?_⟩) | (refine ⟨fun _ => ?_, fun h => absurd h (by decide)⟩) | fail)
        refine ⟨vpq 32 rfl (by omega) (by decide), ?_⟩
        repeat (first | ((fail_if_success (show X 10 _ _ _ _ _ _ _)); apply F; conv => whnf) | (refine ⟨rfl, ?_⟩) | (refine ⟨vpk (by decide) ?_, ?_⟩; rfl) | (refine ⟨fun h => absurd h (by decide), fun _ => ?_⟩) | (refine ⟨fun _ => ?_, fun h => absurd (by decide) h⟩) | (refine ⟨fun h => absurd (by decide) h, fun _ => ?_⟩) | (refine ⟨fun _ => ?_, fun h => absurd h (by decide)⟩) | fail)
        rw [nI_clamp (by omega), nI_clamp (by omega), show I1 99 s.length = b from hst.2.1, show I1 99 (s.length + 1) = a from hst.1]
        refine C (hj I1 _ ?_)
        repeat (first | ((fail_if_success (show X 10 _ _ _ _ _ _ _)); apply F; conv => whnf) | (refine ⟨rfl, ?_⟩) | (refine ⟨vpk (by decide) ?_, ?_⟩; rfl) | (refine ⟨fun h => absurd h (by decide), fun _ => ?_⟩) | (refine ⟨fun _ => ?_, fun h => absurd (by decide) h⟩) | (refine ⟨fun h => absurd (by decide) h, fun _ => ?_⟩) | (refine ⟨fun _ => ?_, fun h => absurd h (by decide)⟩) | fail)
        refine ⟨vpq 32 rfl (by omega) (by decide), ?_⟩
        rw [nI_clamp (by omega)]
        repeat (first | ((fail_if_success (show X 10 _ _ _ _ _ _ _)); apply F; conv => whnf) | (refine ⟨rfl, ?_⟩) | (refine ⟨vpk (by decide) ?_, ?_⟩; rfl) | (refine ⟨fun h => absurd h (by decide), fun _ => ?_⟩) | (refine ⟨fun _ => ?_, fun h => absurd (by decide) h⟩) | (refine ⟨fun h => absurd (by decide) h, fun _ => ?_⟩) | (refine ⟨fun _ => ?_, fun h => absurd h (by decide)⟩) | fail)
        rw [nI_1]
        refine K _ _ (fr9 _ _ _ hfr) ?_
        rw [upd9]
        exact ⟨if_pos rfl, stk_up s (Nat.le_refl _) hst.2.2⟩
      · exfalso
        rw [q] at hxr
        exact absurd hxr (by decide)
  have neg : ∀ (a : Int32) (s : List Int32) (n : Nat) (I1 : mj_I) (L5 : Option Value), n < (encs ops).length → I (r + 6) (bg + n) = 10105 → s.length < 31 → (∀ b, b ≠ 99 → I1 b = I b) → stk (I1 99) (a :: s) → (∀ (I2 : mj_I) (L5' : Option Value), (∀ b, b ≠ 99 → I2 b = I b) → stk (I2 99) ((1 - a) :: s) → X 10 [some (.ref 96), some (.ref r), some (.int (nI i)), some (.int (nI (s.length + 1))), some (.int (nI (bg + (n + 1)))), L5'] [] (0, 0) (sh0 ++ e) (cp P r0 r1 r2 r3 rs kp) I2 J) → X 10 [some (.ref 96), some (.ref r), some (.int (nI i)), some (.int (nI (s.length + 1))), some (.int (nI (bg + n))), L5] [] (0, 0) (sh0 ++ e) (cp P r0 r1 r2 r3 rs kp) I1 J := by
    intro a s n I1 L5 hn hx hsl hfr hst K
    (apply F; conv => whnf)
    repeat (first | ((fail_if_success (show X 10 _ _ _ _ _ _ _)); apply F; conv => whnf) | (refine ⟨rfl, ?_⟩) | (refine ⟨vpk (by decide) ?_, ?_⟩; rfl) | (refine ⟨fun h => absurd h (by decide), fun _ => ?_⟩) | (refine ⟨fun _ => ?_, fun h => absurd (by decide) h⟩) | (refine ⟨fun h => absurd (by decide) h, fun _ => ?_⟩) | (refine ⟨fun _ => ?_, fun h => absurd h (by decide)⟩) | (refine ⟨by assumption, ?_⟩) | (rw [p4]; conv => whnf) | fail)
    rw [l5]
    refine ⟨vp_in_nI hi (by decide), ?_⟩
    repeat (first | ((fail_if_success (show X 10 _ _ _ _ _ _ _)); apply F; conv => whnf) | (refine ⟨rfl, ?_⟩) | (refine ⟨vpk (by decide) ?_, ?_⟩; rfl) | (refine ⟨fun h => absurd h (by decide), fun _ => ?_⟩) | (refine ⟨fun _ => ?_, fun h => absurd (by decide) h⟩) | (refine ⟨fun h => absurd (by decide) h, fun _ => ?_⟩) | (refine ⟨fun _ => ?_, fun h => absurd h (by decide)⟩) | fail)
    rw [nI_clamp (by omega), hfr (r + 5) (by omega), he]
    refine ⟨fun q => absurd q (nI_ge (by omega) (by omega)), fun _ => ?_⟩
    repeat (first | ((fail_if_success (show X 10 _ _ _ _ _ _ _)); apply F; conv => whnf) | (refine ⟨rfl, ?_⟩) | (refine ⟨vpk (by decide) ?_, ?_⟩; rfl) | (refine ⟨fun h => absurd h (by decide), fun _ => ?_⟩) | (refine ⟨fun _ => ?_, fun h => absurd (by decide) h⟩) | (refine ⟨fun h => absurd (by decide) h, fun _ => ?_⟩) | (refine ⟨fun _ => ?_, fun h => absurd h (by decide)⟩) | (refine ⟨by assumption, ?_⟩) | (rw [p5]; conv => whnf) | fail)
    rw [l6]
    refine ⟨vp_in_nI (by omega) (by decide), ?_⟩
    repeat (first | ((fail_if_success (show X 10 _ _ _ _ _ _ _)); apply F; conv => whnf) | (refine ⟨rfl, ?_⟩) | (refine ⟨vpk (by decide) ?_, ?_⟩; rfl) | (refine ⟨fun h => absurd h (by decide), fun _ => ?_⟩) | (refine ⟨fun _ => ?_, fun h => absurd (by decide) h⟩) | (refine ⟨fun h => absurd (by decide) h, fun _ => ?_⟩) | (refine ⟨fun _ => ?_, fun h => absurd h (by decide)⟩) | fail)
    rw [nI_clamp (by omega), hfr (r + 6) (by omega), hx]
    refine C (Ck_isOperand (fun q => absurd q (by decide)) (fun _ _ => ?_))
    repeat (first | ((fail_if_success (show X 10 _ _ _ _ _ _ _)); apply F; conv => whnf) | (refine ⟨rfl, ?_⟩) | (refine ⟨vpk (by decide) ?_, ?_⟩; rfl) | (refine ⟨fun h => absurd h (by decide), fun _ => ?_⟩) | (refine ⟨fun _ => ?_, fun h => absurd (by decide) h⟩) | (refine ⟨fun h => absurd (by decide) h, fun _ => ?_⟩) | (refine ⟨fun _ => ?_, fun h => absurd h (by decide)⟩) | fail)
    refine ⟨fun _ => ?_, fun q => absurd (nI_le (a := 1) (by omega) (by omega)) q⟩
    repeat (first | ((fail_if_success (show X 10 _ _ _ _ _ _ _)); apply F; conv => whnf) | (refine ⟨rfl, ?_⟩) | (refine ⟨vpk (by decide) ?_, ?_⟩; rfl) | (refine ⟨fun h => absurd h (by decide), fun _ => ?_⟩) | (refine ⟨fun _ => ?_, fun h => absurd (by decide) h⟩) | (refine ⟨fun h => absurd (by decide) h, fun _ => ?_⟩) | (refine ⟨fun _ => ?_, fun h => absurd h (by decide)⟩) | fail)
    rw [show nI (s.length + 1) - 1 = nI s.length from nI_pred _]
    refine ⟨vpq 32 rfl (by omega) (by decide), ?_⟩
    repeat (first | ((fail_if_success (show X 10 _ _ _ _ _ _ _)); apply F; conv => whnf) | (refine ⟨rfl, ?_⟩) | (refine ⟨vpk (by decide) ?_, ?_⟩; rfl) | (refine ⟨fun h => absurd h (by decide), fun _ => ?_⟩) | (refine ⟨fun _ => ?_, fun h => absurd (by decide) h⟩) | (refine ⟨fun h => absurd (by decide) h, fun _ => ?_⟩) | (refine ⟨fun _ => ?_, fun h => absurd h (by decide)⟩) | fail)
    refine ⟨vpq 32 rfl (by omega) (by decide), ?_⟩
    rw [nI_clamp (by omega), show I1 99 s.length = a from hst.1]
    repeat (first | ((fail_if_success (show X 10 _ _ _ _ _ _ _)); apply F; conv => whnf) | (refine ⟨rfl, ?_⟩) | (refine ⟨vpk (by decide) ?_, ?_⟩; rfl) | (refine ⟨fun h => absurd h (by decide), fun _ => ?_⟩) | (refine ⟨fun _ => ?_, fun h => absurd (by decide) h⟩) | (refine ⟨fun h => absurd (by decide) h, fun _ => ?_⟩) | (refine ⟨fun _ => ?_, fun h => absurd h (by decide)⟩) | fail)
    rw [nI_1]
    refine K _ _ (fr9 _ _ _ hfr) ?_
    rw [upd9]
    exact ⟨if_pos rfl, stk_up s (Nat.le_refl _) hst.2⟩
  have loop : ∀ (os : List (Nat × Int32)) (t : List Bool) (s : List Int32) (n : Nat) (I1 : mj_I) (L5 : Option Value), n + (encs os).length = (encs ops).length → (∀ j, j < (encs os).length → I (r + 6) (bg + n + j) = (encs os).getD j 0) → tyS t s → (∀ b, b ≠ 99 → I1 b = I b) → stk (I1 99) s → opEs f s os = [opV f ops] → opTs t os = some [true] → t.length ≤ 31 → X 10 [some (.ref 96), some (.ref r), some (.int (nI i)), some (.int (nI s.length)), some (.int (nI (bg + n))), L5] [] (0, 0) (sh0 ++ e) (cp P r0 r1 r2 r3 rs kp) I1 J := by
    intro os
    induction os with
    | nil =>
      intro t s n I1 L5 hn hs1 hty hfr hst hev hwf htl
      (apply F; conv => whnf)
      repeat (first | (apply F; conv => whnf) | (refine ⟨rfl, ?_⟩) | (refine ⟨vpk (by decide) ?_, ?_⟩; rfl) | (refine ⟨fun h => absurd h (by decide), fun _ => ?_⟩) | (refine ⟨fun _ => ?_, fun h => absurd (by decide) h⟩) | (refine ⟨fun h => absurd (by decide) h, fun _ => ?_⟩) | (refine ⟨fun _ => ?_, fun h => absurd h (by decide)⟩) | (refine ⟨by assumption, ?_⟩) | (rw [p4]; conv => whnf) | fail)
      rw [l5]
      refine ⟨vp_in_nI hi (by decide), ?_⟩
      repeat (first | (apply F; conv => whnf) | (refine ⟨rfl, ?_⟩) | (refine ⟨vpk (by decide) ?_, ?_⟩; rfl) | (refine ⟨fun h => absurd h (by decide), fun _ => ?_⟩) | (refine ⟨fun _ => ?_, fun h => absurd (by decide) h⟩) | (refine ⟨fun h => absurd (by decide) h, fun _ => ?_⟩) | (refine ⟨fun _ => ?_, fun h => absurd h (by decide)⟩) | fail)
      rw [nI_clamp (by omega), hfr (r + 5) (by omega), he]
      have hn : n = (encs ops).length := by simpa [encs] using hn
      refine ⟨fun _ => ?_, fun q => absurd (nI_le (by omega) (by omega)) q⟩
      have hev : s = [opV f ops] := hev
      subst hev
      repeat (first | (apply F; conv => whnf) | (refine ⟨rfl, ?_⟩) | (refine ⟨vpk (by decide) ?_, ?_⟩; rfl) | (refine ⟨fun h => absurd h (by decide), fun _ => ?_⟩) | (refine ⟨fun _ => ?_, fun h => absurd (by decide) h⟩) | (refine ⟨fun h => absurd (by decide) h, fun _ => ?_⟩) | (refine ⟨fun _ => ?_, fun h => absurd h (by decide)⟩) | fail)
      refine ⟨fun q => absurd q (by show ¬ nI 1 = 0; decide), fun _ => ?_⟩
      repeat (first | (apply F; conv => whnf) | (refine ⟨rfl, ?_⟩) | (refine ⟨vpk (by decide) ?_, ?_⟩; rfl) | (refine ⟨fun h => absurd h (by decide), fun _ => ?_⟩) | (refine ⟨fun _ => ?_, fun h => absurd (by decide) h⟩) | (refine ⟨fun h => absurd (by decide) h, fun _ => ?_⟩) | (refine ⟨fun _ => ?_, fun h => absurd h (by decide)⟩) | fail)
      rw [show I1 99 (Int32.toNatClampNeg 0) = opV f ops from hst.1]
      refine ⟨fun q => ?_, fun q => ?_⟩
      · repeat (first | (apply F; conv => whnf) | (refine ⟨rfl, ?_⟩) | (refine ⟨vpk (by decide) ?_, ?_⟩; rfl) | (refine ⟨fun h => absurd h (by decide), fun _ => ?_⟩) | (refine ⟨fun _ => ?_, fun h => absurd (by decide) h⟩) | (refine ⟨fun h => absurd (by decide) h, fun _ => ?_⟩) | (refine ⟨fun _ => ?_, fun h => absurd h (by decide)⟩) | fail)
        exact h0 ⟨hne, q⟩ I1 hfr
      · repeat (first | (apply F; conv => whnf) | (refine ⟨rfl, ?_⟩) | (refine ⟨vpk (by decide) ?_, ?_⟩; rfl) | (refine ⟨fun h => absurd h (by decide), fun _ => ?_⟩) | (refine ⟨fun _ => ?_, fun h => absurd (by decide) h⟩) | (refine ⟨fun h => absurd (by decide) h, fun _ => ?_⟩) | (refine ⟨fun _ => ?_, fun h => absurd h (by decide)⟩) | fail)
        exact h1 (Or.inr (hv2.resolve_left q)) I1 hfr
    | cons o os ih =>
      intro t s n I1 L5 hn hs1 hty hfr hst hev hwf htl
      have hle : (encs (o :: os)).length = (encC o).length + (encs os).length := by simp [encs]
      unfold opTs at hwf
      cases hq : opT t o with
      | none => rw [hq] at hwf; cases hwf
      | some t2 =>
        rw [hq] at hwf
        have hwf : opTs t2 os = some [true] := hwf
        have hty2 := tyS_step (f := f) hty hq
        have hlen := tyS_len _ _ hty
        have hev : opEs f (opE f s o) os = [opV f ops] := hev
        have hpos : 0 < (encC o).length := by unfold encC; split; · simp
                                              split; · simp
                                              split <;> simp
        have hs2 : ∀ j, j < (encs os).length → I (r + 6) (bg + (n + (encC o).length) + j) = (encs os).getD j 0 := fun j hj => by
          have := hs1 ((encC o).length + j) (by omega)
          rw [show bg + (n + (encC o).length) + j = bg + n + ((encC o).length + j) by omega, this]
          simp [encs, List.getD_eq_getElem?_getD, List.getElem?_append_right]
        have hk0 : ∀ k, k < (encC o).length → I (r + 6) (bg + n + k) = (encC o).getD k 0 := fun k hk => by
          rw [hs1 k (by omega)]
          simp [encs, List.getD_eq_getElem?_getD, List.getElem?_append_left hk]
        rcases opT_cases hq with ⟨e0, g1, g2, g3, rfl⟩ | ⟨⟨c1, c2⟩, g1, rfl⟩ | ⟨e0, u, rfl, g1, g2, g3, rfl⟩ | ⟨e0, u, rfl, rfl⟩ | ⟨e0, u, rfl, rfl⟩ | ⟨e0, u, rfl, rfl⟩ | ⟨e0, u, rfl, rfl⟩
        · have hEn : encC o = [o.2] := by unfold encC; rw [if_pos e0]
          have hE : opE f s o = o.2 :: s := by unfold opE; rw [if_pos e0]
          rw [hEn] at hk0 hs2 hle
          rw [hE] at hev hty2
          have hx : I (r + 6) (bg + n) = o.2 := hk0 0 (by simp)
          simp only [List.length_singleton] at hle
          refine push o.2 o.2 s n I1 L5 (by omega) hx (by omega) hfr hst (Or.inl ⟨g3, rfl⟩) (fun I2 L5' hfr2 hst2 => ?_)
          exact ih _ (o.2 :: s) (n + 1) I2 L5' (by omega) hs2 hty2 hfr2 hst2 hev hwf (by simp at htl ⊢; omega)
        · have hEn : encC o = [nI (10105 + o.1)] := by unfold encC; rw [if_neg (by omega), if_pos c2]
          have hE : opE f s o = f o.1 :: s := by unfold opE; rw [if_neg (by omega), if_pos c2]
          rw [hEn] at hk0 hs2 hle
          rw [hE] at hev hty2
          have hx : I (r + 6) (bg + n) = nI (10105 + o.1) := hk0 0 (by simp)
          simp only [List.length_singleton] at hle
          refine push _ (f o.1) s n I1 L5 (by omega) hx (by omega) hfr hst (Or.inr ⟨o.1, c1, c2, rfl, rfl⟩) (fun I2 L5' hfr2 hst2 => ?_)
          exact ih _ (f o.1 :: s) (n + 1) I2 L5' (by omega) hs2 hty2 hfr2 hst2 hev hwf (by simp at htl ⊢; omega)
        · match s, hty with
          | a :: s, hty =>
            have hlen : s.length = u.length := by simpa using hlen
            have hEn : encC o = [o.2, 10247] := by unfold encC; rw [if_neg (by omega), if_neg (by omega), if_pos e0]
            have hE : opE f (a :: s) o = a / o.2 :: s := by unfold opE; rw [if_neg (by omega), if_neg (by omega)]; simp only [e0, if_true]
            rw [hEn] at hk0 hs2 hle
            rw [hE] at hev hty2
            have hx : I (r + 6) (bg + n) = o.2 := hk0 0 (by simp)
            have hx2 : I (r + 6) (bg + (n + 1)) = 10247 := hk0 1 (by simp)
            simp only [List.length_cons, List.length_nil] at hle
            have hnz : ¬ o.2 = 0 := fun z => by rw [z] at g2; exact absurd g2 (by decide)
            refine push o.2 o.2 (a :: s) n I1 L5 (by omega) hx (by simp; omega) hfr hst (Or.inl ⟨g3, rfl⟩) (fun I2 L5' hfr2 hst2 => ?_)
            refine bin 10247 o.2 a (a / o.2) s (n + 1) I2 L5' (by omega) hx2 (by omega) hfr2 hst2 (by decide) (fun I' Q' hq' => Ck_joinP hnz hq') (fun I9 L5'' hfr3 hst3 => ?_)
            exact ih _ (a / o.2 :: s) (n + 2) I9 L5'' (by omega) hs2 hty2 hfr3 hst3 hev hwf (by simp at htl ⊢; omega)
        · match s, hty with
          | a :: s, hty =>
            have hlen : s.length = u.length := by simpa using hlen
            have hEn : encC o = [10105] := by unfold encC; rw [if_neg (by omega), if_neg (by omega), if_neg (by omega), e0]; rfl
            have hE : opE f (a :: s) o = (1 - a) :: s := by unfold opE; rw [if_neg (by omega), if_neg (by omega)]; simp only [e0]; rfl
            rw [hEn] at hk0 hs2 hle
            rw [hE] at hev hty2
            have hx : I (r + 6) (bg + n) = 10105 := hk0 0 (by simp)
            simp only [List.length_singleton] at hle
            refine neg a s n I1 L5 (by omega) hx ?_ hfr hst (fun I2 L5' hfr2 hst2 => ?_)
            · simp at htl; omega
            · exact ih _ ((1 - a) :: s) (n + 1) I2 L5' (by omega) hs2 hty2 hfr2 hst2 hev hwf (by simp at htl ⊢; omega)
        · match s, hty with
          | a :: b :: s, hty =>
            have hlen : s.length = u.length := by simpa using hlen
            have hEn : encC o = [tokC o.1] := by unfold encC; rw [if_neg (by omega), if_neg (by omega), if_neg (by omega)]
            have hE : opE f (a :: b :: s) o = opB o.1 b a :: s := by unfold opE; rw [if_neg (by omega), if_neg (by omega)]; simp only; rw [if_neg (by omega), if_neg (by omega)]
            rw [hEn] at hk0 hs2 hle
            rw [hE] at hev hty2
            have hx : I (r + 6) (bg + n) = tokC o.1 := hk0 0 (by simp)
            simp only [List.length_singleton] at hle
            refine bin (tokC o.1) a b (opB o.1 b a) s n I1 L5 (by omega) hx (by simp at htl; omega) hfr hst (by rcases e0 with e | e | e <;> rw [e] <;> decide) (fun I' Q' hq' => Ck_join (by omega) hq') (fun I2 L5' hfr2 hst2 => ?_)
            exact ih _ (opB o.1 b a :: s) (n + 1) I2 L5' (by omega) hs2 hty2 hfr2 hst2 hev hwf (by simp at htl ⊢; omega)
        · match s, hty with
          | a :: b :: s, hty =>
            have hlen : s.length = u.length := by simpa using hlen
            have hEn : encC o = [tokC o.1] := by unfold encC; rw [if_neg (by omega), if_neg (by omega), if_neg (by omega)]
            have hE : opE f (a :: b :: s) o = opB o.1 b a :: s := by unfold opE; rw [if_neg (by omega), if_neg (by omega)]; simp only; rw [if_neg (by omega), if_neg (by omega)]
            rw [hEn] at hk0 hs2 hle
            rw [hE] at hev hty2
            have hx : I (r + 6) (bg + n) = tokC o.1 := hk0 0 (by simp)
            simp only [List.length_singleton] at hle
            refine bin (tokC o.1) a b (opB o.1 b a) s n I1 L5 (by omega) hx (by simp at htl; omega) hfr hst (by rcases e0 with e | e | e <;> rw [e] <;> decide) (fun I' Q' hq' => Ck_join (by omega) hq') (fun I2 L5' hfr2 hst2 => ?_)
            exact ih _ (opB o.1 b a :: s) (n + 1) I2 L5' (by omega) hs2 hty2 hfr2 hst2 hev hwf (by simp at htl ⊢; omega)
        · match s, hty with
          | a :: b :: s, hty =>
            have hlen : s.length = u.length := by simpa using hlen
            have hEn : encC o = [tokC o.1] := by unfold encC; rw [if_neg (by omega), if_neg (by omega), if_neg (by omega)]
            have hE : opE f (a :: b :: s) o = opB o.1 b a :: s := by unfold opE; rw [if_neg (by omega), if_neg (by omega)]; simp only; rw [if_neg (by omega), if_neg (by omega)]
            rw [hEn] at hk0 hs2 hle
            rw [hE] at hev hty2
            have hx : I (r + 6) (bg + n) = tokC o.1 := hk0 0 (by simp)
            simp only [List.length_singleton] at hle
            refine bin (tokC o.1) a b (opB o.1 b a) s n I1 L5 (by omega) hx (by simp at htl; omega) hfr hst (by rcases e0 with e | e <;> rw [e] <;> decide) (fun I' Q' hq' => Ck_join (by omega) hq') (fun I2 L5' hfr2 hst2 => ?_)
            exact ih _ (opB o.1 b a :: s) (n + 1) I2 L5' (by omega) hs2 hty2 hfr2 hst2 hev hwf (by simp at htl ⊢; omega)
  exact loop ops [] [] 0 I none (by omega) (fun j hj => hs j hj) trivial (fun _ _ => rfl) trivial hv hw (Nat.zero_le 31)
