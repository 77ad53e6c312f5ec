/-! comesTo, the reference's working out of a condition -/
theorem ix_st (k m : Nat) : (2000 : Int32) + 820 * nI k + 2 * nI m = nI (2000 + 820 * k + 2 * m) := by
  show nI 2000 + nI 820 * nI k + nI 2 * nI m = _
  rw [pk_mul, pk_mul, nI_add, nI_add]
/-- the reference's steps from place b0 on, of kind k -/
def stM (I : mj_I) (w k b0 : Nat) (ops : List (Nat × Int32)) : Prop := ∀ j, j < ops.length → I w (2000 + 820 * k + 2 * (b0 + j)) = nI (ops.getD j (0, 0)).1 ∧ (((ops.getD j (0, 0)).1 = 0 ∨ (ops.getD j (0, 0)).1 = 16) → I w (2000 + 820 * k + 2 * (b0 + j) + 1) = (ops.getD j (0, 0)).2)
set_option maxHeartbeats 4000000 in
theorem Mo_comesTo {d : Nat} {e : mj_S} {P : mj_P} {r0 r1 r2 r3 rs : Nat} {kp : Option Nat} {I : mj_I} {J : mj_J} {Q : mj_Q} {k b0 : Nat} {ops : List (Nat × Int32)} {f : Nat → Int32} (hk : k < 4) (hl : b0 + ops.length ≤ 410) (hs : stM I 140 k b0 ops) (hf : ∀ c, 0 < c → c < 7 → I 148 c = f c) (hw : wfO ops) (hQ : ∀ I', (∀ b, b ≠ 147 → I' b = I b) → Q (some (.int (opV f ops))) (sh0 ++ e) (cp P r0 r1 r2 r3 rs kp) I' J) : mj_ret mj_pr (d + 2) n_Mo_comesTo [.ref 139, .int (nI k), .int (nI b0), .int (nI (b0 + ops.length))] (0, 0) (sh0 ++ e) (cp P r0 r1 r2 r3 rs kp) I J Q := by
  refine mj_in2 8 t_Mo_comesTo rfl rfl (fun X cr C F => ?_)
  repeat (first | ((fail_if_success (show X 6 _ _ _ _ _ _ _)); apply F; conv => whnf) | (refine ⟨rfl, ?_⟩) | (refine ⟨vpk (by decide) ?_, ?_⟩; rfl) | (refine ⟨fun h => absurd h (by decide), fun _ => ?_⟩) | (refine ⟨fun _ => ?_, fun h => absurd (by decide) h⟩) | (refine ⟨fun h => absurd (by decide) h, fun _ => ?_⟩) | (refine ⟨fun _ => ?_, fun h => absurd h (by decide)⟩) | fail)
  obtain ⟨hv, hv2⟩ := wfO_val (f := f) hw
  have updm : ∀ (I1 : mj_I) (k : Nat) (v : Int32), mj_u I1 147 k v 147 = fun j => if j = k then v else I1 147 j := fun I1 k v => by funext j; simp [mj_u]
  have frm : ∀ (I1 : mj_I) (k : Nat) (v : Int32), (∀ b, b ≠ 147 → I1 b = I b) → ∀ b, b ≠ 147 → mj_u I1 147 k v b = I b := fun I1 k v h b hb => by rw [mj_u_row _ _ _ _ hb]; exact h b hb
  have loop : ∀ (os : List (Nat × Int32)) (t : List Bool) (s : List Int32) (n : Nat) (I1 : mj_I) (L6 L7 : Option Value), n + os.length = ops.length → os = ops.drop n → tyS t s → (∀ b, b ≠ 147 → I1 b = I b) → stk (I1 147) s → opEs f s os = [opV f ops] → opTs t os = some [true] → t.length ≤ 31 → X 6 [some (.ref 139), some (.int (nI k)), some (.int (nI b0)), some (.int (nI (b0 + ops.length))), some (.int (nI s.length)), some (.int (nI (b0 + n))), L6, L7] [] (0, 0) (sh0 ++ e) (cp P r0 r1 r2 r3 rs kp) I1 J := by
    intro os
    induction os with
    | nil =>
      intro t s n I1 L6 L7 hn hd hty hfr hst hev hwf htl
      (apply F; conv => whnf)
      repeat (first | (apply F; conv => whnf) | (refine ⟨rfl, ?_⟩) | (refine ⟨vpk (by decide) ?_, ?_⟩; rfl) | (refine ⟨fun h => absurd h (by decide), fun _ => ?_⟩) | (refine ⟨fun _ => ?_, fun h => absurd (by decide) h⟩) | (refine ⟨fun h => absurd (by decide) h, fun _ => ?_⟩) | (refine ⟨fun _ => ?_, fun h => absurd h (by decide)⟩) | fail)
      simp only [List.length_nil, Nat.add_zero] at hn
      refine ⟨fun _ => ?_, fun q => absurd (nI_le (by omega) (by omega)) q⟩
      have hev : s = [opV f ops] := hev
      subst hev
      repeat (first | (apply F; conv => whnf) | (refine ⟨rfl, ?_⟩) | (refine ⟨vpk (by decide) ?_, ?_⟩; rfl) | (refine ⟨fun h => absurd h (by decide), fun _ => ?_⟩) | (refine ⟨fun _ => ?_, fun h => absurd (by decide) h⟩) | (refine ⟨fun h => absurd (by decide) h, fun _ => ?_⟩) | (refine ⟨fun _ => ?_, fun h => absurd h (by decide)⟩) | fail)
      rw [show I1 147 (Int32.toNatClampNeg 0) = opV f ops from hst.1]
      exact hQ I1 hfr
    | cons o os ih =>
      intro t s n I1 L6 L7 hn hd hty hfr hst hev hwf htl
      simp only [List.length_cons] at hn
      have hg : ops.getD n (0, 0) = o := by
        have : (ops.drop n)[0]? = some o := by rw [← hd]; rfl
        rw [List.getElem?_drop] at this
        rw [Nat.add_zero] at this
        rw [List.getD_eq_getElem?_getD, this]
        rfl
      have hd2 : os = ops.drop (n + 1) := by rw [← List.drop_drop, ← hd]; rfl
      have hsn := hs n (by omega)
      rw [hg] at hsn
      unfold opTs at hwf
      cases hq : opT t o with
      | none => rw [hq] at hwf; cases hwf
      | some t2 =>
        rw [hq] at hwf
        have hwf : opTs t2 os = some [true] := hwf
        have hty2 := tyS_step (f := f) hty hq
        have hlen := tyS_len _ _ hty
        have hev : opEs f (opE f s o) os = [opV f ops] := hev
        (apply F; conv => whnf)
        repeat (first | (apply F; conv => whnf) | (refine ⟨rfl, ?_⟩) | (refine ⟨vpk (by decide) ?_, ?_⟩; rfl) | (refine ⟨fun h => absurd h (by decide), fun _ => ?_⟩) | (refine ⟨fun _ => ?_, fun h => absurd (by decide) h⟩) | (refine ⟨fun h => absurd (by decide) h, fun _ => ?_⟩) | (refine ⟨fun _ => ?_, fun h => absurd h (by decide)⟩) | fail)
        refine ⟨fun q => absurd q (nI_ge (by omega) (by omega)), fun _ => ?_⟩
        repeat (first | (apply F; conv => whnf) | (refine ⟨rfl, ?_⟩) | (refine ⟨vpk (by decide) ?_, ?_⟩; rfl) | (refine ⟨fun h => absurd h (by decide), fun _ => ?_⟩) | (refine ⟨fun _ => ?_, fun h => absurd (by decide) h⟩) | (refine ⟨fun h => absurd (by decide) h, fun _ => ?_⟩) | (refine ⟨fun _ => ?_, fun h => absurd h (by decide)⟩) | fail)
        rw [ix_st]
        refine ⟨vpq 5280 rfl (by omega) (by decide), ?_⟩
        repeat (first | (apply F; conv => whnf) | (refine ⟨rfl, ?_⟩) | (refine ⟨vpk (by decide) ?_, ?_⟩; rfl) | (refine ⟨fun h => absurd h (by decide), fun _ => ?_⟩) | (refine ⟨fun _ => ?_, fun h => absurd (by decide) h⟩) | (refine ⟨fun h => absurd (by decide) h, fun _ => ?_⟩) | (refine ⟨fun _ => ?_, fun h => absurd h (by decide)⟩) | fail)
        rw [ix_st]
        have e1 : nI (2000 + 820 * k + 2 * (b0 + n)) + 1 = nI (2000 + 820 * k + 2 * (b0 + n) + 1) := nI_1 _
        rw [e1]
        refine ⟨vpq 5280 rfl (by omega) (by decide), ?_⟩
        rw [nI_clamp (by omega), nI_clamp (by omega), hfr 140 (by decide), hsn.1]
        generalize hvv : I 140 (2000 + 820 * k + 2 * (b0 + n) + 1) = v at hsn
        have fin : ∀ (z : Int32) (s' : List Int32) (L6 L7 : Option Value), opE f s o = z :: s' → stk (I1 147) s' → s'.length ≤ 31 → X 180 [some (.ref 139), some (.int (nI k)), some (.int (nI b0)), some (.int (nI (b0 + ops.length))), some (.int (nI (s'.length + 1))), some (.int (nI (b0 + n))), L6, L7] [] (0, 0) (sh0 ++ e) (cp P r0 r1 r2 r3 rs kp) (mj_u I1 147 s'.length z) J := fun z s' L6 L7 he hst' hl' => by
          (apply F; conv => whnf)
          rw [nI_1]
          repeat (first | ((fail_if_success (show X 6 _ _ _ _ _ _ _)); apply F; conv => whnf) | (refine ⟨rfl, ?_⟩) | (refine ⟨vpk (by decide) ?_, ?_⟩; rfl) | (refine ⟨fun h => absurd h (by decide), fun _ => ?_⟩) | (refine ⟨fun _ => ?_, fun h => absurd (by decide) h⟩) | (refine ⟨fun h => absurd (by decide) h, fun _ => ?_⟩) | (refine ⟨fun _ => ?_, fun h => absurd h (by decide)⟩) | fail)
          rw [he] at hev hty2
          refine ih t2 (z :: s') (n + 1) _ _ _ (by omega) hd2 hty2 (frm _ _ _ hfr) ?_ hev hwf ?_
          · rw [updm]
            exact ⟨if_pos rfl, stk_up s' (Nat.le_refl _) hst'⟩
          · rcases opT_cases hq with ⟨e0, g1, g2, g3, rfl⟩ | ⟨⟨c1, c2⟩, g1, rfl⟩ | ⟨e0, u, rfl, g1, g2, g3, rfl⟩ | ⟨e0, u, rfl, rfl⟩ | ⟨e0, u, rfl, rfl⟩ | ⟨e0, u, rfl, rfl⟩ | ⟨e0, u, rfl, rfl⟩ <;> simp at htl ⊢ <;> omega
        rcases opT_cases hq with ⟨e0, g1, g2, g3, rfl⟩ | ⟨⟨c1, c2⟩, g1, rfl⟩ | ⟨e0, u, rfl, g1, g2, g3, rfl⟩ | ⟨e0, u, rfl, rfl⟩ | ⟨e0, u, rfl, rfl⟩ | ⟨e0, u, rfl, rfl⟩ | ⟨e0, u, rfl, rfl⟩
        · have hE : opE f s o = o.2 :: s := by unfold opE; rw [if_pos e0]
          have hv9 : v = o.2 := hsn.2 (Or.inl e0)
          subst hv9
          rw [e0]
          repeat (first | ((fail_if_success (show X 180 _ _ _ _ _ _ _)); apply F; conv => whnf) | (refine ⟨rfl, ?_⟩) | (refine ⟨vpk (by decide) ?_, ?_⟩; rfl) | (refine ⟨fun h => absurd h (by decide), fun _ => ?_⟩) | (refine ⟨fun _ => ?_, fun h => absurd (by decide) h⟩) | (refine ⟨fun h => absurd (by decide) h, fun _ => ?_⟩) | (refine ⟨fun _ => ?_, fun h => absurd h (by decide)⟩) | fail)
          refine ⟨vpq 420 rfl (by omega) (by decide), ?_⟩
          rw [nI_clamp (by omega)]
          repeat (first | ((fail_if_success (show X 180 _ _ _ _ _ _ _)); apply F; conv => whnf) | (refine ⟨rfl, ?_⟩) | (refine ⟨vpk (by decide) ?_, ?_⟩; rfl) | (refine ⟨fun h => absurd h (by decide), fun _ => ?_⟩) | (refine ⟨fun _ => ?_, fun h => absurd (by decide) h⟩) | (refine ⟨fun h => absurd (by decide) h, fun _ => ?_⟩) | (refine ⟨fun _ => ?_, fun h => absurd h (by decide)⟩) | fail)
          rw [nI_1]
          exact fin _ s _ _ hE hst (by omega)
        · have hE : opE f s o = f o.1 :: s := by unfold opE; rw [if_neg (by omega), if_pos c2]
          repeat (first | ((fail_if_success (show X 180 _ _ _ _ _ _ _)); apply F; conv => whnf) | (refine ⟨rfl, ?_⟩) | (refine ⟨vpk (by decide) ?_, ?_⟩; rfl) | (refine ⟨fun h => absurd h (by decide), fun _ => ?_⟩) | (refine ⟨fun _ => ?_, fun h => absurd (by decide) h⟩) | (refine ⟨fun h => absurd (by decide) h, fun _ => ?_⟩) | (refine ⟨fun _ => ?_, fun h => absurd h (by decide)⟩) | fail)
          refine ⟨fun q => absurd q (nI_ge (b := 13) (by omega) (by omega)), fun _ => ?_⟩
          repeat (first | ((fail_if_success (show X 180 _ _ _ _ _ _ _)); apply F; conv => whnf) | (refine ⟨rfl, ?_⟩) | (refine ⟨vpk (by decide) ?_, ?_⟩; rfl) | (refine ⟨fun h => absurd h (by decide), fun _ => ?_⟩) | (refine ⟨fun _ => ?_, fun h => absurd (by decide) h⟩) | (refine ⟨fun h => absurd (by decide) h, fun _ => ?_⟩) | (refine ⟨fun _ => ?_, fun h => absurd h (by decide)⟩) | fail)
          refine ⟨fun _ => ?_, fun q => absurd q (nI_ne0 c1 (by omega))⟩
          repeat (first | ((fail_if_success (show X 180 _ _ _ _ _ _ _)); apply F; conv => whnf) | (refine ⟨rfl, ?_⟩) | (refine ⟨vpk (by decide) ?_, ?_⟩; rfl) | (refine ⟨fun h => absurd h (by decide), fun _ => ?_⟩) | (refine ⟨fun _ => ?_, fun h => absurd (by decide) h⟩) | (refine ⟨fun h => absurd (by decide) h, fun _ => ?_⟩) | (refine ⟨fun _ => ?_, fun h => absurd h (by decide)⟩) | fail)
          refine ⟨vpq 7 rfl (by omega) (by decide), ?_⟩
          repeat (first | ((fail_if_success (show X 180 _ _ _ _ _ _ _)); apply F; conv => whnf) | (refine ⟨rfl, ?_⟩) | (refine ⟨vpk (by decide) ?_, ?_⟩; rfl) | (refine ⟨fun h => absurd h (by decide), fun _ => ?_⟩) | (refine ⟨fun _ => ?_, fun h => absurd (by decide) h⟩) | (refine ⟨fun h => absurd (by decide) h, fun _ => ?_⟩) | (refine ⟨fun _ => ?_, fun h => absurd h (by decide)⟩) | fail)
          refine ⟨vpq 420 rfl (by omega) (by decide), ?_⟩
          rw [nI_clamp (by omega), nI_clamp (by omega), hfr 148 (by decide), hf o.1 c1 c2]
          repeat (first | ((fail_if_success (show X 180 _ _ _ _ _ _ _)); apply F; conv => whnf) | (refine ⟨rfl, ?_⟩) | (refine ⟨vpk (by decide) ?_, ?_⟩; rfl) | (refine ⟨fun h => absurd h (by decide), fun _ => ?_⟩) | (refine ⟨fun _ => ?_, fun h => absurd (by decide) h⟩) | (refine ⟨fun h => absurd (by decide) h, fun _ => ?_⟩) | (refine ⟨fun _ => ?_, fun h => absurd h (by decide)⟩) | fail)
          rw [nI_1]
          exact fin _ s _ _ hE hst (by omega)
        · match s, hty with
          | a :: s, hty =>
            have hlen : s.length = u.length := by simpa using hlen
            have hE : opE f (a :: s) o = a / o.2 :: s := by unfold opE; rw [if_neg (by omega), if_neg (by omega)]; simp only [e0, if_true]
            have hv9 : v = o.2 := hsn.2 (Or.inr e0)
            subst hv9
            have hnz : ¬ o.2 = 0 := fun z => by rw [z] at g2; exact absurd g2 (by decide)
            rw [e0]
            repeat (first | ((fail_if_success (show X 180 _ _ _ _ _ _ _)); apply F; conv => whnf) | (refine ⟨rfl, ?_⟩) | (refine ⟨vpk (by decide) ?_, ?_⟩; rfl) | (refine ⟨fun h => absurd h (by decide), fun _ => ?_⟩) | (refine ⟨fun _ => ?_, fun h => absurd (by decide) h⟩) | (refine ⟨fun h => absurd (by decide) h, fun _ => ?_⟩) | (refine ⟨fun _ => ?_, fun h => absurd h (by decide)⟩) | fail)
            rw [show nI (a :: s).length - 1 = nI s.length from nI_pred _]
            refine ⟨vpq 420 rfl (by omega) (by decide), ?_⟩
            repeat (first | ((fail_if_success (show X 180 _ _ _ _ _ _ _)); apply F; conv => whnf) | (refine ⟨rfl, ?_⟩) | (refine ⟨vpk (by decide) ?_, ?_⟩; rfl) | (refine ⟨fun h => absurd h (by decide), fun _ => ?_⟩) | (refine ⟨fun _ => ?_, fun h => absurd (by decide) h⟩) | (refine ⟨fun h => absurd (by decide) h, fun _ => ?_⟩) | (refine ⟨fun _ => ?_, fun h => absurd h (by decide)⟩) | fail)
            refine ⟨hnz, ?_⟩
            repeat (first | ((fail_if_success (show X 180 _ _ _ _ _ _ _)); apply F; conv => whnf) | (refine ⟨rfl, ?_⟩) | (refine ⟨vpk (by decide) ?_, ?_⟩; rfl) | (refine ⟨fun h => absurd h (by decide), fun _ => ?_⟩) | (refine ⟨fun _ => ?_, fun h => absurd (by decide) h⟩) | (refine ⟨fun h => absurd (by decide) h, fun _ => ?_⟩) | (refine ⟨fun _ => ?_, fun h => absurd h (by decide)⟩) | fail)
            refine ⟨vpq 420 rfl (by omega) (by decide), ?_⟩
            rw [nI_clamp (by omega), show I1 147 s.length = a from hst.1]
            repeat (first | ((fail_if_success (show X 180 _ _ _ _ _ _ _)); apply F; conv => whnf) | (refine ⟨rfl, ?_⟩) | (refine ⟨vpk (by decide) ?_, ?_⟩; rfl) | (refine ⟨fun h => absurd h (by decide), fun _ => ?_⟩) | (refine ⟨fun _ => ?_, fun h => absurd (by decide) h⟩) | (refine ⟨fun h => absurd (by decide) h, fun _ => ?_⟩) | (refine ⟨fun _ => ?_, fun h => absurd h (by decide)⟩) | fail)
            exact fin _ s _ _ hE hst.2 (by omega)
        · match s, hty with
          | a :: s, hty =>
            have hlen : s.length = u.length := by simpa using hlen
            have hE : opE f (a :: s) o = (1 - a) :: s := by unfold opE; rw [if_neg (by omega), if_neg (by omega)]; simp only [e0]; rfl
            rw [e0]
            repeat (first | ((fail_if_success (show X 180 _ _ _ _ _ _ _)); apply F; conv => whnf) | (refine ⟨rfl, ?_⟩) | (refine ⟨vpk (by decide) ?_, ?_⟩; rfl) | (refine ⟨fun h => absurd h (by decide), fun _ => ?_⟩) | (refine ⟨fun _ => ?_, fun h => absurd (by decide) h⟩) | (refine ⟨fun h => absurd (by decide) h, fun _ => ?_⟩) | (refine ⟨fun _ => ?_, fun h => absurd h (by decide)⟩) | fail)
            rw [show nI (a :: s).length - 1 = nI s.length from nI_pred _]
            simp at htl
            refine ⟨vpq 420 rfl (by omega) (by decide), ?_⟩
            repeat (first | ((fail_if_success (show X 180 _ _ _ _ _ _ _)); apply F; conv => whnf) | (refine ⟨rfl, ?_⟩) | (refine ⟨vpk (by decide) ?_, ?_⟩; rfl) | (refine ⟨fun h => absurd h (by decide), fun _ => ?_⟩) | (refine ⟨fun _ => ?_, fun h => absurd (by decide) h⟩) | (refine ⟨fun h => absurd (by decide) h, fun _ => ?_⟩) | (refine ⟨fun _ => ?_, fun h => absurd h (by decide)⟩) | fail)
            refine ⟨vpq 420 rfl (by omega) (by decide), ?_⟩
            rw [nI_clamp (by omega), show I1 147 s.length = a from hst.1]
            repeat (first | ((fail_if_success (show X 180 _ _ _ _ _ _ _)); apply F; conv => whnf) | (refine ⟨rfl, ?_⟩) | (refine ⟨vpk (by decide) ?_, ?_⟩; rfl) | (refine ⟨fun h => absurd h (by decide), fun _ => ?_⟩) | (refine ⟨fun _ => ?_, fun h => absurd (by decide) h⟩) | (refine ⟨fun h => absurd (by decide) h, fun _ => ?_⟩) | (refine ⟨fun _ => ?_, fun h => absurd h (by decide)⟩) | fail)
            exact fin _ s _ _ hE hst.2 (by omega)
        · match s, hty with
          | a :: b :: s, hty =>
            have hlen : s.length = u.length := by simpa using hlen
            have hE : opE f (a :: b :: s) o = opB o.1 b a :: s := by unfold opE; rw [if_neg (by omega), if_neg (by omega)]; simp only; rw [if_neg (by omega), if_neg (by omega)]
            simp at htl
            repeat (first | ((fail_if_success (show X 180 _ _ _ _ _ _ _)); apply F; conv => whnf) | (refine ⟨rfl, ?_⟩) | (refine ⟨vpk (by decide) ?_, ?_⟩; rfl) | (refine ⟨fun h => absurd h (by decide), fun _ => ?_⟩) | (refine ⟨fun _ => ?_, fun h => absurd (by decide) h⟩) | (refine ⟨fun h => absurd (by decide) h, fun _ => ?_⟩) | (refine ⟨fun _ => ?_, fun h => absurd h (by decide)⟩) | fail)
            refine ⟨fun _ => ?_, fun q => absurd (nI_le (a := 13) (by omega) (by omega)) q⟩
            repeat (first | ((fail_if_success (show X 180 _ _ _ _ _ _ _)); apply F; conv => whnf) | (refine ⟨rfl, ?_⟩) | (refine ⟨vpk (by decide) ?_, ?_⟩; rfl) | (refine ⟨fun h => absurd h (by decide), fun _ => ?_⟩) | (refine ⟨fun _ => ?_, fun h => absurd (by decide) h⟩) | (refine ⟨fun h => absurd (by decide) h, fun _ => ?_⟩) | (refine ⟨fun _ => ?_, fun h => absurd h (by decide)⟩) | fail)
            refine ⟨fun _ => ?_, fun q => absurd ((nI_eq (b := 16) (by omega) (by omega)).mp q) (by omega)⟩
            repeat (first | ((fail_if_success (show X 180 _ _ _ _ _ _ _)); apply F; conv => whnf) | (refine ⟨rfl, ?_⟩) | (refine ⟨vpk (by decide) ?_, ?_⟩; rfl) | (refine ⟨fun h => absurd h (by decide), fun _ => ?_⟩) | (refine ⟨fun _ => ?_, fun h => absurd (by decide) h⟩) | (refine ⟨fun h => absurd (by decide) h, fun _ => ?_⟩) | (refine ⟨fun _ => ?_, fun h => absurd h (by decide)⟩) | fail)
            refine ⟨fun _ => ?_, fun q => absurd ((nI_eq (b := 20) (by omega) (by omega)).mp q) (by omega)⟩
            repeat (first | ((fail_if_success (show X 180 _ _ _ _ _ _ _)); apply F; conv => whnf) | (refine ⟨rfl, ?_⟩) | (refine ⟨vpk (by decide) ?_, ?_⟩; rfl) | (refine ⟨fun h => absurd h (by decide), fun _ => ?_⟩) | (refine ⟨fun _ => ?_, fun h => absurd (by decide) h⟩) | (refine ⟨fun h => absurd (by decide) h, fun _ => ?_⟩) | (refine ⟨fun _ => ?_, fun h => absurd h (by decide)⟩) | fail)
            rw [show nI (a :: b :: s).length + -1 = nI (s.length + 1) from pk_m1 _, show nI (s.length + 1) - 1 = nI s.length from nI_pred _]
            refine ⟨vpq 420 rfl (by omega) (by decide), ?_⟩
            repeat (first | ((fail_if_success (show X 180 _ _ _ _ _ _ _)); apply F; conv => whnf) | (refine ⟨rfl, ?_⟩) | (refine ⟨vpk (by decide) ?_, ?_⟩; rfl) | (refine ⟨fun h => absurd h (by decide), fun _ => ?_⟩) | (refine ⟨fun _ => ?_, fun h => absurd (by decide) h⟩) | (refine ⟨fun h => absurd (by decide) h, fun _ => ?_⟩) | (refine ⟨fun _ => ?_, fun h => absurd h (by decide)⟩) | fail)
            refine ⟨vpq 420 rfl (by omega) (by decide), ?_⟩
            rw [nI_clamp (by omega), nI_clamp (by omega), show I1 147 s.length = b from hst.2.1, show I1 147 (s.length + 1) = a from hst.1]
            repeat (first | ((fail_if_success (show X 180 _ _ _ _ _ _ _)); apply F; conv => whnf) | (refine ⟨rfl, ?_⟩) | (refine ⟨vpk (by decide) ?_, ?_⟩; rfl) | (refine ⟨fun h => absurd h (by decide), fun _ => ?_⟩) | (refine ⟨fun _ => ?_, fun h => absurd (by decide) h⟩) | (refine ⟨fun h => absurd (by decide) h, fun _ => ?_⟩) | (refine ⟨fun _ => ?_, fun h => absurd h (by decide)⟩) | fail)
            refine C (Mo_both (by omega) ?_)
            repeat (first | ((fail_if_success (show X 180 _ _ _ _ _ _ _)); apply F; conv => whnf) | (refine ⟨rfl, ?_⟩) | (refine ⟨vpk (by decide) ?_, ?_⟩; rfl) | (refine ⟨fun h => absurd h (by decide), fun _ => ?_⟩) | (refine ⟨fun _ => ?_, fun h => absurd (by decide) h⟩) | (refine ⟨fun h => absurd (by decide) h, fun _ => ?_⟩) | (refine ⟨fun _ => ?_, fun h => absurd h (by decide)⟩) | fail)
            refine ⟨vpq 420 rfl (by omega) (by decide), ?_⟩
            rw [nI_clamp (by omega)]
            repeat (first | ((fail_if_success (show X 180 _ _ _ _ _ _ _)); apply F; conv => whnf) | (refine ⟨rfl, ?_⟩) | (refine ⟨vpk (by decide) ?_, ?_⟩; rfl) | (refine ⟨fun h => absurd h (by decide), fun _ => ?_⟩) | (refine ⟨fun _ => ?_, fun h => absurd (by decide) h⟩) | (refine ⟨fun h => absurd (by decide) h, fun _ => ?_⟩) | (refine ⟨fun _ => ?_, fun h => absurd h (by decide)⟩) | fail)
            exact fin _ s _ _ hE hst.2.2 (by omega)
        · match s, hty with
          | a :: b :: s, hty =>
            have hlen : s.length = u.length := by simpa using hlen
            have hE : opE f (a :: b :: s) o = opB o.1 b a :: s := by unfold opE; rw [if_neg (by omega), if_neg (by omega)]; simp only; rw [if_neg (by omega), if_neg (by omega)]
            simp at htl
            repeat (first | ((fail_if_success (show X 180 _ _ _ _ _ _ _)); apply F; conv => whnf) | (refine ⟨rfl, ?_⟩) | (refine ⟨vpk (by decide) ?_, ?_⟩; rfl) | (refine ⟨fun h => absurd h (by decide), fun _ => ?_⟩) | (refine ⟨fun _ => ?_, fun h => absurd (by decide) h⟩) | (refine ⟨fun h => absurd (by decide) h, fun _ => ?_⟩) | (refine ⟨fun _ => ?_, fun h => absurd h (by decide)⟩) | fail)
            refine ⟨fun _ => ?_, fun q => absurd (nI_le (a := 13) (by omega) (by omega)) q⟩
            repeat (first | ((fail_if_success (show X 180 _ _ _ _ _ _ _)); apply F; conv => whnf) | (refine ⟨rfl, ?_⟩) | (refine ⟨vpk (by decide) ?_, ?_⟩; rfl) | (refine ⟨fun h => absurd h (by decide), fun _ => ?_⟩) | (refine ⟨fun _ => ?_, fun h => absurd (by decide) h⟩) | (refine ⟨fun h => absurd (by decide) h, fun _ => ?_⟩) | (refine ⟨fun _ => ?_, fun h => absurd h (by decide)⟩) | fail)
            refine ⟨fun _ => ?_, fun q => absurd ((nI_eq (b := 16) (by omega) (by omega)).mp q) (by omega)⟩
            repeat (first | ((fail_if_success (show X 180 _ _ _ _ _ _ _)); apply F; conv => whnf) | (refine ⟨rfl, ?_⟩) | (refine ⟨vpk (by decide) ?_, ?_⟩; rfl) | (refine ⟨fun h => absurd h (by decide), fun _ => ?_⟩) | (refine ⟨fun _ => ?_, fun h => absurd (by decide) h⟩) | (refine ⟨fun h => absurd (by decide) h, fun _ => ?_⟩) | (refine ⟨fun _ => ?_, fun h => absurd h (by decide)⟩) | fail)
            refine ⟨fun _ => ?_, fun q => absurd ((nI_eq (b := 20) (by omega) (by omega)).mp q) (by omega)⟩
            repeat (first | ((fail_if_success (show X 180 _ _ _ _ _ _ _)); apply F; conv => whnf) | (refine ⟨rfl, ?_⟩) | (refine ⟨vpk (by decide) ?_, ?_⟩; rfl) | (refine ⟨fun h => absurd h (by decide), fun _ => ?_⟩) | (refine ⟨fun _ => ?_, fun h => absurd (by decide) h⟩) | (refine ⟨fun h => absurd (by decide) h, fun _ => ?_⟩) | (refine ⟨fun _ => ?_, fun h => absurd h (by decide)⟩) | fail)
            rw [show nI (a :: b :: s).length + -1 = nI (s.length + 1) from pk_m1 _, show nI (s.length + 1) - 1 = nI s.length from nI_pred _]
            refine ⟨vpq 420 rfl (by omega) (by decide), ?_⟩
            repeat (first | ((fail_if_success (show X 180 _ _ _ _ _ _ _)); apply F; conv => whnf) | (refine ⟨rfl, ?_⟩) | (refine ⟨vpk (by decide) ?_, ?_⟩; rfl) | (refine ⟨fun h => absurd h (by decide), fun _ => ?_⟩) | (refine ⟨fun _ => ?_, fun h => absurd (by decide) h⟩) | (refine ⟨fun h => absurd (by decide) h, fun _ => ?_⟩) | (refine ⟨fun _ => ?_, fun h => absurd h (by decide)⟩) | fail)
            refine ⟨vpq 420 rfl (by omega) (by decide), ?_⟩
            rw [nI_clamp (by omega), nI_clamp (by omega), show I1 147 s.length = b from hst.2.1, show I1 147 (s.length + 1) = a from hst.1]
            repeat (first | ((fail_if_success (show X 180 _ _ _ _ _ _ _)); apply F; conv => whnf) | (refine ⟨rfl, ?_⟩) | (refine ⟨vpk (by decide) ?_, ?_⟩; rfl) | (refine ⟨fun h => absurd h (by decide), fun _ => ?_⟩) | (refine ⟨fun _ => ?_, fun h => absurd (by decide) h⟩) | (refine ⟨fun h => absurd (by decide) h, fun _ => ?_⟩) | (refine ⟨fun _ => ?_, fun h => absurd h (by decide)⟩) | fail)
            refine C (Mo_both (by omega) ?_)
            repeat (first | ((fail_if_success (show X 180 _ _ _ _ _ _ _)); apply F; conv => whnf) | (refine ⟨rfl, ?_⟩) | (refine ⟨vpk (by decide) ?_, ?_⟩; rfl) | (refine ⟨fun h => absurd h (by decide), fun _ => ?_⟩) | (refine ⟨fun _ => ?_, fun h => absurd (by decide) h⟩) | (refine ⟨fun h => absurd (by decide) h, fun _ => ?_⟩) | (refine ⟨fun _ => ?_, fun h => absurd h (by decide)⟩) | fail)
            refine ⟨vpq 420 rfl (by omega) (by decide), ?_⟩
            rw [nI_clamp (by omega)]
            repeat (first | ((fail_if_success (show X 180 _ _ _ _ _ _ _)); apply F; conv => whnf) | (refine ⟨rfl, ?_⟩) | (refine ⟨vpk (by decide) ?_, ?_⟩; rfl) | (refine ⟨fun h => absurd h (by decide), fun _ => ?_⟩) | (refine ⟨fun _ => ?_, fun h => absurd (by decide) h⟩) | (refine ⟨fun h => absurd (by decide) h, fun _ => ?_⟩) | (refine ⟨fun _ => ?_, fun h => absurd h (by decide)⟩) | fail)
            exact fin _ s _ _ hE hst.2.2 (by omega)
        · match s, hty with
          | a :: b :: s, hty =>
            have hlen : s.length = u.length := by simpa using hlen
            have hE : opE f (a :: b :: s) o = opB o.1 b a :: s := by unfold opE; rw [if_neg (by omega), if_neg (by omega)]; simp only; rw [if_neg (by omega), if_neg (by omega)]
            simp at htl
            repeat (first | ((fail_if_success (show X 180 _ _ _ _ _ _ _)); apply F; conv => whnf) | (refine ⟨rfl, ?_⟩) | (refine ⟨vpk (by decide) ?_, ?_⟩; rfl) | (refine ⟨fun h => absurd h (by decide), fun _ => ?_⟩) | (refine ⟨fun _ => ?_, fun h => absurd (by decide) h⟩) | (refine ⟨fun h => absurd (by decide) h, fun _ => ?_⟩) | (refine ⟨fun _ => ?_, fun h => absurd h (by decide)⟩) | fail)
            refine ⟨fun _ => ?_, fun q => absurd (nI_le (a := 13) (by omega) (by omega)) q⟩
            repeat (first | ((fail_if_success (show X 180 _ _ _ _ _ _ _)); apply F; conv => whnf) | (refine ⟨rfl, ?_⟩) | (refine ⟨vpk (by decide) ?_, ?_⟩; rfl) | (refine ⟨fun h => absurd h (by decide), fun _ => ?_⟩) | (refine ⟨fun _ => ?_, fun h => absurd (by decide) h⟩) | (refine ⟨fun h => absurd (by decide) h, fun _ => ?_⟩) | (refine ⟨fun _ => ?_, fun h => absurd h (by decide)⟩) | fail)
            refine ⟨fun _ => ?_, fun q => absurd ((nI_eq (b := 16) (by omega) (by omega)).mp q) (by omega)⟩
            repeat (first | ((fail_if_success (show X 180 _ _ _ _ _ _ _)); apply F; conv => whnf) | (refine ⟨rfl, ?_⟩) | (refine ⟨vpk (by decide) ?_, ?_⟩; rfl) | (refine ⟨fun h => absurd h (by decide), fun _ => ?_⟩) | (refine ⟨fun _ => ?_, fun h => absurd (by decide) h⟩) | (refine ⟨fun h => absurd (by decide) h, fun _ => ?_⟩) | (refine ⟨fun _ => ?_, fun h => absurd h (by decide)⟩) | fail)
            refine ⟨fun _ => ?_, fun q => absurd ((nI_eq (b := 20) (by omega) (by omega)).mp q) (by omega)⟩
            repeat (first | ((fail_if_success (show X 180 _ _ _ _ _ _ _)); apply F; conv => whnf) | (refine ⟨rfl, ?_⟩) | (refine ⟨vpk (by decide) ?_, ?_⟩; rfl) | (refine ⟨fun h => absurd h (by decide), fun _ => ?_⟩) | (refine ⟨fun _ => ?_, fun h => absurd (by decide) h⟩) | (refine ⟨fun h => absurd (by decide) h, fun _ => ?_⟩) | (refine ⟨fun _ => ?_, fun h => absurd h (by decide)⟩) | fail)
            rw [show nI (a :: b :: s).length + -1 = nI (s.length + 1) from pk_m1 _, show nI (s.length + 1) - 1 = nI s.length from nI_pred _]
            refine ⟨vpq 420 rfl (by omega) (by decide), ?_⟩
            repeat (first | ((fail_if_success (show X 180 _ _ _ _ _ _ _)); apply F; conv => whnf) | (refine ⟨rfl, ?_⟩) | (refine ⟨vpk (by decide) ?_, ?_⟩; rfl) | (refine ⟨fun h => absurd h (by decide), fun _ => ?_⟩) | (refine ⟨fun _ => ?_, fun h => absurd (by decide) h⟩) | (refine ⟨fun h => absurd (by decide) h, fun _ => ?_⟩) | (refine ⟨fun _ => ?_, fun h => absurd h (by decide)⟩) | fail)
            refine ⟨vpq 420 rfl (by omega) (by decide), ?_⟩
            rw [nI_clamp (by omega), nI_clamp (by omega), show I1 147 s.length = b from hst.2.1, show I1 147 (s.length + 1) = a from hst.1]
            repeat (first | ((fail_if_success (show X 180 _ _ _ _ _ _ _)); apply F; conv => whnf) | (refine ⟨rfl, ?_⟩) | (refine ⟨vpk (by decide) ?_, ?_⟩; rfl) | (refine ⟨fun h => absurd h (by decide), fun _ => ?_⟩) | (refine ⟨fun _ => ?_, fun h => absurd (by decide) h⟩) | (refine ⟨fun h => absurd (by decide) h, fun _ => ?_⟩) | (refine ⟨fun _ => ?_, fun h => absurd h (by decide)⟩) | fail)
            refine C (Mo_both (by omega) ?_)
            repeat (first | ((fail_if_success (show X 180 _ _ _ _ _ _ _)); apply F; conv => whnf) | (refine ⟨rfl, ?_⟩) | (refine ⟨vpk (by decide) ?_, ?_⟩; rfl) | (refine ⟨fun h => absurd h (by decide), fun _ => ?_⟩) | (refine ⟨fun _ => ?_, fun h => absurd (by decide) h⟩) | (refine ⟨fun h => absurd (by decide) h, fun _ => ?_⟩) | (refine ⟨fun _ => ?_, fun h => absurd h (by decide)⟩) | fail)
            refine ⟨vpq 420 rfl (by omega) (by decide), ?_⟩
            rw [nI_clamp (by omega)]
            repeat (first | ((fail_if_success (show X 180 _ _ _ _ _ _ _)); apply F; conv => whnf) | (refine ⟨rfl, ?_⟩) | (refine ⟨vpk (by decide) ?_, ?_⟩; rfl) | (refine ⟨fun h => absurd h (by decide), fun _ => ?_⟩) | (refine ⟨fun _ => ?_, fun h => absurd (by decide) h⟩) | (refine ⟨fun h => absurd (by decide) h, fun _ => ?_⟩) | (refine ⟨fun _ => ?_, fun h => absurd h (by decide)⟩) | fail)
            exact fin _ s _ _ hE hst.2.2 (by omega)
  exact loop ops [] [] 0 I none none (by omega) rfl trivial (fun _ _ => rfl) trivial hv hw (Nat.zero_le 31)
