/-! constructors: the parser, the reference -/
set_option maxHeartbeats 4000000 in
theorem K_Parser {d : Nat} {P : mj_P} {I : mj_I} {J : mj_J} {Q : mj_Q} (hP : ∀ j, P 87 j = none) (hQ : ∀ P' I' J', FR 87 P I J P' I' J' → agT P' 87 [[some 85, some 88, none, none, none, none, some 89], [], [some 90, some 91, some 92, some 93, some 94, some 95], [], [], [], [], [], []] → I' 87 7 = 0 → I' 87 8 = -1 → Q none (sh0.take 96) P' I' J') : mj_ret mj_pr (d + 2) n_Parser_init [.ref 87, .ref 85] (8, 568) (sh0.take 88) P I J Q := by
  refine mj_in2 2 t_Parser_init rfl rfl (fun X cr C F => ?_)
  (repeat (first | (apply F; conv => whnf) | (refine ⟨rfl, ?_⟩) | (refine ⟨vpk (by decide) ?_, ?_⟩; rfl) | (refine ⟨by assumption, ?_⟩) | (refine ⟨by decide, ?_⟩) | (refine ⟨fun h => absurd h (by decide), fun _ => ?_⟩) | (refine ⟨fun _ => ?_, fun h => absurd (by decide) h⟩) | (refine ⟨fun h => absurd (by decide) h, fun _ => ?_⟩) | (refine ⟨fun _ => ?_, fun h => absurd h (by decide)⟩) | (refine ⟨⟨Nat.le_of_ble_eq_true rfl, Nat.le_of_ble_eq_true rfl⟩, ?_⟩) | (simp (disch := omega) only [nI_clamp, clL, nI_1, nI_add, pk_mul, ni_aL, ni_aR, ni_mL, ni_mR, ni_sR, ni_sb, ni_m1, ni_dv, mj_u_eq, mj_u_ne1, mj_u_ne2, Nat.reduceAdd, tkL, tq_88, tq_89, tq_90, tq_91, tq_92, tq_93, tq_94, tq_95]; try (conv => whnf)) | (refine ⟨vpq _ rfl (by omega) (by omega), ?_⟩) | (refine ⟨fun h => absurd h (by (simp (disch := omega) only [nI_1, nI_add, nI_leI, nI_ltI, nI_eq, ni_ltR, ni_ltL, ni_leR, ni_leL, ni_eqR, ni_eqL, ni_nm, ni_nm2, not_false_eq_true]; first | done | omega)), fun _ => ?_⟩) | (refine ⟨fun _ => ?_, fun h => absurd (by (simp (disch := omega) only [nI_1, nI_add, nI_leI, nI_ltI, nI_eq, ni_ltR, ni_ltL, ni_leR, ni_leL, ni_eqR, ni_eqL, ni_nm, ni_nm2, not_false_eq_true]; first | done | omega)) h⟩) | (refine ⟨fun h => absurd (by (simp (disch := omega) only [nI_1, nI_add, nI_leI, nI_ltI, nI_eq, ni_ltR, ni_ltL, ni_leR, ni_leL, ni_eqR, ni_eqL, ni_nm, ni_nm2, not_false_eq_true]; first | done | omega)) h, fun _ => ?_⟩) | (refine ⟨fun _ => ?_, fun h => absurd h (by (simp (disch := omega) only [nI_1, nI_add, nI_leI, nI_ltI, nI_eq, ni_ltR, ni_ltL, ni_leR, ni_leL, ni_eqR, ni_eqL, ni_nm, ni_nm2, not_false_eq_true]; first | done | omega))⟩) | fail))
  refine C (Rs_init (a := 89) rfl rfl (fun j => by rw [mj_w_eq]) (fun P1 I1 q1 q2 q3 q4 => ?_))
  rw [show sh0.take 90 ++ ruE = sh0.take 96 from rfl]
  (repeat (first | (apply F; conv => whnf) | (refine ⟨rfl, ?_⟩) | (refine ⟨vpk (by decide) ?_, ?_⟩; rfl) | (refine ⟨by assumption, ?_⟩) | (refine ⟨by decide, ?_⟩) | (refine ⟨fun h => absurd h (by decide), fun _ => ?_⟩) | (refine ⟨fun _ => ?_, fun h => absurd (by decide) h⟩) | (refine ⟨fun h => absurd (by decide) h, fun _ => ?_⟩) | (refine ⟨fun _ => ?_, fun h => absurd h (by decide)⟩) | (refine ⟨⟨Nat.le_of_ble_eq_true rfl, Nat.le_of_ble_eq_true rfl⟩, ?_⟩) | (simp (disch := omega) only [nI_clamp, clL, nI_1, nI_add, pk_mul, ni_aL, ni_aR, ni_mL, ni_mR, ni_sR, ni_sb, ni_m1, ni_dv, mj_u_eq, mj_u_ne1, mj_u_ne2]; try (conv => whnf)) | (refine ⟨vpq _ rfl (by omega) (by omega), ?_⟩) | (refine ⟨fun h => absurd h (by (simp (disch := omega) only [nI_1, nI_add, nI_leI, nI_ltI, nI_eq, ni_ltR, ni_ltL, ni_leR, ni_leL, ni_eqR, ni_eqL, ni_nm, ni_nm2, not_false_eq_true]; first | done | omega)), fun _ => ?_⟩) | (refine ⟨fun _ => ?_, fun h => absurd (by (simp (disch := omega) only [nI_1, nI_add, nI_leI, nI_ltI, nI_eq, ni_ltR, ni_ltL, ni_leR, ni_leL, ni_eqR, ni_eqL, ni_nm, ni_nm2, not_false_eq_true]; first | done | omega)) h⟩) | (refine ⟨fun h => absurd (by (simp (disch := omega) only [nI_1, nI_add, nI_leI, nI_ltI, nI_eq, ni_ltR, ni_ltL, ni_leR, ni_leL, ni_eqR, ni_eqL, ni_nm, ni_nm2, not_false_eq_true]; first | done | omega)) h, fun _ => ?_⟩) | (refine ⟨fun _ => ?_, fun h => absurd h (by (simp (disch := omega) only [nI_1, nI_add, nI_leI, nI_ltI, nI_eq, ni_ltR, ni_ltL, ni_leR, ni_leL, ni_eqR, ni_eqL, ni_nm, ni_nm2, not_false_eq_true]; first | done | omega))⟩) | fail))
  refine hQ _ _ _ (fun b hb => ⟨?_, ?_, ?_⟩) ?_ ?_ ?_
  · rw [mj_u_row _ _ _ _ (by omega), mj_u_row _ _ _ _ (by omega), q2 _ (by omega)]
    simp (disch := omega) only [Nat.reduceAdd, tkL, tq_88, tq_89, tq_90, tq_91, tq_92, tq_93, tq_94, tq_95, mj_u_row, mj_w_row]
  · rw [mj_u_row _ _ _ _ (by omega), mj_u_row _ _ _ _ (by omega), q4 _ (by omega)]
    simp (disch := omega) only [Nat.reduceAdd, tkL, tq_88, tq_89, tq_90, tq_91, tq_92, tq_93, tq_94, tq_95, mj_u_row, mj_w_row]
  · simp (disch := omega) only [Nat.reduceAdd, tkL, tq_88, tq_89, tq_90, tq_91, tq_92, tq_93, tq_94, tq_95, mj_u_row, mj_w_row]
  · simp only [agT, agR]
    refine ⟨⟨rfl, ?_, ?_, ?_, ?_, ?_, rfl, True.intro⟩, True.intro, ⟨q1 0 (by decide), q1 1 (by decide), q1 2 (by decide), q1 3 (by decide), q1 4 (by decide), q1 5 (by decide), True.intro⟩, True.intro, True.intro, True.intro, True.intro, True.intro, True.intro, True.intro⟩
    · show P1 87 1 = some 88
      rw [q2 _ (by decide)]; rfl
    · show P1 87 2 = none
      rw [q2 _ (by decide)]; exact hP 2
    · show P1 87 3 = none
      rw [q2 _ (by decide)]; exact hP 3
    · show P1 87 4 = none
      rw [q2 _ (by decide)]; exact hP 4
    · show P1 87 5 = none
      rw [q2 _ (by decide)]; exact hP 5
  · rfl
  · rfl
