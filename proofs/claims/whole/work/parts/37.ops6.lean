/-! line -/
/-- a new line's fields -/
def nlf (a b k x y o : Nat) : Nat → Nat
  | 0 => a
  | 1 => b
  | 2 => k
  | 3 => x
  | 4 => y
  | 5 => o
  | _ => 0
set_option maxHeartbeats 4000000 in
theorem Mo_line_y {d : Nat} {e : mj_S} {P : mj_P} {r0 r1 r2 r3 rs : Nat} {kp : Option Nat} {I : mj_I} {J : mj_J} {Q : mj_Q} {n a b k x y o : Nat} (hm : I 140 1 = nI n) (hn : n < 12) (ha : a ≤ 7) (hb : b ≤ 7) (hab : a ≠ b) (hk : k ≤ 3) (hx : x ≤ 1023) (hy : y ≤ 1023) (ho : o ≤ 1000) (hQ : ∀ I', (∀ b, b ≠ 139 → b ≠ 140 → I' b = I b) → (∀ j, j ≠ 4 → I' 139 j = I 139 j) → I' 139 4 = 0 → (∀ j, j ≠ 1 → (j < 70 + 18 * n ∨ 70 + 18 * n + 18 ≤ j) → I' 140 j = I 140 j) → I' 140 1 = nI (n + 1) → I' 140 (70 + 18 * n) = nI a → I' 140 (70 + 18 * n + 1) = nI b → I' 140 (70 + 18 * n + 2) = nI k → I' 140 (70 + 18 * n + 3) = nI x → I' 140 (70 + 18 * n + 4) = nI y → I' 140 (70 + 18 * n + 5) = nI o → (∀ j, 6 ≤ j → j < 18 → I' 140 (70 + 18 * n + j) = 0) → Q (some (.int (nI n))) (sh0 ++ e) (cp P r0 r1 r2 r3 rs kp) I' J) : mj_ret mj_pr (d + 3) n_Mo_line [.ref 139, .int (nI a), .int (nI b), .int (nI k), .int (nI x), .int (nI y), .int (nI o)] (0, 0) (sh0 ++ e) (cp P r0 r1 r2 r3 rs kp) I J Q := by
  have q1 : bz (rg (nI a) 7) = 1 := bz_1 ((rg_nI (by omega) (by decide)).mpr (by omega))
  have q2 : bz (rg (nI b) 7) = 1 := bz_1 ((rg_nI (by omega) (by decide)).mpr (by omega))
  have q3 : bz (rg (nI k) 3) = 1 := bz_1 ((rg_nI (by omega) (by decide)).mpr (by omega))
  have q4 : bz (rg (nI x) 1023) = 1 := bz_1 ((rg_nI (by omega) (by decide)).mpr (by omega))
  have q5 : bz (rg (nI y) 1023) = 1 := bz_1 ((rg_nI (by omega) (by decide)).mpr (by omega))
  have q6 : bz (rg (nI o) 1000) = 1 := bz_1 ((rg_nI (by omega) (by decide)).mpr (by omega))
  refine mj_in2 9 t_Mo_line rfl rfl (fun X cr C F => ?_)
  (repeat (first | ((fail_if_success (show X 88 _ _ _ _ _ _ _)); apply F; conv => whnf) | (refine ⟨rfl, ?_⟩) | (refine ⟨vpk (by decide) ?_, ?_⟩; rfl) | (refine ⟨by assumption, ?_⟩) | (refine ⟨by decide, ?_⟩) | (refine ⟨fun h => absurd h (by decide), fun _ => ?_⟩) | (refine ⟨fun _ => ?_, fun h => absurd (by decide) h⟩) | (refine ⟨fun h => absurd (by decide) h, fun _ => ?_⟩) | (refine ⟨fun _ => ?_, fun h => absurd h (by decide)⟩) | (refine ⟨⟨Nat.le_of_ble_eq_true rfl, Nat.le_of_ble_eq_true rfl⟩, ?_⟩) | (simp (disch := omega) only [nI_clamp, clL, nI_1, nI_add, pk_mul, ni_aL, ni_aR, ni_mL, ni_mR, ni_sR, ni_sb, ni_m1, ni_dv, mj_u_eq, mj_u_ne1, mj_u_ne2, q1, q2, q3, q4, q5, q6, hm]; try (conv => whnf)) | (refine ⟨vpq _ rfl (by omega) (by omega), ?_⟩) | (refine ⟨fun h => absurd h (by (simp (disch := omega) only [nI_1, nI_add, nI_leI, nI_ltI, nI_eq, ni_ltR, ni_ltL, ni_leR, ni_leL, ni_eqR, ni_eqL, ni_nm, ni_nm2, not_false_eq_true]; first | done | omega)), fun _ => ?_⟩) | (refine ⟨fun _ => ?_, fun h => absurd (by (simp (disch := omega) only [nI_1, nI_add, nI_leI, nI_ltI, nI_eq, ni_ltR, ni_ltL, ni_leR, ni_leL, ni_eqR, ni_eqL, ni_nm, ni_nm2, not_false_eq_true]; first | done | omega)) h⟩) | (refine ⟨fun h => absurd (by (simp (disch := omega) only [nI_1, nI_add, nI_leI, nI_ltI, nI_eq, ni_ltR, ni_ltL, ni_leR, ni_leL, ni_eqR, ni_eqL, ni_nm, ni_nm2, not_false_eq_true]; first | done | omega)) h, fun _ => ?_⟩) | (refine ⟨fun _ => ?_, fun h => absurd h (by (simp (disch := omega) only [nI_1, nI_add, nI_leI, nI_ltI, nI_eq, ni_ltR, ni_ltL, ni_leR, ni_leL, ni_eqR, ni_eqL, ni_nm, ni_nm2, not_false_eq_true]; first | done | omega))⟩) | (refine C (vMo_isStation ?_)) | (refine C (vMo_isIn (n := 3) ?_)) | (refine C (vMo_isIn (n := 1023) ?_)) | (refine C (vMo_isIn (n := 1000) ?_)) | (refine ⟨nb_bz, ?_⟩) | (refine ⟨fun _ => ?_, fun h => absurd (by assumption) h⟩) | (refine ⟨fun h => absurd h (by assumption), fun _ => ?_⟩) | (refine ⟨fun h => absurd (by assumption) h, fun _ => ?_⟩) | (refine ⟨fun _ => ?_, fun h => absurd h (by assumption)⟩) | fail))
  have loop : ∀ m i (I1 : mj_I), i + m = 18 → (∀ b, b ≠ 140 → I1 b = I b) → (∀ j, (j < 70 + 18 * n ∨ 70 + 18 * n + 18 ≤ j) → I1 140 j = I 140 j) → (∀ j, j < i → I1 140 (70 + 18 * n + j) = 0) → X 88 [some (.ref 139), some (.int (nI a)), some (.int (nI b)), some (.int (nI k)), some (.int (nI x)), some (.int (nI y)), some (.int (nI o)), some (.int (nI n)), some (.int (nI i))] [] (0, 0) (sh0 ++ e) (cp P r0 r1 r2 r3 rs kp) I1 J := by
    intro m
    induction m with
    | zero =>
      intro i I1 hi f1 f2 f3
      have e1 : I1 140 1 = nI n := by rw [f2 1 (by omega)]; exact hm
      (apply F; conv => whnf)
      (repeat (first | (apply F; conv => whnf) | (refine ⟨rfl, ?_⟩) | (refine ⟨vpk (by decide) ?_, ?_⟩; rfl) | (refine ⟨by assumption, ?_⟩) | (refine ⟨by decide, ?_⟩) | (refine ⟨fun h => absurd h (by decide), fun _ => ?_⟩) | (refine ⟨fun _ => ?_, fun h => absurd (by decide) h⟩) | (refine ⟨fun h => absurd (by decide) h, fun _ => ?_⟩) | (refine ⟨fun _ => ?_, fun h => absurd h (by decide)⟩) | (refine ⟨⟨Nat.le_of_ble_eq_true rfl, Nat.le_of_ble_eq_true rfl⟩, ?_⟩) | (simp (disch := omega) only [nI_clamp, clL, nI_1, nI_add, pk_mul, ni_aL, ni_aR, ni_mL, ni_mR, ni_sR, ni_sb, ni_m1, ni_dv, mj_u_eq, mj_u_ne1, mj_u_ne2]; try (conv => whnf)) | (refine ⟨vpq _ rfl (by omega) (by omega), ?_⟩) | (refine ⟨fun h => absurd h (by (simp (disch := omega) only [nI_1, nI_add, nI_leI, nI_ltI, nI_eq, ni_ltR, ni_ltL, ni_leR, ni_leL, ni_eqR, ni_eqL, ni_nm, ni_nm2, not_false_eq_true]; first | done | omega)), fun _ => ?_⟩) | (refine ⟨fun _ => ?_, fun h => absurd (by (simp (disch := omega) only [nI_1, nI_add, nI_leI, nI_ltI, nI_eq, ni_ltR, ni_ltL, ni_leR, ni_leL, ni_eqR, ni_eqL, ni_nm, ni_nm2, not_false_eq_true]; first | done | omega)) h⟩) | (refine ⟨fun h => absurd (by (simp (disch := omega) only [nI_1, nI_add, nI_leI, nI_ltI, nI_eq, ni_ltR, ni_ltL, ni_leR, ni_leL, ni_eqR, ni_eqL, ni_nm, ni_nm2, not_false_eq_true]; first | done | omega)) h, fun _ => ?_⟩) | (refine ⟨fun _ => ?_, fun h => absurd h (by (simp (disch := omega) only [nI_1, nI_add, nI_leI, nI_ltI, nI_eq, ni_ltR, ni_ltL, ni_leR, ni_leL, ni_eqR, ni_eqL, ni_nm, ni_nm2, not_false_eq_true]; first | done | omega))⟩) | fail))
      refine C (Mo_gives (k := 0) hn (by decide) ?_)
      (repeat (first | (apply F; conv => whnf) | (refine ⟨rfl, ?_⟩) | (refine ⟨vpk (by decide) ?_, ?_⟩; rfl) | (refine ⟨by assumption, ?_⟩) | (refine ⟨by decide, ?_⟩) | (refine ⟨fun h => absurd h (by decide), fun _ => ?_⟩) | (refine ⟨fun _ => ?_, fun h => absurd (by decide) h⟩) | (refine ⟨fun h => absurd (by decide) h, fun _ => ?_⟩) | (refine ⟨fun _ => ?_, fun h => absurd h (by decide)⟩) | (refine ⟨⟨Nat.le_of_ble_eq_true rfl, Nat.le_of_ble_eq_true rfl⟩, ?_⟩) | (simp (disch := omega) only [nI_clamp, clL, nI_1, nI_add, pk_mul, ni_aL, ni_aR, ni_mL, ni_mR, ni_sR, ni_sb, ni_m1, ni_dv, mj_u_eq, mj_u_ne1, mj_u_ne2]; try (conv => whnf)) | (refine ⟨vpq _ rfl (by omega) (by omega), ?_⟩) | (refine ⟨fun h => absurd h (by (simp (disch := omega) only [nI_1, nI_add, nI_leI, nI_ltI, nI_eq, ni_ltR, ni_ltL, ni_leR, ni_leL, ni_eqR, ni_eqL, ni_nm, ni_nm2, not_false_eq_true]; first | done | omega)), fun _ => ?_⟩) | (refine ⟨fun _ => ?_, fun h => absurd (by (simp (disch := omega) only [nI_1, nI_add, nI_leI, nI_ltI, nI_eq, ni_ltR, ni_ltL, ni_leR, ni_leL, ni_eqR, ni_eqL, ni_nm, ni_nm2, not_false_eq_true]; first | done | omega)) h⟩) | (refine ⟨fun h => absurd (by (simp (disch := omega) only [nI_1, nI_add, nI_leI, nI_ltI, nI_eq, ni_ltR, ni_ltL, ni_leR, ni_leL, ni_eqR, ni_eqL, ni_nm, ni_nm2, not_false_eq_true]; first | done | omega)) h, fun _ => ?_⟩) | (refine ⟨fun _ => ?_, fun h => absurd h (by (simp (disch := omega) only [nI_1, nI_add, nI_leI, nI_ltI, nI_eq, ni_ltR, ni_ltL, ni_leR, ni_leL, ni_eqR, ni_eqL, ni_nm, ni_nm2, not_false_eq_true]; first | done | omega))⟩) | fail))
      refine C (Mo_gives (k := 1) hn (by decide) ?_)
      (repeat (first | (apply F; conv => whnf) | (refine ⟨rfl, ?_⟩) | (refine ⟨vpk (by decide) ?_, ?_⟩; rfl) | (refine ⟨by assumption, ?_⟩) | (refine ⟨by decide, ?_⟩) | (refine ⟨fun h => absurd h (by decide), fun _ => ?_⟩) | (refine ⟨fun _ => ?_, fun h => absurd (by decide) h⟩) | (refine ⟨fun h => absurd (by decide) h, fun _ => ?_⟩) | (refine ⟨fun _ => ?_, fun h => absurd h (by decide)⟩) | (refine ⟨⟨Nat.le_of_ble_eq_true rfl, Nat.le_of_ble_eq_true rfl⟩, ?_⟩) | (simp (disch := omega) only [nI_clamp, clL, nI_1, nI_add, pk_mul, ni_aL, ni_aR, ni_mL, ni_mR, ni_sR, ni_sb, ni_m1, ni_dv, mj_u_eq, mj_u_ne1, mj_u_ne2]; try (conv => whnf)) | (refine ⟨vpq _ rfl (by omega) (by omega), ?_⟩) | (refine ⟨fun h => absurd h (by (simp (disch := omega) only [nI_1, nI_add, nI_leI, nI_ltI, nI_eq, ni_ltR, ni_ltL, ni_leR, ni_leL, ni_eqR, ni_eqL, ni_nm, ni_nm2, not_false_eq_true]; first | done | omega)), fun _ => ?_⟩) | (refine ⟨fun _ => ?_, fun h => absurd (by (simp (disch := omega) only [nI_1, nI_add, nI_leI, nI_ltI, nI_eq, ni_ltR, ni_ltL, ni_leR, ni_leL, ni_eqR, ni_eqL, ni_nm, ni_nm2, not_false_eq_true]; first | done | omega)) h⟩) | (refine ⟨fun h => absurd (by (simp (disch := omega) only [nI_1, nI_add, nI_leI, nI_ltI, nI_eq, ni_ltR, ni_ltL, ni_leR, ni_leL, ni_eqR, ni_eqL, ni_nm, ni_nm2, not_false_eq_true]; first | done | omega)) h, fun _ => ?_⟩) | (refine ⟨fun _ => ?_, fun h => absurd h (by (simp (disch := omega) only [nI_1, nI_add, nI_leI, nI_ltI, nI_eq, ni_ltR, ni_ltL, ni_leR, ni_leL, ni_eqR, ni_eqL, ni_nm, ni_nm2, not_false_eq_true]; first | done | omega))⟩) | fail))
      refine C (Mo_gives (k := 2) hn (by decide) ?_)
      (repeat (first | (apply F; conv => whnf) | (refine ⟨rfl, ?_⟩) | (refine ⟨vpk (by decide) ?_, ?_⟩; rfl) | (refine ⟨by assumption, ?_⟩) | (refine ⟨by decide, ?_⟩) | (refine ⟨fun h => absurd h (by decide), fun _ => ?_⟩) | (refine ⟨fun _ => ?_, fun h => absurd (by decide) h⟩) | (refine ⟨fun h => absurd (by decide) h, fun _ => ?_⟩) | (refine ⟨fun _ => ?_, fun h => absurd h (by decide)⟩) | (refine ⟨⟨Nat.le_of_ble_eq_true rfl, Nat.le_of_ble_eq_true rfl⟩, ?_⟩) | (simp (disch := omega) only [nI_clamp, clL, nI_1, nI_add, pk_mul, ni_aL, ni_aR, ni_mL, ni_mR, ni_sR, ni_sb, ni_m1, ni_dv, mj_u_eq, mj_u_ne1, mj_u_ne2]; try (conv => whnf)) | (refine ⟨vpq _ rfl (by omega) (by omega), ?_⟩) | (refine ⟨fun h => absurd h (by (simp (disch := omega) only [nI_1, nI_add, nI_leI, nI_ltI, nI_eq, ni_ltR, ni_ltL, ni_leR, ni_leL, ni_eqR, ni_eqL, ni_nm, ni_nm2, not_false_eq_true]; first | done | omega)), fun _ => ?_⟩) | (refine ⟨fun _ => ?_, fun h => absurd (by (simp (disch := omega) only [nI_1, nI_add, nI_leI, nI_ltI, nI_eq, ni_ltR, ni_ltL, ni_leR, ni_leL, ni_eqR, ni_eqL, ni_nm, ni_nm2, not_false_eq_true]; first | done | omega)) h⟩) | (refine ⟨fun h => absurd (by (simp (disch := omega) only [nI_1, nI_add, nI_leI, nI_ltI, nI_eq, ni_ltR, ni_ltL, ni_leR, ni_leL, ni_eqR, ni_eqL, ni_nm, ni_nm2, not_false_eq_true]; first | done | omega)) h, fun _ => ?_⟩) | (refine ⟨fun _ => ?_, fun h => absurd h (by (simp (disch := omega) only [nI_1, nI_add, nI_leI, nI_ltI, nI_eq, ni_ltR, ni_ltL, ni_leR, ni_leL, ni_eqR, ni_eqL, ni_nm, ni_nm2, not_false_eq_true]; first | done | omega))⟩) | fail))
      refine C (Mo_gives (k := 3) hn (by decide) ?_)
      (repeat (first | (apply F; conv => whnf) | (refine ⟨rfl, ?_⟩) | (refine ⟨vpk (by decide) ?_, ?_⟩; rfl) | (refine ⟨by assumption, ?_⟩) | (refine ⟨by decide, ?_⟩) | (refine ⟨fun h => absurd h (by decide), fun _ => ?_⟩) | (refine ⟨fun _ => ?_, fun h => absurd (by decide) h⟩) | (refine ⟨fun h => absurd (by decide) h, fun _ => ?_⟩) | (refine ⟨fun _ => ?_, fun h => absurd h (by decide)⟩) | (refine ⟨⟨Nat.le_of_ble_eq_true rfl, Nat.le_of_ble_eq_true rfl⟩, ?_⟩) | (simp (disch := omega) only [nI_clamp, clL, nI_1, nI_add, pk_mul, ni_aL, ni_aR, ni_mL, ni_mR, ni_sR, ni_sb, ni_m1, ni_dv, mj_u_eq, mj_u_ne1, mj_u_ne2]; try (conv => whnf)) | (refine ⟨vpq _ rfl (by omega) (by omega), ?_⟩) | (refine ⟨fun h => absurd h (by (simp (disch := omega) only [nI_1, nI_add, nI_leI, nI_ltI, nI_eq, ni_ltR, ni_ltL, ni_leR, ni_leL, ni_eqR, ni_eqL, ni_nm, ni_nm2, not_false_eq_true]; first | done | omega)), fun _ => ?_⟩) | (refine ⟨fun _ => ?_, fun h => absurd (by (simp (disch := omega) only [nI_1, nI_add, nI_leI, nI_ltI, nI_eq, ni_ltR, ni_ltL, ni_leR, ni_leL, ni_eqR, ni_eqL, ni_nm, ni_nm2, not_false_eq_true]; first | done | omega)) h⟩) | (refine ⟨fun h => absurd (by (simp (disch := omega) only [nI_1, nI_add, nI_leI, nI_ltI, nI_eq, ni_ltR, ni_ltL, ni_leR, ni_leL, ni_eqR, ni_eqL, ni_nm, ni_nm2, not_false_eq_true]; first | done | omega)) h, fun _ => ?_⟩) | (refine ⟨fun _ => ?_, fun h => absurd h (by (simp (disch := omega) only [nI_1, nI_add, nI_leI, nI_ltI, nI_eq, ni_ltR, ni_ltL, ni_leR, ni_leL, ni_eqR, ni_eqL, ni_nm, ni_nm2, not_false_eq_true]; first | done | omega))⟩) | fail))
      refine C (Mo_gives (k := 4) hn (by decide) ?_)
      (repeat (first | (apply F; conv => whnf) | (refine ⟨rfl, ?_⟩) | (refine ⟨vpk (by decide) ?_, ?_⟩; rfl) | (refine ⟨by assumption, ?_⟩) | (refine ⟨by decide, ?_⟩) | (refine ⟨fun h => absurd h (by decide), fun _ => ?_⟩) | (refine ⟨fun _ => ?_, fun h => absurd (by decide) h⟩) | (refine ⟨fun h => absurd (by decide) h, fun _ => ?_⟩) | (refine ⟨fun _ => ?_, fun h => absurd h (by decide)⟩) | (refine ⟨⟨Nat.le_of_ble_eq_true rfl, Nat.le_of_ble_eq_true rfl⟩, ?_⟩) | (simp (disch := omega) only [nI_clamp, clL, nI_1, nI_add, pk_mul, ni_aL, ni_aR, ni_mL, ni_mR, ni_sR, ni_sb, ni_m1, ni_dv, mj_u_eq, mj_u_ne1, mj_u_ne2]; try (conv => whnf)) | (refine ⟨vpq _ rfl (by omega) (by omega), ?_⟩) | (refine ⟨fun h => absurd h (by (simp (disch := omega) only [nI_1, nI_add, nI_leI, nI_ltI, nI_eq, ni_ltR, ni_ltL, ni_leR, ni_leL, ni_eqR, ni_eqL, ni_nm, ni_nm2, not_false_eq_true]; first | done | omega)), fun _ => ?_⟩) | (refine ⟨fun _ => ?_, fun h => absurd (by (simp (disch := omega) only [nI_1, nI_add, nI_leI, nI_ltI, nI_eq, ni_ltR, ni_ltL, ni_leR, ni_leL, ni_eqR, ni_eqL, ni_nm, ni_nm2, not_false_eq_true]; first | done | omega)) h⟩) | (refine ⟨fun h => absurd (by (simp (disch := omega) only [nI_1, nI_add, nI_leI, nI_ltI, nI_eq, ni_ltR, ni_ltL, ni_leR, ni_leL, ni_eqR, ni_eqL, ni_nm, ni_nm2, not_false_eq_true]; first | done | omega)) h, fun _ => ?_⟩) | (refine ⟨fun _ => ?_, fun h => absurd h (by (simp (disch := omega) only [nI_1, nI_add, nI_leI, nI_ltI, nI_eq, ni_ltR, ni_ltL, ni_leR, ni_leL, ni_eqR, ni_eqL, ni_nm, ni_nm2, not_false_eq_true]; first | done | omega))⟩) | fail))
      refine C (Mo_gives (k := 5) hn (by decide) ?_)
      (repeat (first | (apply F; conv => whnf) | (refine ⟨rfl, ?_⟩) | (refine ⟨vpk (by decide) ?_, ?_⟩; rfl) | (refine ⟨by assumption, ?_⟩) | (refine ⟨by decide, ?_⟩) | (refine ⟨fun h => absurd h (by decide), fun _ => ?_⟩) | (refine ⟨fun _ => ?_, fun h => absurd (by decide) h⟩) | (refine ⟨fun h => absurd (by decide) h, fun _ => ?_⟩) | (refine ⟨fun _ => ?_, fun h => absurd h (by decide)⟩) | (refine ⟨⟨Nat.le_of_ble_eq_true rfl, Nat.le_of_ble_eq_true rfl⟩, ?_⟩) | (simp (disch := omega) only [nI_clamp, clL, nI_1, nI_add, pk_mul, ni_aL, ni_aR, ni_mL, ni_mR, ni_sR, ni_sb, ni_m1, ni_dv, mj_u_eq, mj_u_ne1, mj_u_ne2, e1]; try (conv => whnf)) | (refine ⟨vpq _ rfl (by omega) (by omega), ?_⟩) | (refine ⟨fun h => absurd h (by (simp (disch := omega) only [nI_1, nI_add, nI_leI, nI_ltI, nI_eq, ni_ltR, ni_ltL, ni_leR, ni_leL, ni_eqR, ni_eqL, ni_nm, ni_nm2, not_false_eq_true]; first | done | omega)), fun _ => ?_⟩) | (refine ⟨fun _ => ?_, fun h => absurd (by (simp (disch := omega) only [nI_1, nI_add, nI_leI, nI_ltI, nI_eq, ni_ltR, ni_ltL, ni_leR, ni_leL, ni_eqR, ni_eqL, ni_nm, ni_nm2, not_false_eq_true]; first | done | omega)) h⟩) | (refine ⟨fun h => absurd (by (simp (disch := omega) only [nI_1, nI_add, nI_leI, nI_ltI, nI_eq, ni_ltR, ni_ltL, ni_leR, ni_leL, ni_eqR, ni_eqL, ni_nm, ni_nm2, not_false_eq_true]; first | done | omega)) h, fun _ => ?_⟩) | (refine ⟨fun _ => ?_, fun h => absurd h (by (simp (disch := omega) only [nI_1, nI_add, nI_leI, nI_ltI, nI_eq, ni_ltR, ni_ltL, ni_leR, ni_leL, ni_eqR, ni_eqL, ni_nm, ni_nm2, not_false_eq_true]; first | done | omega))⟩) | fail))
      refine hQ _ ?_ ?_ ?_ ?_ ?_ ?_ ?_ ?_ ?_ ?_ ?_ ?_
      · intro b b1 b2
        rw [mj_u_row _ _ _ _ b1, mj_u_row _ _ _ _ b2, mj_u_row _ _ _ _ b2, mj_u_row _ _ _ _ b2, mj_u_row _ _ _ _ b2, mj_u_row _ _ _ _ b2, mj_u_row _ _ _ _ b2, mj_u_row _ _ _ _ b2, f1 b b2]
      · intro j hj
        rw [mj_u_ne2 _ _ _ _ hj, mj_u_row _ _ _ _ (by decide), mj_u_row _ _ _ _ (by decide), mj_u_row _ _ _ _ (by decide), mj_u_row _ _ _ _ (by decide), mj_u_row _ _ _ _ (by decide), mj_u_row _ _ _ _ (by decide), mj_u_row _ _ _ _ (by decide), f1 139 (by decide)]
      · rw [mj_u_eq]
      · intro j j1 j2
        rw [mj_u_row _ _ _ _ (by decide), mj_u_ne2 _ _ _ _ j1, mj_u_ne2 _ _ _ _ (by omega), mj_u_ne2 _ _ _ _ (by omega), mj_u_ne2 _ _ _ _ (by omega), mj_u_ne2 _ _ _ _ (by omega), mj_u_ne2 _ _ _ _ (by omega), mj_u_ne2 _ _ _ _ (by omega), f2 j j2]
      · simp (disch := omega) only [mj_u_ne1, mj_u_ne2, mj_u_eq]
      · simp (disch := omega) only [mj_u_ne1, mj_u_ne2, mj_u_eq, Nat.add_zero]
      · simp (disch := omega) only [mj_u_ne1, mj_u_ne2, mj_u_eq]
      · simp (disch := omega) only [mj_u_ne1, mj_u_ne2, mj_u_eq]
      · simp (disch := omega) only [mj_u_ne1, mj_u_ne2, mj_u_eq]
      · simp (disch := omega) only [mj_u_ne1, mj_u_ne2, mj_u_eq]
      · simp (disch := omega) only [mj_u_ne1, mj_u_ne2, mj_u_eq]
      · intro j j1 j2
        simp (disch := omega) only [mj_u_ne1, mj_u_ne2, mj_u_eq]
        exact f3 j (by omega)
    | succ m ih =>
      intro i I1 hi f1 f2 f3
      (apply F; conv => whnf)
      (repeat (first | ((fail_if_success (show X 88 _ _ _ _ _ _ _)); apply F; conv => whnf) | (refine ⟨rfl, ?_⟩) | (refine ⟨vpk (by decide) ?_, ?_⟩; rfl) | (refine ⟨by assumption, ?_⟩) | (refine ⟨by decide, ?_⟩) | (refine ⟨fun h => absurd h (by decide), fun _ => ?_⟩) | (refine ⟨fun _ => ?_, fun h => absurd (by decide) h⟩) | (refine ⟨fun h => absurd (by decide) h, fun _ => ?_⟩) | (refine ⟨fun _ => ?_, fun h => absurd h (by decide)⟩) | (refine ⟨⟨Nat.le_of_ble_eq_true rfl, Nat.le_of_ble_eq_true rfl⟩, ?_⟩) | (simp (disch := omega) only [nI_clamp, clL, nI_1, nI_add, pk_mul, ni_aL, ni_aR, ni_mL, ni_mR, ni_sR, ni_sb, ni_m1, ni_dv, mj_u_eq, mj_u_ne1, mj_u_ne2]; try (conv => whnf)) | (refine ⟨vpq _ rfl (by omega) (by omega), ?_⟩) | (refine ⟨fun h => absurd h (by (simp (disch := omega) only [nI_1, nI_add, nI_leI, nI_ltI, nI_eq, ni_ltR, ni_ltL, ni_leR, ni_leL, ni_eqR, ni_eqL, ni_nm, ni_nm2, not_false_eq_true]; first | done | omega)), fun _ => ?_⟩) | (refine ⟨fun _ => ?_, fun h => absurd (by (simp (disch := omega) only [nI_1, nI_add, nI_leI, nI_ltI, nI_eq, ni_ltR, ni_ltL, ni_leR, ni_leL, ni_eqR, ni_eqL, ni_nm, ni_nm2, not_false_eq_true]; first | done | omega)) h⟩) | (refine ⟨fun h => absurd (by (simp (disch := omega) only [nI_1, nI_add, nI_leI, nI_ltI, nI_eq, ni_ltR, ni_ltL, ni_leR, ni_leL, ni_eqR, ni_eqL, ni_nm, ni_nm2, not_false_eq_true]; first | done | omega)) h, fun _ => ?_⟩) | (refine ⟨fun _ => ?_, fun h => absurd h (by (simp (disch := omega) only [nI_1, nI_add, nI_leI, nI_ltI, nI_eq, ni_ltR, ni_ltL, ni_leR, ni_leL, ni_eqR, ni_eqL, ni_nm, ni_nm2, not_false_eq_true]; first | done | omega))⟩) | fail))
      refine C (Mo_gives (k := i) hn (by omega) ?_)
      (repeat (first | ((fail_if_success (show X 88 _ _ _ _ _ _ _)); apply F; conv => whnf) | (refine ⟨rfl, ?_⟩) | (refine ⟨vpk (by decide) ?_, ?_⟩; rfl) | (refine ⟨by assumption, ?_⟩) | (refine ⟨by decide, ?_⟩) | (refine ⟨fun h => absurd h (by decide), fun _ => ?_⟩) | (refine ⟨fun _ => ?_, fun h => absurd (by decide) h⟩) | (refine ⟨fun h => absurd (by decide) h, fun _ => ?_⟩) | (refine ⟨fun _ => ?_, fun h => absurd h (by decide)⟩) | (refine ⟨⟨Nat.le_of_ble_eq_true rfl, Nat.le_of_ble_eq_true rfl⟩, ?_⟩) | (simp (disch := omega) only [nI_clamp, clL, nI_1, nI_add, pk_mul, ni_aL, ni_aR, ni_mL, ni_mR, ni_sR, ni_sb, ni_m1, ni_dv, mj_u_eq, mj_u_ne1, mj_u_ne2]; try (conv => whnf)) | (refine ⟨vpq _ rfl (by omega) (by omega), ?_⟩) | (refine ⟨fun h => absurd h (by (simp (disch := omega) only [nI_1, nI_add, nI_leI, nI_ltI, nI_eq, ni_ltR, ni_ltL, ni_leR, ni_leL, ni_eqR, ni_eqL, ni_nm, ni_nm2, not_false_eq_true]; first | done | omega)), fun _ => ?_⟩) | (refine ⟨fun _ => ?_, fun h => absurd (by (simp (disch := omega) only [nI_1, nI_add, nI_leI, nI_ltI, nI_eq, ni_ltR, ni_ltL, ni_leR, ni_leL, ni_eqR, ni_eqL, ni_nm, ni_nm2, not_false_eq_true]; first | done | omega)) h⟩) | (refine ⟨fun h => absurd (by (simp (disch := omega) only [nI_1, nI_add, nI_leI, nI_ltI, nI_eq, ni_ltR, ni_ltL, ni_leR, ni_leL, ni_eqR, ni_eqL, ni_nm, ni_nm2, not_false_eq_true]; first | done | omega)) h, fun _ => ?_⟩) | (refine ⟨fun _ => ?_, fun h => absurd h (by (simp (disch := omega) only [nI_1, nI_add, nI_leI, nI_ltI, nI_eq, ni_ltR, ni_ltL, ni_leR, ni_leL, ni_eqR, ni_eqL, ni_nm, ni_nm2, not_false_eq_true]; first | done | omega))⟩) | fail))
      refine ih (i + 1) _ (by omega) (fun b hb => by rw [mj_u_row _ _ _ _ hb]; exact f1 b hb) (fun j hj => by rw [mj_u_ne2 _ _ _ _ (by omega)]; exact f2 j hj) (fun j hj => ?_)
      by_cases z : j = i
      · rw [z, mj_u_eq]
      · rw [mj_u_ne2 _ _ _ _ (by omega)]
        exact f3 j (by omega)
  exact loop 18 0 I (by decide) (fun _ _ => rfl) (fun _ _ => rfl) (fun j hj => absurd hj (Nat.not_lt_zero j))
set_option maxHeartbeats 4000000 in
theorem OP_line {sh : mj_S} {P : mj_P} {I : mj_I} {J : mj_J} {Q : mj_Q} {a b k x y o : Int32} (h : Inv sh P I J) (hQ : ∀ v (e1 : mj_S) P1 I1 J1, (∀ Q2 : mj_Q, (∀ sh2 P2 I2 J2, Inv sh2 P2 I2 J2 → Q2 (some (.int v)) sh2 P2 I2 J2) → mj_ret mj_pr 400 n_Mo_line [.ref 139, .int a, .int b, .int k, .int x, .int y, .int o] (0, 0) (sh0 ++ e1) P1 I1 J1 Q2) → Q (some (.int v)) (sh0 ++ e1) P1 I1 J1) : mj_ret mj_pr 400 n_LS_line [.ref 0, .int a, .int b, .int k, .int x, .int y, .int o] (0, 0) sh P I J Q := by
  obtain ⟨e, P0, r0, r1, r2, r3, rs, kp, ps, tp, fk, fp, dy, ln, sn, dr, pl, sl, cl, lf, bk, lk, rl, cz, a1, a2, a3, a4, a5, a6, a7, a8, a9, a10, a11, a12, ⟨a13, a14, a15, a16⟩, a17⟩ := id h
  subst a1 a2
  obtain ⟨w1, w2, w3, w4, w5, w6, w7, w8, w9, w10, w11⟩ := id a4
  obtain ⟨c1, c2, c3, c4, c5, c6, c7, c8, c9, c10, c11, c12⟩ := id a5
  obtain ⟨m1, m2, m3, m4, m5, m6, m7, m8, m9, m10, m11, m12⟩ := id a6
  by_cases z : (rg a 7 ∧ rg b 7 ∧ ¬ a = b ∧ rg k 3 ∧ rg x 1023 ∧ rg y 1023 ∧ rg o 1000) ∧ ln < 12
  · obtain ⟨⟨z1, z2, z3, z4, z5, z6, z7⟩, hln⟩ := z
    have q1 := bz_1 z1
    have q2 := bz_1 z2
    have q4 := bz_1 z4
    have q5 := bz_1 z5
    have q6 := bz_1 z6
    have q7 := bz_1 z7
    obtain ⟨a, ha, rfl⟩ := rg_ex (by decide) z1
    obtain ⟨b, hb, rfl⟩ := rg_ex (by decide) z2
    obtain ⟨k, hk, rfl⟩ := rg_ex (by decide) z4
    obtain ⟨x, hx, rfl⟩ := rg_ex (by decide) z5
    obtain ⟨y, hy, rfl⟩ := rg_ex (by decide) z6
    obtain ⟨o, ho, rfl⟩ := rg_ex (by decide) z7
    have hab : a ≠ b := fun w => z3 (by rw [w])
    have hk2 := kd_15 (e := e) hln
    have hp2 := cp_2 (P := P0) (r0 := r0) (r1 := r1) (r2 := r2) (r3 := r3) (rs := rs) (kp := kp) hln
    have c2' : I 1 10 = nI ln := c2
    refine mj_in2 9 t_LS_line rfl rfl (fun X cr C F => ?_)
    (repeat (first | (apply F; conv => whnf) | (refine ⟨rfl, ?_⟩) | (refine ⟨vpk (by decide) ?_, ?_⟩; rfl) | (refine ⟨by assumption, ?_⟩) | (refine ⟨by decide, ?_⟩) | (refine ⟨fun h => absurd h (by decide), fun _ => ?_⟩) | (refine ⟨fun _ => ?_, fun h => absurd (by decide) h⟩) | (refine ⟨fun h => absurd (by decide) h, fun _ => ?_⟩) | (refine ⟨fun _ => ?_, fun h => absurd h (by decide)⟩) | (refine ⟨⟨Nat.le_of_ble_eq_true rfl, Nat.le_of_ble_eq_true rfl⟩, ?_⟩) | (simp (disch := omega) only [nI_clamp, clL, nI_1, nI_add, pk_mul, ni_aL, ni_aR, ni_mL, ni_mR, ni_sR, ni_sb, ni_m1, ni_dv, mj_u_eq, mj_u_ne1, mj_u_ne2, q1, q2, q4, q5, q6, q7, c2', hp2, ln_2]; try (conv => whnf)) | (refine ⟨vpq _ rfl (by omega) (by omega), ?_⟩) | (refine ⟨fun h => absurd h (by (simp (disch := omega) only [nI_1, nI_add, nI_leI, nI_ltI, nI_eq, ni_ltR, ni_ltL, ni_leR, ni_leL, ni_eqR, ni_eqL, ni_nm, ni_nm2, not_false_eq_true]; first | done | omega)), fun _ => ?_⟩) | (refine ⟨fun _ => ?_, fun h => absurd (by (simp (disch := omega) only [nI_1, nI_add, nI_leI, nI_ltI, nI_eq, ni_ltR, ni_ltL, ni_leR, ni_leL, ni_eqR, ni_eqL, ni_nm, ni_nm2, not_false_eq_true]; first | done | omega)) h⟩) | (refine ⟨fun h => absurd (by (simp (disch := omega) only [nI_1, nI_add, nI_leI, nI_ltI, nI_eq, ni_ltR, ni_ltL, ni_leR, ni_leL, ni_eqR, ni_eqL, ni_nm, ni_nm2, not_false_eq_true]; first | done | omega)) h, fun _ => ?_⟩) | (refine ⟨fun _ => ?_, fun h => absurd h (by (simp (disch := omega) only [nI_1, nI_add, nI_leI, nI_ltI, nI_eq, ni_ltR, ni_ltL, ni_leR, ni_leL, ni_eqR, ni_eqL, ni_nm, ni_nm2, not_false_eq_true]; first | done | omega))⟩) | (refine C (vLS_isStation ?_)) | (refine C (vLS_isKind ?_)) | (refine C (vLS_isSet ?_)) | (refine C (vLS_isOdds ?_)) | (refine C (Pa_forget ?_)) | (refine ⟨nb_bz, ?_⟩) | (refine ⟨fun _ => ?_, fun h => absurd (by assumption) h⟩) | (refine ⟨fun h => absurd h (by assumption), fun _ => ?_⟩) | (refine ⟨fun h => absurd (by assumption) h, fun _ => ?_⟩) | (refine ⟨fun _ => ?_, fun h => absurd h (by assumption)⟩) | fail))
    generalize hI : mj_u (mj_u (mj_u (mj_u (mj_u (mj_u (mj_u (mj_u (mj_u I _ _ _) _ _ _) _ _ _) _ _ _) _ _ _) _ _ _) _ _ _) _ _ _) _ _ _ = I1
    have f1 : ∀ b, b ≠ 15 + ln ∧ b ≠ 55 ∧ b ≠ 1 → I1 b = I b := fun b hb => by rw [← hI]; simp (disch := omega) only [mj_u_row]
    have f2 : ∀ j, j ≠ 10 → I1 1 j = I 1 j := fun j hj => by rw [← hI]; simp (disch := omega) only [mj_u_ne1, mj_u_ne2]
    have g0 : I1 (15 + ln) 0 = nI a := by rw [← hI]; simp (disch := omega) only [mj_u_ne1, mj_u_ne2, mj_u_eq]
    have g1 : I1 (15 + ln) 1 = nI b := by rw [← hI]; simp (disch := omega) only [mj_u_ne1, mj_u_ne2, mj_u_eq]
    have g2 : I1 (15 + ln) 2 = nI k := by rw [← hI]; simp (disch := omega) only [mj_u_ne1, mj_u_ne2, mj_u_eq]
    have g3 : I1 (15 + ln) 3 = nI x := by rw [← hI]; simp (disch := omega) only [mj_u_ne1, mj_u_ne2, mj_u_eq]
    have g4 : I1 (15 + ln) 4 = nI y := by rw [← hI]; simp (disch := omega) only [mj_u_ne1, mj_u_ne2, mj_u_eq]
    have g5 : I1 (15 + ln) 5 = nI o := by rw [← hI]; simp (disch := omega) only [mj_u_ne1, mj_u_ne2, mj_u_eq]
    have g6 : I1 (15 + ln) 6 = 0 := by rw [← hI]; simp (disch := omega) only [mj_u_ne1, mj_u_ne2, mj_u_eq]
    have g7 : I1 1 10 = nI (ln + 1) := by rw [← hI]; simp (disch := omega) only [mj_u_ne1, mj_u_ne2, mj_u_eq]
    have g8 : I1 55 6 = 0 := by rw [← hI]; simp (disch := omega) only [mj_u_ne1, mj_u_ne2, mj_u_eq]
    have g9 : I1 55 5 = I 55 5 := by rw [← hI]; simp (disch := omega) only [mj_u_ne1, mj_u_ne2, mj_u_eq]
    clear hI
    rw [show ln + 1 - 1 = ln by omega]
    refine hQ _ _ _ _ _ (fun Q2 kk => Mo_line_y (by rw [f1 140 (by omega)]; exact m2) hln ha hb hab hk hx hy ho (fun I' u1 u2 u3 u4 u5 v0 v1 v2 v3 v4 v5 v6 => kk _ _ _ _ ?_))
    have f1' : ∀ b, b ≠ 15 + ln ∧ b ≠ 55 ∧ b ≠ 1 ∧ b ≠ 139 ∧ b ≠ 140 → I' b = I b := fun b hb => by rw [u1 b (by omega) (by omega), f1 b (by omega)]
    have f2' : ∀ j, j ≠ 10 → I' 1 j = I 1 j := fun j hj => by rw [u1 1 (by omega) (by omega), f2 j hj]
    have f3 : ∀ j, j ≠ 1 ∧ (j < 70 + 18 * ln ∨ 70 + 18 * ln + 18 ≤ j) → I' 140 j = I 140 j := fun j hj => by rw [u4 j hj.1 hj.2, f1 140 (by omega)]
    have f4 : ∀ j, j ≠ 4 → I' 139 j = I 139 j := fun j hj => by rw [u2 j hj, f1 139 (by omega)]
    have g5' : I' 55 6 = 0 := by rw [u1 55 (by omega) (by omega)]; exact g8
    have g6' : I' 55 5 = I 55 5 := by rw [u1 55 (by omega) (by omega)]; exact g9
    have q15 : I' (15 + ln) = I1 (15 + ln) := u1 _ (by omega) (by omega)
    have gC : ∀ l, l < ln + 1 → ∀ j, j < 7 → I' (15 + l) j = nI (if l = ln then nlf a b k x y o j else lf l j) := by
      intro l hl j hj
      by_cases w : l = ln
      · subst w
        rw [if_pos rfl, q15]
        rcases (show j = 0 ∨ j = 1 ∨ j = 2 ∨ j = 3 ∨ j = 4 ∨ j = 5 ∨ j = 6 by omega) with rfl | rfl | rfl | rfl | rfl | rfl | rfl
        · exact g0
        · exact g1
        · exact g2
        · exact g3
        · exact g4
        · exact g5
        · exact g6
      · rw [if_neg w, f1' _ (by omega)]
        exact c8 l (by omega) j hj
    have gM : ∀ l, l < ln + 1 → ∀ j, j < 7 → I' 140 (70 + 18 * l + j) = nI (if l = ln then nlf a b k x y o j else lf l j) := by
      intro l hl j hj
      by_cases w : l = ln
      · subst w
        rw [if_pos rfl]
        rcases (show j = 0 ∨ j = 1 ∨ j = 2 ∨ j = 3 ∨ j = 4 ∨ j = 5 ∨ j = 6 by omega) with rfl | rfl | rfl | rfl | rfl | rfl | rfl
        · exact v0
        · exact v1
        · exact v2
        · exact v3
        · exact v4
        · exact v5
        · exact v6 6 (by decide) (by decide)
      · rw [if_neg w, f3 _ (by omega)]
        exact m8 l (by omega) j hj
    have gB : ∀ l, l < ln + 1 → lfB (fun j => if l = ln then nlf a b k x y o j else lf l j) := by
      intro l hl
      by_cases w : l = ln
      · simp only [w, if_true]
        exact ⟨by show a < 8; omega, by show b < 8; omega, by show k < 4; omega, by show x < 1024; omega, by show y < 1024; omega, ho, by show 0 < 2; decide⟩
      · simp only [w, if_false]
        exact w6 l (by omega)
    have gK : bkM I' 140 bk := by
      obtain ⟨b1, b2, b3, b4⟩ := m9
      refine ⟨fun l hl d hd => ?_, by rw [f3 _ (by omega)]; exact b2, b3, fun j hj => by rw [f3 _ (by omega)]; exact b4 j hj⟩
      by_cases w : l = ln
      · subst w
        rw [v6 (7 + d) (by omega) (by omega), w8 l (Nat.le_refl l) hl d hd]
      · rw [f3 _ (by omega)]
        exact b1 l hl d hd
    clear f1 f2
    have f1 := f1'
    have f2 := f2'
    refine ⟨e, P0, r0, r1, r2, r3, rs, kp, [], tp, fk, fp, dy, ln + 1, sn, dr, pl, sl, cl, fun l j => if l = ln then nlf a b k x y o j else lf l j, bk, lk, rl, cz, rfl, rfl, a3, ?_, ⟨?_, ?_, ?_, ?_, ?_, ?_, ?_, ?_, ?_, ?_, ?_, ?_⟩, ⟨?_, ?_, ?_, ?_, ?_, ?_, ?_, ?_, ?_, ?_, ?_, ?_⟩, ?_, ?_, ?_, ?_, ?_, ?_, ⟨?_, ?_, ?_, ?_⟩, ?_⟩
    · exact ⟨w1, by omega, w3, w4, w5, gB, w7, fun l l1 l2 => w8 l (by omega) l2, w9, w10, w11⟩
    · rw [f2 _ (by omega)]; exact c1
    · rw [u1 1 (by omega) (by omega)]; exact g7
    · rw [f2 _ (by omega)]; exact c3
    · rw [f2 _ (by omega)]; exact c4
    · exact mg_congr c5 (f1 _ (by omega)) (f1 _ (by omega))
    · exact mg_congr c6 (f1 _ (by omega)) (f1 _ (by omega))
    · exact mg_congr c7 (f1 _ (by omega)) (f1 _ (by omega))
    · exact gC
    · exact bkC_cp c9 (f2 _ (by omega)) (f1 _ (by omega)) (f1 _ (by omega))
    · exact lkC_cp c10 (f2 _ (by omega)) (fun b b1 b2 => f1 _ (by omega))
    · exact fun k hk => ruC_congr (c11 k hk) (fun b b1 b2 => f1 b (by have := RD_ra a3 hk; omega))
    · exact c12
    · rw [f3 _ (by omega)]; exact m1
    · exact u5
    · rw [f3 _ (by omega)]; exact m3
    · rw [f3 _ (by omega)]; exact m4
    · exact msM_cp m5 w3.1 (fun k hk => f3 k (by omega))
    · exact msM_cp m6 w4.1 (fun k hk => f3 k (by omega))
    · exact msM_cp m7 w5.1 (fun k hk => f3 k (by omega))
    · exact gM
    · exact gK
    · exact lkM_cp m10 w9 w10 (fun k hk => f3 k (by omega))
    · exact fun k hk => ruM_cp (m11 k hk) (fun j hj => f3 j (by omega))
    · exact m12
    · exact PF_nil
    · exact PC_nil a8 g6' g5'
    · exact PM_nil u3
    · exact a10
    · exact TC_cp a11 (f1 _ (by omega)) (f1 _ (by omega))
    · exact TM_cp a12 (f4 _ (by omega)) (f1 _ (by omega))
    · rw [f1 87 (by omega)]; exact a13
    · rw [f1 87 (by omega)]; exact a14
    · rw [f4 _ (by omega)]; exact a15
    · rw [f4 _ (by omega)]; exact a16
    · exact IM_congr a17 (f4 _ (by omega)) (fun b b1 => f1 b (by omega)) (f1 _ (by omega)) rfl rfl
  · have fin : Q (some (.int (-1))) (sh0 ++ e) (cp P0 r0 r1 r2 r3 rs kp) I J := by
      refine hQ _ _ _ _ _ (fun Q2 kk => ?_)
      refine mj_in2 9 t_Mo_line rfl rfl (fun X cr C F => ?_)
      (repeat' (first | ((fail_if_success (show X 77 _ _ _ _ _ _ _)); apply F; conv => whnf) | (refine ⟨rfl, ?_⟩) | (refine ⟨vpk (by decide) ?_, ?_⟩; rfl) | (refine ⟨by assumption, ?_⟩) | (refine ⟨by decide, ?_⟩) | (refine ⟨fun h => absurd h (by decide), fun _ => ?_⟩) | (refine ⟨fun _ => ?_, fun h => absurd (by decide) h⟩) | (refine ⟨fun h => absurd (by decide) h, fun _ => ?_⟩) | (refine ⟨fun _ => ?_, fun h => absurd h (by decide)⟩) | (refine ⟨⟨Nat.le_of_ble_eq_true rfl, Nat.le_of_ble_eq_true rfl⟩, ?_⟩) | (simp (disch := omega) only [nI_clamp, clL, nI_1, nI_add, pk_mul, ni_aL, ni_aR, ni_mL, ni_mR, ni_sR, ni_sb, ni_m1, ni_dv, mj_u_eq, mj_u_ne1, mj_u_ne2, m2]; try (conv => whnf)) | (refine ⟨vpq _ rfl (by omega) (by omega), ?_⟩) | (refine ⟨fun h => absurd h (by (simp (disch := omega) only [nI_1, nI_add, nI_leI, nI_ltI, nI_eq, ni_ltR, ni_ltL, ni_leR, ni_leL, ni_eqR, ni_eqL, ni_nm, ni_nm2, not_false_eq_true]; first | done | omega)), fun _ => ?_⟩) | (refine ⟨fun _ => ?_, fun h => absurd (by (simp (disch := omega) only [nI_1, nI_add, nI_leI, nI_ltI, nI_eq, ni_ltR, ni_ltL, ni_leR, ni_leL, ni_eqR, ni_eqL, ni_nm, ni_nm2, not_false_eq_true]; first | done | omega)) h⟩) | (refine ⟨fun h => absurd (by (simp (disch := omega) only [nI_1, nI_add, nI_leI, nI_ltI, nI_eq, ni_ltR, ni_ltL, ni_leR, ni_leL, ni_eqR, ni_eqL, ni_nm, ni_nm2, not_false_eq_true]; first | done | omega)) h, fun _ => ?_⟩) | (refine ⟨fun _ => ?_, fun h => absurd h (by (simp (disch := omega) only [nI_1, nI_add, nI_leI, nI_ltI, nI_eq, ni_ltR, ni_ltL, ni_leR, ni_leL, ni_eqR, ni_eqL, ni_nm, ni_nm2, not_false_eq_true]; first | done | omega))⟩) | (refine C (vMo_isStation ?_)) | (refine C (vMo_isIn (n := 3) ?_)) | (refine C (vMo_isIn (n := 1023) ?_)) | (refine C (vMo_isIn (n := 1000) ?_)) | (refine ⟨nb_bz, ?_⟩) | (refine ⟨fun _ => ?_, fun h => absurd (by assumption) h⟩) | (refine ⟨fun h => absurd h (by assumption), fun _ => ?_⟩) | (refine ⟨fun h => absurd (by assumption) h, fun _ => ?_⟩) | (refine ⟨fun _ => ?_, fun h => absurd h (by assumption)⟩) | (refine ⟨fun _ => ?_, fun _ => ?_⟩) | fail))
      all_goals first | exact kk _ _ _ _ h | skip
      exfalso
      refine z ⟨⟨bz_of (by assumption), bz_of (by assumption), by assumption, bz_of (by assumption), bz_of (by assumption), bz_of (by assumption), bz_of (by assumption)⟩, ?_⟩
      rename_i q
      rcases Nat.lt_or_ge ln 12 with w | w
      · exact w
      · exact absurd (show nI ln = 12 by rw [show ln = 12 by omega]; rfl) q
    have c2' : I 1 10 = nI ln := c2
    refine mj_in2 9 t_LS_line rfl rfl (fun X cr C F => ?_)
    (repeat' (first | ((fail_if_success (show X 76 _ _ _ _ _ _ _)); apply F; conv => whnf) | (refine ⟨rfl, ?_⟩) | (refine ⟨vpk (by decide) ?_, ?_⟩; rfl) | (refine ⟨by assumption, ?_⟩) | (refine ⟨by decide, ?_⟩) | (refine ⟨fun h => absurd h (by decide), fun _ => ?_⟩) | (refine ⟨fun _ => ?_, fun h => absurd (by decide) h⟩) | (refine ⟨fun h => absurd (by decide) h, fun _ => ?_⟩) | (refine ⟨fun _ => ?_, fun h => absurd h (by decide)⟩) | (refine ⟨⟨Nat.le_of_ble_eq_true rfl, Nat.le_of_ble_eq_true rfl⟩, ?_⟩) | (simp (disch := omega) only [nI_clamp, clL, nI_1, nI_add, pk_mul, ni_aL, ni_aR, ni_mL, ni_mR, ni_sR, ni_sb, ni_m1, ni_dv, mj_u_eq, mj_u_ne1, mj_u_ne2, c2']; try (conv => whnf)) | (refine ⟨vpq _ rfl (by omega) (by omega), ?_⟩) | (refine ⟨fun h => absurd h (by (simp (disch := omega) only [nI_1, nI_add, nI_leI, nI_ltI, nI_eq, ni_ltR, ni_ltL, ni_leR, ni_leL, ni_eqR, ni_eqL, ni_nm, ni_nm2, not_false_eq_true]; first | done | omega)), fun _ => ?_⟩) | (refine ⟨fun _ => ?_, fun h => absurd (by (simp (disch := omega) only [nI_1, nI_add, nI_leI, nI_ltI, nI_eq, ni_ltR, ni_ltL, ni_leR, ni_leL, ni_eqR, ni_eqL, ni_nm, ni_nm2, not_false_eq_true]; first | done | omega)) h⟩) | (refine ⟨fun h => absurd (by (simp (disch := omega) only [nI_1, nI_add, nI_leI, nI_ltI, nI_eq, ni_ltR, ni_ltL, ni_leR, ni_leL, ni_eqR, ni_eqL, ni_nm, ni_nm2, not_false_eq_true]; first | done | omega)) h, fun _ => ?_⟩) | (refine ⟨fun _ => ?_, fun h => absurd h (by (simp (disch := omega) only [nI_1, nI_add, nI_leI, nI_ltI, nI_eq, ni_ltR, ni_ltL, ni_leR, ni_leL, ni_eqR, ni_eqL, ni_nm, ni_nm2, not_false_eq_true]; first | done | omega))⟩) | (refine C (vLS_isStation ?_)) | (refine C (vLS_isKind ?_)) | (refine C (vLS_isSet ?_)) | (refine C (vLS_isOdds ?_)) | (refine ⟨nb_bz, ?_⟩) | (refine ⟨fun _ => ?_, fun h => absurd (by assumption) h⟩) | (refine ⟨fun h => absurd h (by assumption), fun _ => ?_⟩) | (refine ⟨fun h => absurd (by assumption) h, fun _ => ?_⟩) | (refine ⟨fun _ => ?_, fun h => absurd h (by assumption)⟩) | (refine ⟨fun _ => ?_, fun _ => ?_⟩) | fail))
    all_goals first | exact fin | skip
    exfalso
    refine z ⟨⟨bz_of (by assumption), bz_of (by assumption), by assumption, bz_of (by assumption), bz_of (by assumption), bz_of (by assumption), bz_of (by assumption)⟩, ?_⟩
    rename_i q
    exact (nI_ltI (b := 12) (by omega) (by decide)).mp q
