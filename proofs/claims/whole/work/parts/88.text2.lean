/-! text: the answer -/
theorem cp_tset (r0 r1 r2 r3 rs : Nat) (kp : Option Nat) : cp_t r0 r1 r2 r3 rs kp = ((cp_t 0 0 0 0 0 kp).set 3 [some r0, some r1, some r2, some r3]).set 87 [some 85, some 88, none, none, none, none, some rs] := rfl
theorem cp_ne {P : mj_P} {r0 r1 r2 r3 rs s0 s1 s2 s3 ss : Nat} {kp : Option Nat} {a : Nat} (h3 : a ≠ 3) (h87 : a ≠ 87) : cp P r0 r1 r2 r3 rs kp a = cp P s0 s1 s2 s3 ss kp a := by
  funext j
  unfold cp
  have e : (cp_t r0 r1 r2 r3 rs kp).getD a [] = (cp_t s0 s1 s2 s3 ss kp).getD a [] := by
    rw [cp_tset r0, cp_tset s0, List.getD_eq_getElem?_getD, List.getD_eq_getElem?_getD, List.getElem?_set_ne (Ne.symm h87), List.getElem?_set_ne (Ne.symm h3), List.getElem?_set_ne (Ne.symm h87), List.getElem?_set_ne (Ne.symm h3)]
  rw [e]
theorem cp_3r (P : mj_P) (r0 r1 r2 r3 rs : Nat) (kp : Option Nat) (j : Nat) : cp P r0 r1 r2 r3 rs kp 3 j = match ([some r0, some r1, some r2, some r3] : List (Option Nat))[j]? with
    | some v => v
    | none => P 3 j := rfl
theorem cp_87r (P : mj_P) (r0 r1 r2 r3 rs : Nat) (kp : Option Nat) (j : Nat) : cp P r0 r1 r2 r3 rs kp 87 j = match ([some 85, some 88, none, none, none, none, some rs] : List (Option Nat))[j]? with
    | some v => v
    | none => P 87 j := rfl
def sw (k rs r0 r1 r2 r3 : Nat) (j : Nat) : Nat := if j = k then rs else ra r0 r1 r2 r3 j
theorem cp_swap {P : mj_P} {r0 r1 r2 r3 rs : Nat} {kp : Option Nat} {k : Nat} (hk : k < 4) : mj_u (mj_u (cp P r0 r1 r2 r3 rs kp) 87 6 (some (ra r0 r1 r2 r3 k))) 3 k (some rs) = cp P (sw k rs r0 r1 r2 r3 0) (sw k rs r0 r1 r2 r3 1) (sw k rs r0 r1 r2 r3 2) (sw k rs r0 r1 r2 r3 3) (ra r0 r1 r2 r3 k) kp := by
  funext a j
  by_cases h3 : a = 3
  · subst h3
    rw [cp_3r]
    by_cases hj : j = k
    · subst hj
      rw [mj_u_eq]
      rcases (show j = 0 ∨ j = 1 ∨ j = 2 ∨ j = 3 by omega) with rfl | rfl | rfl | rfl <;> rfl
    · rw [mj_u_ne2 _ _ _ _ hj, mj_u_row _ _ _ _ (by decide), cp_3r]
      match j, hj with
      | 0, hj => show some r0 = some (sw k rs r0 r1 r2 r3 0); unfold sw; rw [if_neg hj]; rfl
      | 1, hj => show some r1 = some (sw k rs r0 r1 r2 r3 1); unfold sw; rw [if_neg hj]; rfl
      | 2, hj => show some r2 = some (sw k rs r0 r1 r2 r3 2); unfold sw; rw [if_neg hj]; rfl
      | 3, hj => show some r3 = some (sw k rs r0 r1 r2 r3 3); unfold sw; rw [if_neg hj]; rfl
      | j + 4, hj => rfl
  · rw [mj_u_row _ _ _ _ h3]
    by_cases h87 : a = 87
    · subst h87
      rw [cp_87r]
      by_cases hj : j = 6
      · subst hj
        rw [mj_u_eq]
        rfl
      · rw [mj_u_ne2 _ _ _ _ hj, cp_87r]
        match j, hj with
        | 0, _ => rfl
        | 1, _ => rfl
        | 2, _ => rfl
        | 3, _ => rfl
        | 4, _ => rfl
        | 5, _ => rfl
        | 6, hj => exact absurd rfl hj
        | j + 7, _ => rfl
    · rw [mj_u_row _ _ _ _ h87]
      exact congrFun (cp_ne h3 h87) j
theorem sw_ra {k rs r0 r1 r2 r3 j : Nat} (h : j < 4) : ra (sw k rs r0 r1 r2 r3 0) (sw k rs r0 r1 r2 r3 1) (sw k rs r0 r1 r2 r3 2) (sw k rs r0 r1 r2 r3 3) j = sw k rs r0 r1 r2 r3 j := by
  rcases (show j = 0 ∨ j = 1 ∨ j = 2 ∨ j = 3 by omega) with rfl | rfl | rfl | rfl <;> rfl
theorem sw_RD {k rs r0 r1 r2 r3 : Nat} (hk : k < 4) (h : RD r0 r1 r2 r3 rs) : RD (sw k rs r0 r1 r2 r3 0) (sw k rs r0 r1 r2 r3 1) (sw k rs r0 r1 r2 r3 2) (sw k rs r0 r1 r2 r3 3) (ra r0 r1 r2 r3 k) := by
  obtain ⟨h1, h2⟩ := h
  simp only [List.nodup_cons, List.mem_cons, List.not_mem_nil, or_false, not_or, List.nodup_nil, and_true, not_false_eq_true] at h1
  have h2' : ∀ r, (r = r0 ∨ r = r1 ∨ r = r2 ∨ r = r3 ∨ r = rs) → r = 27 ∨ r = 34 ∨ r = 41 ∨ r = 48 ∨ r = 89 := fun r hr => h2 r (by simpa using hr)
  rcases (show k = 0 ∨ k = 1 ∨ k = 2 ∨ k = 3 by omega) with rfl | rfl | rfl | rfl
  all_goals
    refine ⟨?_, fun r hr => h2' r ?_⟩
    · simp [sw, ra]
      omega
    · simp [sw, ra] at hr
      omega
theorem rs_apart {r0 r1 r2 r3 rs k : Nat} (h : RD r0 r1 r2 r3 rs) (hk : k < 4) : ra r0 r1 r2 r3 k ≠ rs := by
  obtain ⟨h1, h2⟩ := h
  simp only [List.nodup_cons, List.mem_cons, List.not_mem_nil, or_false, not_or, List.nodup_nil, and_true, not_false_eq_true] at h1
  rcases (show k = 0 ∨ k = 1 ∨ k = 2 ∨ k = 3 by omega) with rfl | rfl | rfl | rfl <;> simp [ra] <;> omega
theorem RD_rs {r0 r1 r2 r3 rs : Nat} (h : RD r0 r1 r2 r3 rs) : isRs rs := h.2 rs (by simp)
theorem pRls_W {z n : Nat} : ∀ (m cnt : Nat) (ts : List Tk) (us vs : List Ru), us.length = cnt → tkOk ts → 3 * ts.length + 3 ≤ n → ruW us → pRls z n m cnt ts = .ok vs → ruW (us ++ vs)
  | 0, _, _, _, _, _, _, _, _, h => by cases h
  | m + 1, cnt, ts, us, vs, hc9, hk, hn, hW, h => by
    unfold pRls at h
    split at h
    · cases h
      rw [List.append_nil]
      exact hW
    · split at h
      · cases h
      · rename_i u ts' er
        obtain ⟨p1, p2, p3, p4, p5, p6, p7, p8⟩ := pRule_ok hk hn er
        split at h
        · cases h
        · rename_i ws ep
          cases h
          have := pRls_W m (cnt + 1) ts' (us ++ [u]) ws (by rw [List.length_append, List.length_singleton, hc9]) p1 (by omega) (ruW_snoc hW (by omega) p4 p5 p6 p7) ep
          rw [List.append_assoc] at this
          exact this
theorem Mo_text_n {d : Nat} {e : mj_S} {P : mj_P} {r0 r1 r2 r3 rs : Nat} {kp : Option Nat} {I : mj_I} {J : mj_J} {Q : mj_Q} {a : Int32} (ha : ¬ rg a 3) (hQ : ∀ I', (∀ b, b ≠ 139 → I' b = I b) → (∀ j, j < 13 ∨ 24 < j → I' 139 j = I 139 j) → I' 139 15 = 0 → I' 139 22 = 0 → I' 139 24 = -1 → Q (some (.int (-1))) (sh0 ++ e) (cp P r0 r1 r2 r3 rs kp) I' J) : mj_ret mj_pr (d + 40) n_Mo_text [.ref 139, .int a] (0, 0) (sh0 ++ e) (cp P r0 r1 r2 r3 rs kp) I J Q := by
  refine mj_in2 5 t_Mo_text rfl rfl (fun X cr C F => ?_)
  (repeat (first | (apply F; conv => whnf) | (refine ⟨rfl, ?_⟩) | (refine ⟨vpk (by decide) ?_, ?_⟩; rfl) | (refine ⟨by assumption, ?_⟩) | (refine ⟨by decide, ?_⟩) | (refine ⟨fun h => absurd h (by decide), fun _ => ?_⟩) | (refine ⟨fun _ => ?_, fun h => absurd (by decide) h⟩) | (refine ⟨fun h => absurd (by decide) h, fun _ => ?_⟩) | (refine ⟨fun _ => ?_, fun h => absurd h (by decide)⟩) | (refine ⟨⟨Nat.le_of_ble_eq_true rfl, Nat.le_of_ble_eq_true rfl⟩, ?_⟩) | (simp (disch := omega) only [nI_clamp, clL, nI_1, nI_add, pk_mul, ni_aL, ni_aR, ni_mL, ni_mR, ni_sR, ni_sb, ni_m1, ni_dv, mj_u_eq, mj_u_ne1, mj_u_ne2]; try (conv => whnf)) | (refine ⟨vpq _ rfl (by omega) (by omega), ?_⟩) | (refine ⟨fun h => absurd h (by (simp (disch := omega) only [nI_1, nI_add, nI_leI, nI_ltI, nI_eq, ni_ltR, ni_ltL, ni_leR, ni_leL, ni_eqR, ni_eqL, ni_nm, ni_nm2, not_false_eq_true]; first | done | omega)), fun _ => ?_⟩) | (refine ⟨fun _ => ?_, fun h => absurd (by (simp (disch := omega) only [nI_1, nI_add, nI_leI, nI_ltI, nI_eq, ni_ltR, ni_ltL, ni_leR, ni_leL, ni_eqR, ni_eqL, ni_nm, ni_nm2, not_false_eq_true]; first | done | omega)) h⟩) | (refine ⟨fun h => absurd (by (simp (disch := omega) only [nI_1, nI_add, nI_leI, nI_ltI, nI_eq, ni_ltR, ni_ltL, ni_leR, ni_leL, ni_eqR, ni_eqL, ni_nm, ni_nm2, not_false_eq_true]; first | done | omega)) h, fun _ => ?_⟩) | (refine ⟨fun _ => ?_, fun h => absurd h (by (simp (disch := omega) only [nI_1, nI_add, nI_leI, nI_ltI, nI_eq, ni_ltR, ni_ltL, ni_leR, ni_leL, ni_eqR, ni_eqL, ni_nm, ni_nm2, not_false_eq_true]; first | done | omega))⟩) | fail))
  refine C (vMo_isIn (n := 3) ?_)
  rw [bz_0 ha]
  (repeat (first | (apply F; conv => whnf) | (refine ⟨rfl, ?_⟩) | (refine ⟨vpk (by decide) ?_, ?_⟩; rfl) | (refine ⟨by assumption, ?_⟩) | (refine ⟨by decide, ?_⟩) | (refine ⟨fun h => absurd h (by decide), fun _ => ?_⟩) | (refine ⟨fun _ => ?_, fun h => absurd (by decide) h⟩) | (refine ⟨fun h => absurd (by decide) h, fun _ => ?_⟩) | (refine ⟨fun _ => ?_, fun h => absurd h (by decide)⟩) | (refine ⟨⟨Nat.le_of_ble_eq_true rfl, Nat.le_of_ble_eq_true rfl⟩, ?_⟩) | (simp (disch := omega) only [nI_clamp, clL, nI_1, nI_add, pk_mul, ni_aL, ni_aR, ni_mL, ni_mR, ni_sR, ni_sb, ni_m1, ni_dv, mj_u_eq, mj_u_ne1, mj_u_ne2]; try (conv => whnf)) | (refine ⟨vpq _ rfl (by omega) (by omega), ?_⟩) | (refine ⟨fun h => absurd h (by (simp (disch := omega) only [nI_1, nI_add, nI_leI, nI_ltI, nI_eq, ni_ltR, ni_ltL, ni_leR, ni_leL, ni_eqR, ni_eqL, ni_nm, ni_nm2, not_false_eq_true]; first | done | omega)), fun _ => ?_⟩) | (refine ⟨fun _ => ?_, fun h => absurd (by (simp (disch := omega) only [nI_1, nI_add, nI_leI, nI_ltI, nI_eq, ni_ltR, ni_ltL, ni_leR, ni_leL, ni_eqR, ni_eqL, ni_nm, ni_nm2, not_false_eq_true]; first | done | omega)) h⟩) | (refine ⟨fun h => absurd (by (simp (disch := omega) only [nI_1, nI_add, nI_leI, nI_ltI, nI_eq, ni_ltR, ni_ltL, ni_leR, ni_leL, ni_eqR, ni_eqL, ni_nm, ni_nm2, not_false_eq_true]; first | done | omega)) h, fun _ => ?_⟩) | (refine ⟨fun _ => ?_, fun h => absurd h (by (simp (disch := omega) only [nI_1, nI_add, nI_leI, nI_ltI, nI_eq, ni_ltR, ni_ltL, ni_leR, ni_leL, ni_eqR, ni_eqL, ni_nm, ni_nm2, not_false_eq_true]; first | done | omega))⟩) | fail))
  exact hQ _ (fun b hb => by rw [mj_u_row _ _ _ _ hb, mj_u_row _ _ _ _ hb, mj_u_row _ _ _ _ hb, mj_u_row _ _ _ _ hb]) (fun j hj => by rw [mj_u_ne2 _ _ _ _ (by omega), mj_u_ne2 _ _ _ _ (by omega), mj_u_ne2 _ _ _ _ (by omega), mj_u_ne2 _ _ _ _ (by omega)]) rfl rfl rfl
set_option maxHeartbeats 4000000 in
theorem OP_text {sh : mj_S} {P : mj_P} {I : mj_I} {J : mj_J} {Q : mj_Q} {a : Int32} (h : Inv sh P I J) (hQ : ∀ v (e1 : mj_S) P1 I1 J1, (∀ Q2 : mj_Q, (∀ sh2 P2 I2 J2, Inv sh2 P2 I2 J2 → Q2 (some (.int v)) sh2 P2 I2 J2) → mj_ret mj_pr 400 n_Mo_text [.ref 139, .int a] (0, 0) (sh0 ++ e1) P1 I1 J1 Q2) → Q (some (.int v)) (sh0 ++ e1) P1 I1 J1) : mj_ret mj_pr 400 n_LS_text [.ref 0, .int a] (0, 0) sh P I J Q := by
  obtain ⟨e, P0, r0, r1, r2, r3, rs, kp, ps, tp, fk, fp, dy, ln, sn, dr, pl, sl, cl, lf, bk, lk, rl, cz, a1, a2, a3, a4, a5, a6, a7, a8, a9, a10, a11, a12, ⟨a13, a14, a15, a16⟩, a17⟩ := id h
  subst a1 a2
  obtain ⟨w1, w2, w3, w4, w5, w6, w7, w8, w9, w10, w11⟩ := id a4
  obtain ⟨c1, c2, c3, c4, c5, c6, c7, c8, c9, c10, c11, c12⟩ := id a5
  obtain ⟨m1, m2, m3, m4, m5, m6, m7, m8, m9, m10, m11, m12⟩ := id a6
  have hrs := RD_rs a3
  have hrs9 := id hrs
  unfold isRs at hrs9
  have hR : isR (sh0 ++ e) (cp P0 r0 r1 r2 r3 rs kp) rs := isR_of hrs
  have k0 := hR.1
  -- what stays where no rules change
  have keepN : ∀ (I' : mj_I) (u v : Int32), (∀ b, b ≠ 85 ∧ b ≠ 87 ∧ b ≠ 88 ∧ (b < rs ∨ rs + 6 < b) ∧ b ≠ 139 ∧ b ≠ 144 ∧ b ≠ 145 → I' b = I b) → (∀ j, j < 13 ∨ 24 < j → I' 139 j = I 139 j) → I' 85 1 = 0 → I' 139 15 = 0 → I' 87 7 = u → I' 87 8 = v → I' 139 22 = u → I' 139 24 = v → Inv (sh0 ++ e) (cp P0 r0 r1 r2 r3 rs kp) I' J := by
    intro I' u v g1 g2 g3 g4 g5 g6 g7 g8
    have f1 : ∀ b, b ≠ 85 ∧ b ≠ 87 ∧ b ≠ 88 ∧ (b < rs ∨ rs + 6 < b) ∧ b ≠ 139 ∧ b ≠ 144 ∧ b ≠ 145 → I' b = I b := g1
    refine ⟨e, P0, r0, r1, r2, r3, rs, kp, ps, [], u, v, dy, ln, sn, dr, pl, sl, cl, lf, bk, lk, rl, cz, rfl, rfl, a3, a4, CW_congr a5 w2 (fun b b1 b2 => f1 b (by omega)) (fun k hk b b1 b2 => f1 b (by have := RD_ra a3 hk; have := rs_apart a3 hk; omega)) rfl, MW_congr a6 (f1 140 (by omega)) rfl, a7, PC_congr a8 (fun b b1 b2 => f1 b (by omega)) rfl, PM_congr a9 (g2 4 (by omega)) (f1 142 (by omega)) rfl, ⟨by decide, fun x hx => by cases hx⟩, ⟨g3, fun j hj => absurd hj (Nat.not_lt_zero j)⟩, ⟨g4, fun j hj => absurd hj (Nat.not_lt_zero j)⟩, ⟨g5, g6, g7, g8⟩, IM_congr a17 (g2 7 (by omega)) (fun b b1 => f1 b (by omega)) (f1 141 (by omega)) rfl rfl⟩
  have clr : ∀ Q' : mj_Q, Q' none (sh0 ++ e) (cp P0 r0 r1 r2 r3 rs kp) (mj_u (mj_u I 87 7 0) 87 8 (-1)) J → mj_ret mj_pr 399 n_Parser_clearFault [.ref 87] (0, 0) (sh0 ++ e) (cp P0 r0 r1 r2 r3 rs kp) I J Q' := by
    intro Q' hQ'
    refine mj_in2 1 t_Parser_clearFault rfl rfl (fun X cr C F => ?_)
    (repeat (first | (apply F; conv => whnf) | (refine ⟨rfl, ?_⟩) | (refine ⟨vpk (by decide) ?_, ?_⟩; rfl) | (refine ⟨by assumption, ?_⟩) | (refine ⟨by decide, ?_⟩) | (refine ⟨fun h => absurd h (by decide), fun _ => ?_⟩) | (refine ⟨fun _ => ?_, fun h => absurd (by decide) h⟩) | (refine ⟨fun h => absurd (by decide) h, fun _ => ?_⟩) | (refine ⟨fun _ => ?_, fun h => absurd h (by decide)⟩) | (refine ⟨⟨Nat.le_of_ble_eq_true rfl, Nat.le_of_ble_eq_true rfl⟩, ?_⟩) | (simp (disch := omega) only [nI_clamp, clL, nI_1, nI_add, pk_mul, ni_aL, ni_aR, ni_mL, ni_mR, ni_sR, ni_sb, ni_m1, ni_dv, mj_u_eq, mj_u_ne1, mj_u_ne2]; try (conv => whnf)) | (refine ⟨vpq _ rfl (by omega) (by omega), ?_⟩) | (refine ⟨fun h => absurd h (by (simp (disch := omega) only [nI_1, nI_add, nI_leI, nI_ltI, nI_eq, ni_ltR, ni_ltL, ni_leR, ni_leL, ni_eqR, ni_eqL, ni_nm, ni_nm2, not_false_eq_true]; first | done | omega)), fun _ => ?_⟩) | (refine ⟨fun _ => ?_, fun h => absurd (by (simp (disch := omega) only [nI_1, nI_add, nI_leI, nI_ltI, nI_eq, ni_ltR, ni_ltL, ni_leR, ni_leL, ni_eqR, ni_eqL, ni_nm, ni_nm2, not_false_eq_true]; first | done | omega)) h⟩) | (refine ⟨fun h => absurd (by (simp (disch := omega) only [nI_1, nI_add, nI_leI, nI_ltI, nI_eq, ni_ltR, ni_ltL, ni_leR, ni_leL, ni_eqR, ni_eqL, ni_nm, ni_nm2, not_false_eq_true]; first | done | omega)) h, fun _ => ?_⟩) | (refine ⟨fun _ => ?_, fun h => absurd h (by (simp (disch := omega) only [nI_1, nI_add, nI_leI, nI_ltI, nI_eq, ni_ltR, ni_ltL, ni_leR, ni_leL, ni_eqR, ni_eqL, ni_nm, ni_nm2, not_false_eq_true]; first | done | omega))⟩) | fail))
    exact hQ'
  refine mj_in2 3 t_LS_text rfl rfl (fun X cr C F => ?_)
  (repeat (first | (apply F; conv => whnf) | (refine ⟨rfl, ?_⟩) | (refine ⟨vpk (by decide) ?_, ?_⟩; rfl) | (refine ⟨by assumption, ?_⟩) | (refine ⟨by decide, ?_⟩) | (refine ⟨fun h => absurd h (by decide), fun _ => ?_⟩) | (refine ⟨fun _ => ?_, fun h => absurd (by decide) h⟩) | (refine ⟨fun h => absurd (by decide) h, fun _ => ?_⟩) | (refine ⟨fun _ => ?_, fun h => absurd h (by decide)⟩) | (refine ⟨⟨Nat.le_of_ble_eq_true rfl, Nat.le_of_ble_eq_true rfl⟩, ?_⟩) | (simp (disch := omega) only [nI_clamp, clL, nI_1, nI_add, pk_mul, ni_aL, ni_aR, ni_mL, ni_mR, ni_sR, ni_sb, ni_m1, ni_dv, mj_u_eq, mj_u_ne1, mj_u_ne2]; try (conv => whnf)) | (refine ⟨vpq _ rfl (by omega) (by omega), ?_⟩) | (refine ⟨fun h => absurd h (by (simp (disch := omega) only [nI_1, nI_add, nI_leI, nI_ltI, nI_eq, ni_ltR, ni_ltL, ni_leR, ni_leL, ni_eqR, ni_eqL, ni_nm, ni_nm2, not_false_eq_true]; first | done | omega)), fun _ => ?_⟩) | (refine ⟨fun _ => ?_, fun h => absurd (by (simp (disch := omega) only [nI_1, nI_add, nI_leI, nI_ltI, nI_eq, ni_ltR, ni_ltL, ni_leR, ni_leL, ni_eqR, ni_eqL, ni_nm, ni_nm2, not_false_eq_true]; first | done | omega)) h⟩) | (refine ⟨fun h => absurd (by (simp (disch := omega) only [nI_1, nI_add, nI_leI, nI_ltI, nI_eq, ni_ltR, ni_ltL, ni_leR, ni_leL, ni_eqR, ni_eqL, ni_nm, ni_nm2, not_false_eq_true]; first | done | omega)) h, fun _ => ?_⟩) | (refine ⟨fun _ => ?_, fun h => absurd h (by (simp (disch := omega) only [nI_1, nI_add, nI_leI, nI_ltI, nI_eq, ni_ltR, ni_ltL, ni_leR, ni_leL, ni_eqR, ni_eqL, ni_nm, ni_nm2, not_false_eq_true]; first | done | omega))⟩) | fail))
  refine C (clr _ ?_)
  clear clr
  generalize hI1 : mj_u (mj_u I 87 7 0) 87 8 (-1) = I1
  have g1 : ∀ b, b ≠ 87 → I1 b = I b := fun b hb => by rw [← hI1, mj_u_row _ _ _ _ hb, mj_u_row _ _ _ _ hb]
  have g7 : I1 87 7 = 0 := by rw [← hI1]; rfl
  have g8 : I1 87 8 = -1 := by rw [← hI1]; rfl
  clear hI1
  (repeat (first | (apply F; conv => whnf) | (refine ⟨rfl, ?_⟩) | (refine ⟨vpk (by decide) ?_, ?_⟩; rfl) | (refine ⟨by assumption, ?_⟩) | (refine ⟨by decide, ?_⟩) | (refine ⟨fun h => absurd h (by decide), fun _ => ?_⟩) | (refine ⟨fun _ => ?_, fun h => absurd (by decide) h⟩) | (refine ⟨fun h => absurd (by decide) h, fun _ => ?_⟩) | (refine ⟨fun _ => ?_, fun h => absurd h (by decide)⟩) | (refine ⟨⟨Nat.le_of_ble_eq_true rfl, Nat.le_of_ble_eq_true rfl⟩, ?_⟩) | (simp (disch := omega) only [nI_clamp, clL, nI_1, nI_add, pk_mul, ni_aL, ni_aR, ni_mL, ni_mR, ni_sR, ni_sb, ni_m1, ni_dv, mj_u_eq, mj_u_ne1, mj_u_ne2]; try (conv => whnf)) | (refine ⟨vpq _ rfl (by omega) (by omega), ?_⟩) | (refine ⟨fun h => absurd h (by (simp (disch := omega) only [nI_1, nI_add, nI_leI, nI_ltI, nI_eq, ni_ltR, ni_ltL, ni_leR, ni_leL, ni_eqR, ni_eqL, ni_nm, ni_nm2, not_false_eq_true]; first | done | omega)), fun _ => ?_⟩) | (refine ⟨fun _ => ?_, fun h => absurd (by (simp (disch := omega) only [nI_1, nI_add, nI_leI, nI_ltI, nI_eq, ni_ltR, ni_ltL, ni_leR, ni_leL, ni_eqR, ni_eqL, ni_nm, ni_nm2, not_false_eq_true]; first | done | omega)) h⟩) | (refine ⟨fun h => absurd (by (simp (disch := omega) only [nI_1, nI_add, nI_leI, nI_ltI, nI_eq, ni_ltR, ni_ltL, ni_leR, ni_leL, ni_eqR, ni_eqL, ni_nm, ni_nm2, not_false_eq_true]; first | done | omega)) h, fun _ => ?_⟩) | (refine ⟨fun _ => ?_, fun h => absurd h (by (simp (disch := omega) only [nI_1, nI_add, nI_leI, nI_ltI, nI_eq, ni_ltR, ni_ltL, ni_leR, ni_leL, ni_eqR, ni_eqL, ni_nm, ni_nm2, not_false_eq_true]; first | done | omega))⟩) | (refine C (vLS_isKind ?_)) | (refine ⟨nb_bz, ?_⟩) | (refine ⟨fun _ => ?_, fun h => absurd (by assumption) h⟩) | (refine ⟨fun h => absurd h (by assumption), fun _ => ?_⟩) | (refine ⟨fun h => absurd (by assumption) h, fun _ => ?_⟩) | (refine ⟨fun _ => ?_, fun h => absurd h (by assumption)⟩) | fail))
  by_cases z : rg a 3
  · obtain ⟨k, hk, rfl⟩ := rg_ex (by omega) z
    have hk4 : k < 4 := by omega
    rw [bz_1 z]
    (repeat (first | (apply F; conv => whnf) | (refine ⟨rfl, ?_⟩) | (refine ⟨vpk (by decide) ?_, ?_⟩; rfl) | (refine ⟨by assumption, ?_⟩) | (refine ⟨by decide, ?_⟩) | (refine ⟨fun h => absurd h (by decide), fun _ => ?_⟩) | (refine ⟨fun _ => ?_, fun h => absurd (by decide) h⟩) | (refine ⟨fun h => absurd (by decide) h, fun _ => ?_⟩) | (refine ⟨fun _ => ?_, fun h => absurd h (by decide)⟩) | (refine ⟨⟨Nat.le_of_ble_eq_true rfl, Nat.le_of_ble_eq_true rfl⟩, ?_⟩) | (simp (disch := omega) only [nI_clamp, clL, nI_1, nI_add, pk_mul, ni_aL, ni_aR, ni_mL, ni_mR, ni_sR, ni_sb, ni_m1, ni_dv, mj_u_eq, mj_u_ne1, mj_u_ne2]; try (conv => whnf)) | (refine ⟨vpq _ rfl (by omega) (by omega), ?_⟩) | (refine ⟨fun h => absurd h (by (simp (disch := omega) only [nI_1, nI_add, nI_leI, nI_ltI, nI_eq, ni_ltR, ni_ltL, ni_leR, ni_leL, ni_eqR, ni_eqL, ni_nm, ni_nm2, not_false_eq_true]; first | done | omega)), fun _ => ?_⟩) | (refine ⟨fun _ => ?_, fun h => absurd (by (simp (disch := omega) only [nI_1, nI_add, nI_leI, nI_ltI, nI_eq, ni_ltR, ni_ltL, ni_leR, ni_leL, ni_eqR, ni_eqL, ni_nm, ni_nm2, not_false_eq_true]; first | done | omega)) h⟩) | (refine ⟨fun h => absurd (by (simp (disch := omega) only [nI_1, nI_add, nI_leI, nI_ltI, nI_eq, ni_ltR, ni_ltL, ni_leR, ni_leL, ni_eqR, ni_eqL, ni_nm, ni_nm2, not_false_eq_true]; first | done | omega)) h, fun _ => ?_⟩) | (refine ⟨fun _ => ?_, fun h => absurd h (by (simp (disch := omega) only [nI_1, nI_add, nI_leI, nI_ltI, nI_eq, ni_ltR, ni_ltL, ni_leR, ni_leL, ni_eqR, ni_eqL, ni_nm, ni_nm2, not_false_eq_true]; first | done | omega))⟩) | fail))
    refine C (Pa_read (d := 389) (n := 3 * (TS tp 0).length + 3) a10 hrs (TC_cp a11 (g1 85 (by decide)) (g1 86 (by decide))) (Nat.le_refl _) ?_)
    have hW := fun us => pRls_W (z := tp.length) (n := 3 * (TS tp 0).length + 3) (tp.length + 1) 0 (TS tp 0) [] us rfl (tkOk_TS a10.2 _ _ (Nat.zero_le _)) (Nat.le_refl _) ⟨by decide, fun u hu => by cases hu⟩
    have ref : ∀ (P1 : mj_P) (s0 s1 s2 s3 ss : Nat) (I2 : mj_I) (Q2 : mj_Q), I2 139 = I 139 → I2 146 = I 146 → TQ e P0 s0 s1 s2 s3 ss kp J k I2 (pRls tp.length (3 * (TS tp 0).length + 3) (tp.length + 1) 0 (TS tp 0)) Q2 → mj_ret mj_pr 400 n_Mo_text [.ref 139, .int (nI k)] (0, 0) (sh0 ++ e) (cp P0 s0 s1 s2 s3 ss kp) I2 J Q2 := by
      intro P1 s0 s1 s2 s3 ss I2 Q2 q1 q2 hT
      exact Mo_text_y (d := 360) a10 hk4 (TM_cp a12 (by rw [q1]) q2) (Nat.le_refl _) (fun us hu => hW us hu) hT
    cases er : pRls tp.length (3 * (TS tp 0).length + 3) (tp.length + 1) 0 (TS tp 0) with
    | error er9 =>
      rw [er] at ref
      intro I2 u1 u2 u3
      (repeat (first | (apply F; conv => whnf) | (refine ⟨rfl, ?_⟩) | (refine ⟨vpk (by decide) ?_, ?_⟩; rfl) | (refine ⟨by assumption, ?_⟩) | (refine ⟨by decide, ?_⟩) | (refine ⟨fun h => absurd h (by decide), fun _ => ?_⟩) | (refine ⟨fun _ => ?_, fun h => absurd (by decide) h⟩) | (refine ⟨fun h => absurd (by decide) h, fun _ => ?_⟩) | (refine ⟨fun _ => ?_, fun h => absurd h (by decide)⟩) | (refine ⟨⟨Nat.le_of_ble_eq_true rfl, Nat.le_of_ble_eq_true rfl⟩, ?_⟩) | (simp (disch := omega) only [nI_clamp, clL, nI_1, nI_add, pk_mul, ni_aL, ni_aR, ni_mL, ni_mR, ni_sR, ni_sb, ni_m1, ni_dv, mj_u_eq, mj_u_ne1, mj_u_ne2]; try (conv => whnf)) | (refine ⟨vpq _ rfl (by omega) (by omega), ?_⟩) | (refine ⟨fun h => absurd h (by (simp (disch := omega) only [nI_1, nI_add, nI_leI, nI_ltI, nI_eq, ni_ltR, ni_ltL, ni_leR, ni_leL, ni_eqR, ni_eqL, ni_nm, ni_nm2, not_false_eq_true]; first | done | omega)), fun _ => ?_⟩) | (refine ⟨fun _ => ?_, fun h => absurd (by (simp (disch := omega) only [nI_1, nI_add, nI_leI, nI_ltI, nI_eq, ni_ltR, ni_ltL, ni_leR, ni_leL, ni_eqR, ni_eqL, ni_nm, ni_nm2, not_false_eq_true]; first | done | omega)) h⟩) | (refine ⟨fun h => absurd (by (simp (disch := omega) only [nI_1, nI_add, nI_leI, nI_ltI, nI_eq, ni_ltR, ni_ltL, ni_leR, ni_leL, ni_eqR, ni_eqL, ni_nm, ni_nm2, not_false_eq_true]; first | done | omega)) h, fun _ => ?_⟩) | (refine ⟨fun _ => ?_, fun h => absurd h (by (simp (disch := omega) only [nI_1, nI_add, nI_leI, nI_ltI, nI_eq, ni_ltR, ni_ltL, ni_leR, ni_leL, ni_eqR, ni_eqL, ni_nm, ni_nm2, not_false_eq_true]; first | done | omega))⟩) | fail))
      refine hQ _ _ _ _ _ (fun Q2 k => ?_)
      refine ref P0 r0 r1 r2 r3 rs _ Q2 ?_ ?_ (fun I3 v1 v2 v3 v4 v5 => k _ _ _ _ (keepN I3 (nI er9.1) (nI er9.2) (fun b hb => ?_) (fun j hj => ?_) ?_ v3 ?_ ?_ v4 v5))
      · rw [mj_u_row _ _ _ _ (by decide), u1.1 139 (by omega), g1 139 (by decide)]
      · rw [mj_u_row _ _ _ _ (by decide), u1.1 146 (by omega), g1 146 (by decide)]
      · rw [v1 b (by omega), mj_u_row _ _ _ _ (by omega), u1.1 b (by omega), g1 b (by omega)]
      · rw [v2 j hj, mj_u_row _ _ _ _ (by decide), u1.1 139 (by omega), g1 139 (by decide)]
      · rw [v1 85 (by decide), mj_u_eq]
      · rw [v1 87 (by decide), mj_u_row _ _ _ _ (by decide)]; exact u2
      · rw [v1 87 (by decide), mj_u_row _ _ _ _ (by decide)]; exact u3
    | ok us =>
      rw [er] at ref
      have hWu := hW us er
      have hWu : ruW us := hWu
      have hu16 := hWu.1
      intro I2 b1 u1 u2 u3 u4 u5 u6
      have u2 : SpC I2 rs us b1 := u2
      have hp3 := cp_3 (P := P0) (r0 := r0) (r1 := r1) (r2 := r2) (r3 := r3) (rs := rs) (kp := kp) hk4
      have exc : ∀ (I9 : mj_I) (Q' : mj_Q), Q' (some (.ref rs)) (sh0 ++ e) (mj_u (cp P0 r0 r1 r2 r3 rs kp) 87 6 (some (ra r0 r1 r2 r3 k))) I9 J → mj_ret mj_pr 399 n_Parser_exchange [.ref 87, .ref (ra r0 r1 r2 r3 k)] (0, 0) (sh0 ++ e) (cp P0 r0 r1 r2 r3 rs kp) I9 J Q' := by
        intro I9 Q' hQ'
        refine mj_in2 3 t_Parser_exchange rfl rfl (fun X cr C F => ?_)
        (repeat (first | (apply F; conv => whnf) | (refine ⟨rfl, ?_⟩) | (refine ⟨vpk (by decide) ?_, ?_⟩; rfl) | (refine ⟨by assumption, ?_⟩) | (refine ⟨by decide, ?_⟩) | (refine ⟨fun h => absurd h (by decide), fun _ => ?_⟩) | (refine ⟨fun _ => ?_, fun h => absurd (by decide) h⟩) | (refine ⟨fun h => absurd (by decide) h, fun _ => ?_⟩) | (refine ⟨fun _ => ?_, fun h => absurd h (by decide)⟩) | (refine ⟨⟨Nat.le_of_ble_eq_true rfl, Nat.le_of_ble_eq_true rfl⟩, ?_⟩) | (simp (disch := omega) only [nI_clamp, clL, nI_1, nI_add, pk_mul, ni_aL, ni_aR, ni_mL, ni_mR, ni_sR, ni_sb, ni_m1, ni_dv, mj_u_eq, mj_u_ne1, mj_u_ne2]; try (conv => whnf)) | (refine ⟨vpq _ rfl (by omega) (by omega), ?_⟩) | (refine ⟨fun h => absurd h (by (simp (disch := omega) only [nI_1, nI_add, nI_leI, nI_ltI, nI_eq, ni_ltR, ni_ltL, ni_leR, ni_leL, ni_eqR, ni_eqL, ni_nm, ni_nm2, not_false_eq_true]; first | done | omega)), fun _ => ?_⟩) | (refine ⟨fun _ => ?_, fun h => absurd (by (simp (disch := omega) only [nI_1, nI_add, nI_leI, nI_ltI, nI_eq, ni_ltR, ni_ltL, ni_leR, ni_leL, ni_eqR, ni_eqL, ni_nm, ni_nm2, not_false_eq_true]; first | done | omega)) h⟩) | (refine ⟨fun h => absurd (by (simp (disch := omega) only [nI_1, nI_add, nI_leI, nI_ltI, nI_eq, ni_ltR, ni_ltL, ni_leR, ni_leL, ni_eqR, ni_eqL, ni_nm, ni_nm2, not_false_eq_true]; first | done | omega)) h, fun _ => ?_⟩) | (refine ⟨fun _ => ?_, fun h => absurd h (by (simp (disch := omega) only [nI_1, nI_add, nI_leI, nI_ltI, nI_eq, ni_ltR, ni_ltL, ni_leR, ni_leL, ni_eqR, ni_eqL, ni_nm, ni_nm2, not_false_eq_true]; first | done | omega))⟩) | fail))
        exact hQ'
      (repeat (first | (apply F; conv => whnf) | (refine ⟨rfl, ?_⟩) | (refine ⟨vpk (by decide) ?_, ?_⟩; rfl) | (refine ⟨by assumption, ?_⟩) | (refine ⟨by decide, ?_⟩) | (refine ⟨fun h => absurd h (by decide), fun _ => ?_⟩) | (refine ⟨fun _ => ?_, fun h => absurd (by decide) h⟩) | (refine ⟨fun h => absurd (by decide) h, fun _ => ?_⟩) | (refine ⟨fun _ => ?_, fun h => absurd h (by decide)⟩) | (refine ⟨⟨Nat.le_of_ble_eq_true rfl, Nat.le_of_ble_eq_true rfl⟩, ?_⟩) | (simp (disch := omega) only [nI_clamp, clL, nI_1, nI_add, pk_mul, ni_aL, ni_aR, ni_mL, ni_mR, ni_sR, ni_sb, ni_m1, ni_dv, mj_u_eq, mj_u_ne1, mj_u_ne2, ln_3, hp3]; try (conv => whnf)) | (refine ⟨vpq _ rfl (by omega) (by omega), ?_⟩) | (refine ⟨fun h => absurd h (by (simp (disch := omega) only [nI_1, nI_add, nI_leI, nI_ltI, nI_eq, ni_ltR, ni_ltL, ni_leR, ni_leL, ni_eqR, ni_eqL, ni_nm, ni_nm2, not_false_eq_true]; first | done | omega)), fun _ => ?_⟩) | (refine ⟨fun _ => ?_, fun h => absurd (by (simp (disch := omega) only [nI_1, nI_add, nI_leI, nI_ltI, nI_eq, ni_ltR, ni_ltL, ni_leR, ni_leL, ni_eqR, ni_eqL, ni_nm, ni_nm2, not_false_eq_true]; first | done | omega)) h⟩) | (refine ⟨fun h => absurd (by (simp (disch := omega) only [nI_1, nI_add, nI_leI, nI_ltI, nI_eq, ni_ltR, ni_ltL, ni_leR, ni_leL, ni_eqR, ni_eqL, ni_nm, ni_nm2, not_false_eq_true]; first | done | omega)) h, fun _ => ?_⟩) | (refine ⟨fun _ => ?_, fun h => absurd h (by (simp (disch := omega) only [nI_1, nI_add, nI_leI, nI_ltI, nI_eq, ni_ltR, ni_ltL, ni_leR, ni_leL, ni_eqR, ni_eqL, ni_nm, ni_nm2, not_false_eq_true]; first | done | omega))⟩) | fail))
      refine C (exc _ _ ?_)
      clear exc
      (repeat (first | (apply F; conv => whnf) | (refine ⟨rfl, ?_⟩) | (refine ⟨vpk (by decide) ?_, ?_⟩; rfl) | (refine ⟨by assumption, ?_⟩) | (refine ⟨by decide, ?_⟩) | (refine ⟨fun h => absurd h (by decide), fun _ => ?_⟩) | (refine ⟨fun _ => ?_, fun h => absurd (by decide) h⟩) | (refine ⟨fun h => absurd (by decide) h, fun _ => ?_⟩) | (refine ⟨fun _ => ?_, fun h => absurd h (by decide)⟩) | (refine ⟨⟨Nat.le_of_ble_eq_true rfl, Nat.le_of_ble_eq_true rfl⟩, ?_⟩) | (simp (disch := omega) only [nI_clamp, clL, nI_1, nI_add, pk_mul, ni_aL, ni_aR, ni_mL, ni_mR, ni_sR, ni_sb, ni_m1, ni_dv, mj_u_eq, mj_u_ne1, mj_u_ne2, ln_3]; try (conv => whnf)) | (refine ⟨vpq _ rfl (by omega) (by omega), ?_⟩) | (refine ⟨fun h => absurd h (by (simp (disch := omega) only [nI_1, nI_add, nI_leI, nI_ltI, nI_eq, ni_ltR, ni_ltL, ni_leR, ni_leL, ni_eqR, ni_eqL, ni_nm, ni_nm2, not_false_eq_true]; first | done | omega)), fun _ => ?_⟩) | (refine ⟨fun _ => ?_, fun h => absurd (by (simp (disch := omega) only [nI_1, nI_add, nI_leI, nI_ltI, nI_eq, ni_ltR, ni_ltL, ni_leR, ni_leL, ni_eqR, ni_eqL, ni_nm, ni_nm2, not_false_eq_true]; first | done | omega)) h⟩) | (refine ⟨fun h => absurd (by (simp (disch := omega) only [nI_1, nI_add, nI_leI, nI_ltI, nI_eq, ni_ltR, ni_ltL, ni_leR, ni_leL, ni_eqR, ni_eqL, ni_nm, ni_nm2, not_false_eq_true]; first | done | omega)) h, fun _ => ?_⟩) | (refine ⟨fun _ => ?_, fun h => absurd h (by (simp (disch := omega) only [nI_1, nI_add, nI_leI, nI_ltI, nI_eq, ni_ltR, ni_ltL, ni_leR, ni_leL, ni_eqR, ni_eqL, ni_nm, ni_nm2, not_false_eq_true]; first | done | omega))⟩) | fail))
      refine ⟨⟨⟨show 15 ≤ 17 by decide, show 17 < 18 by decide⟩, k0⟩, vp_in_nI hk4 (by decide), ?_⟩
      rw [cp_swap hk4]
      have hp4 : cp P0 (sw k rs r0 r1 r2 r3 0) (sw k rs r0 r1 r2 r3 1) (sw k rs r0 r1 r2 r3 2) (sw k rs r0 r1 r2 r3 3) (ra r0 r1 r2 r3 k) kp 3 k = some rs := by
        rw [cp_3 hk4, sw_ra hk4]
        unfold sw
        rw [if_pos rfl]
      have h26 : mj_u I2 85 1 0 rs 6 = nI us.length := by rw [mj_u_row _ _ _ _ (by omega)]; exact u2.1
      have u26 := u2.1
      (repeat (first | (apply F; conv => whnf) | (refine ⟨rfl, ?_⟩) | (refine ⟨vpk (by decide) ?_, ?_⟩; rfl) | (refine ⟨by assumption, ?_⟩) | (refine ⟨by decide, ?_⟩) | (refine ⟨fun h => absurd h (by decide), fun _ => ?_⟩) | (refine ⟨fun _ => ?_, fun h => absurd (by decide) h⟩) | (refine ⟨fun h => absurd (by decide) h, fun _ => ?_⟩) | (refine ⟨fun _ => ?_, fun h => absurd h (by decide)⟩) | (refine ⟨⟨Nat.le_of_ble_eq_true rfl, Nat.le_of_ble_eq_true rfl⟩, ?_⟩) | (simp (disch := omega) only [nI_clamp, clL, nI_1, nI_add, pk_mul, ni_aL, ni_aR, ni_mL, ni_mR, ni_sR, ni_sb, ni_m1, ni_dv, mj_u_eq, mj_u_ne1, mj_u_ne2, ln_3, hp4, h26, u26]; try (conv => whnf)) | (refine ⟨vpq _ rfl (by omega) (by omega), ?_⟩) | (refine ⟨fun h => absurd h (by (simp (disch := omega) only [nI_1, nI_add, nI_leI, nI_ltI, nI_eq, ni_ltR, ni_ltL, ni_leR, ni_leL, ni_eqR, ni_eqL, ni_nm, ni_nm2, not_false_eq_true]; first | done | omega)), fun _ => ?_⟩) | (refine ⟨fun _ => ?_, fun h => absurd (by (simp (disch := omega) only [nI_1, nI_add, nI_leI, nI_ltI, nI_eq, ni_ltR, ni_ltL, ni_leR, ni_leL, ni_eqR, ni_eqL, ni_nm, ni_nm2, not_false_eq_true]; first | done | omega)) h⟩) | (refine ⟨fun h => absurd (by (simp (disch := omega) only [nI_1, nI_add, nI_leI, nI_ltI, nI_eq, ni_ltR, ni_ltL, ni_leR, ni_leL, ni_eqR, ni_eqL, ni_nm, ni_nm2, not_false_eq_true]; first | done | omega)) h, fun _ => ?_⟩) | (refine ⟨fun _ => ?_, fun h => absurd h (by (simp (disch := omega) only [nI_1, nI_add, nI_leI, nI_ltI, nI_eq, ni_ltR, ni_ltL, ni_leR, ni_leL, ni_eqR, ni_eqL, ni_nm, ni_nm2, not_false_eq_true]; first | done | omega))⟩) | fail))
      refine hQ _ _ _ _ _ (fun Q2 kk => ?_)
      have e139 : mj_u I2 85 1 0 139 = I 139 := by rw [mj_u_row _ _ _ _ (by decide), u1.1 139 (by omega), g1 139 (by decide)]
      have e140 : mj_u I2 85 1 0 140 = I 140 := by rw [mj_u_row _ _ _ _ (by decide), u1.1 140 (by omega), g1 140 (by decide)]
      refine ref P0 (sw k rs r0 r1 r2 r3 0) (sw k rs r0 r1 r2 r3 1) (sw k rs r0 r1 r2 r3 2) (sw k rs r0 r1 r2 r3 3) (ra r0 r1 r2 r3 k) _ Q2 e139 (by rw [mj_u_row _ _ _ _ (by decide), u1.1 146 (by omega), g1 146 (by decide)]) (fun I3 v1 v2 v3 v4 v5 v6 v7 v8 => kk _ _ _ _ ?_)
      have f1 : ∀ b, b ≠ 85 ∧ b ≠ 87 ∧ b ≠ 88 ∧ (b < rs ∨ rs + 6 < b) ∧ b ≠ 139 ∧ b ≠ 140 ∧ b ≠ 144 ∧ b ≠ 145 → I3 b = I b := fun b hb => by rw [v1 b (by omega), mj_u_row _ _ _ _ (by omega), u1.1 b (by omega), g1 b (by omega)]
      have f3 : ∀ j, j < 1670 → I3 140 j = I 140 j := fun j hj => by rw [v7 j hj, e140]
      have f4 : ∀ j, j < 13 ∨ 24 < j → I3 139 j = I 139 j := fun j hj => by rw [v2 j hj, e139]
      refine ⟨e, P0, sw k rs r0 r1 r2 r3 0, sw k rs r0 r1 r2 r3 1, sw k rs r0 r1 r2 r3 2, sw k rs r0 r1 r2 r3 3, ra r0 r1 r2 r3 k, kp, ps, [], 0, -1, dy, ln, sn, dr, pl, sl, cl, lf, bk, lk, (fun j => if j = k then us else rl j), cz, rfl, rfl, sw_RD hk4 a3, ⟨w1, w2, w3, w4, w5, w6, w7, w8, w9, w10, fun j hj => ?_⟩, ⟨?_, ?_, ?_, ?_, ?_, ?_, ?_, ?_, ?_, ?_, ?_, ?_⟩, ⟨?_, ?_, ?_, ?_, ?_, ?_, ?_, ?_, ?_, ?_, ?_, ?_⟩, a7, PC_congr a8 (fun b b1 b2 => f1 b (by omega)) rfl, PM_congr a9 (f4 4 (by omega)) (f1 142 (by omega)) rfl, ⟨by decide, fun x hx => by cases hx⟩, ⟨?_, fun j hj => absurd hj (Nat.not_lt_zero j)⟩, ⟨v3, fun j hj => absurd hj (Nat.not_lt_zero j)⟩, ⟨?_, ?_, v4, v5⟩, IM_congr a17 (f4 7 (by omega)) (fun b b1 => f1 b (by omega)) (f1 141 (by omega)) rfl rfl⟩
      · show ruW (if j = k then us else rl j)
        by_cases w : j = k
        · rw [if_pos w]; exact hWu
        · rw [if_neg w]; exact w11 j hj
      · rw [f1 1 (by omega)]; exact c1
      · rw [f1 1 (by omega)]; exact c2
      · rw [f1 1 (by omega)]; exact c3
      · rw [f1 1 (by omega)]; exact c4
      · exact mg_congr c5 (f1 _ (by omega)) (f1 _ (by omega))
      · exact mg_congr c6 (f1 _ (by omega)) (f1 _ (by omega))
      · exact mg_congr c7 (f1 _ (by omega)) (f1 _ (by omega))
      · exact fun l hl k hk => by rw [f1 _ (by omega)]; exact c8 l hl k hk
      · exact bkC_cp c9 (by rw [f1 1 (by omega)]) (f1 _ (by omega)) (f1 _ (by omega))
      · exact lkC_cp c10 (by rw [f1 1 (by omega)]) (fun b b1 b2 => f1 _ (by omega))
      · intro j hj
        show ruC I3 _ (if j = k then us else rl j)
        rw [sw_ra hj]
        unfold sw
        by_cases w : j = k
        · rw [if_pos w, if_pos w]
          exact ruC_of (SpC_cp u2 (fun b b1 b2 => by rw [v1 b (by omega), mj_u_row _ _ _ _ (by omega)])) u3
        · rw [if_neg w, if_neg w]
          have hj1 := RD_ra a3 hj
          have hj2 := rs_apart a3 hj
          exact ruC_congr (c11 j hj) (fun b b1 b2 => f1 b (by omega))
      · exact c12
      · rw [f3 _ (by omega)]; exact m1
      · rw [f3 _ (by omega)]; exact m2
      · rw [f3 _ (by omega)]; exact m3
      · rw [f3 _ (by omega)]; exact m4
      · exact msM_cp m5 w3.1 (fun k hk => f3 k (by omega))
      · exact msM_cp m6 w4.1 (fun k hk => f3 k (by omega))
      · exact msM_cp m7 w5.1 (fun k hk => f3 k (by omega))
      · exact fun l hl k hk => by rw [f3 _ (by omega)]; exact m8 l hl k hk
      · exact bkM_cp m9 (fun k hk => f3 k (by omega))
      · exact lkM_cp m10 w9 w10 (fun k hk => f3 k (by omega))
      · intro j hj
        show ruM I3 140 j (if j = k then us else rl j)
        by_cases w : j = k
        · rw [if_pos w, w]; exact v6
        · rw [if_neg w]
          exact v8 j hj w (rl j) (w11 j hj).1 (ruM_congr (m11 j hj) e140)
      · exact m12
      · rw [v1 85 (by decide), mj_u_eq]; rfl
      · rw [v1 87 (by decide), mj_u_row _ _ _ _ (by decide), u5]; exact g7
      · rw [v1 87 (by decide), mj_u_row _ _ _ _ (by decide), u6]; exact g8
  · rw [bz_0 z]
    (repeat (first | (apply F; conv => whnf) | (refine ⟨rfl, ?_⟩) | (refine ⟨vpk (by decide) ?_, ?_⟩; rfl) | (refine ⟨by assumption, ?_⟩) | (refine ⟨by decide, ?_⟩) | (refine ⟨fun h => absurd h (by decide), fun _ => ?_⟩) | (refine ⟨fun _ => ?_, fun h => absurd (by decide) h⟩) | (refine ⟨fun h => absurd (by decide) h, fun _ => ?_⟩) | (refine ⟨fun _ => ?_, fun h => absurd h (by decide)⟩) | (refine ⟨⟨Nat.le_of_ble_eq_true rfl, Nat.le_of_ble_eq_true rfl⟩, ?_⟩) | (simp (disch := omega) only [nI_clamp, clL, nI_1, nI_add, pk_mul, ni_aL, ni_aR, ni_mL, ni_mR, ni_sR, ni_sb, ni_m1, ni_dv, mj_u_eq, mj_u_ne1, mj_u_ne2]; try (conv => whnf)) | (refine ⟨vpq _ rfl (by omega) (by omega), ?_⟩) | (refine ⟨fun h => absurd h (by (simp (disch := omega) only [nI_1, nI_add, nI_leI, nI_ltI, nI_eq, ni_ltR, ni_ltL, ni_leR, ni_leL, ni_eqR, ni_eqL, ni_nm, ni_nm2, not_false_eq_true]; first | done | omega)), fun _ => ?_⟩) | (refine ⟨fun _ => ?_, fun h => absurd (by (simp (disch := omega) only [nI_1, nI_add, nI_leI, nI_ltI, nI_eq, ni_ltR, ni_ltL, ni_leR, ni_leL, ni_eqR, ni_eqL, ni_nm, ni_nm2, not_false_eq_true]; first | done | omega)) h⟩) | (refine ⟨fun h => absurd (by (simp (disch := omega) only [nI_1, nI_add, nI_leI, nI_ltI, nI_eq, ni_ltR, ni_ltL, ni_leR, ni_leL, ni_eqR, ni_eqL, ni_nm, ni_nm2, not_false_eq_true]; first | done | omega)) h, fun _ => ?_⟩) | (refine ⟨fun _ => ?_, fun h => absurd h (by (simp (disch := omega) only [nI_1, nI_add, nI_leI, nI_ltI, nI_eq, ni_ltR, ni_ltL, ni_leR, ni_leL, ni_eqR, ni_eqL, ni_nm, ni_nm2, not_false_eq_true]; first | done | omega))⟩) | fail))
    refine hQ _ _ _ _ _ (fun Q2 k => ?_)
    refine Mo_text_n (d := 360) z (fun I3 v1 v2 v3 v4 v5 => k _ _ _ _ (keepN I3 0 (-1) (fun b hb => ?_) (fun j hj => ?_) ?_ v3 ?_ ?_ v4 v5))
    · rw [v1 b (by omega), mj_u_row _ _ _ _ (by omega), g1 b (by omega)]
    · rw [v2 j hj, mj_u_row _ _ _ _ (by decide), g1 139 (by decide)]
    · rw [v1 85 (by decide), mj_u_eq]
    · rw [v1 87 (by decide), mj_u_row _ _ _ _ (by decide)]; exact g7
    · rw [v1 87 (by decide), mj_u_row _ _ _ _ (by decide)]; exact g8
