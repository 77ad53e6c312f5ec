/-! the calls, one by one: the class's answer is the reference's, and what is held stays held -/
theorem Same_rfl (I : mj_I) : Same I I := ⟨fun _ _ => rfl, rfl, rfl, rfl, rfl, rfl, rfl, rfl, rfl⟩
theorem msM_cp {I I' : mj_I} {m n o N : Nat} {l : List Nat} (h : msM I m n o l) (hl : l.length ≤ N) (h1 : ∀ k, k = n ∨ (o ≤ k ∧ k < o + N) → I' m k = I m k) : msM I' m n o l :=
  ⟨by rw [h1 n (Or.inl rfl)]; exact h.1, fun j hj => by rw [h1 (o + j) (Or.inr (by omega))]; exact h.2 j hj⟩
theorem bkM_cp {I I' : mj_I} {m : Nat} {s : Bk} (h : bkM I m s) (h1 : ∀ k, k = 2 ∨ (77 ≤ k ∧ k < 286 ∧ 7 ≤ (k - 70) % 18) ∨ (290 ≤ k ∧ k < 1090) → I' m k = I m k) : bkM I' m s := by
  obtain ⟨b1, b2, b3, b4⟩ := h
  refine ⟨fun l hl x hx => ?_, by rw [h1 2 (Or.inl rfl)]; exact b2, b3, fun j hj => by rw [h1 _ (Or.inr (Or.inr (by omega)))]; exact b4 j hj⟩
  rw [h1 _ (Or.inr (Or.inl (by omega)))]
  exact b1 l hl x hx
theorem lkDm {lk : List Lk} {i : Nat} (h : i < lk.length) : lk.getD i lkZ ∈ lk := by
  rw [List.getD_eq_getElem?_getD, List.getElem?_eq_getElem h]
  exact List.getElem_mem _
theorem lkM_cp {I I' : mj_I} {m : Nat} {lk : List Lk} (h : lkM I m lk) (hl : lk.length ≤ 20) (hd : ∀ e ∈ lk, dg 12 e.2.1 ∧ dg 12 e.2.2 ∧ e.1 < 12) (h1 : ∀ k, k = 5 ∨ (1100 ≤ k ∧ k < 1660) → I' m k = I m k) : lkM I' m lk := by
  refine ⟨by rw [h1 5 (Or.inl rfl)]; exact h.1, fun i hi => ?_⟩
  obtain ⟨q1, q2, q3, q4, q5⟩ := h.2 i hi
  obtain ⟨⟨d1, -⟩, ⟨d2, -⟩, -⟩ := hd _ (lkDm hi)
  exact ⟨by rw [h1 _ (Or.inr (by omega))]; exact q1, by rw [h1 _ (Or.inr (by omega))]; exact q2, by rw [h1 _ (Or.inr (by omega))]; exact q3, fun j hj => by rw [h1 _ (Or.inr (by omega))]; exact q4 j hj, fun j hj => by rw [h1 _ (Or.inr (by omega))]; exact q5 j hj⟩
theorem ruM_cp {I I' : mj_I} {m k : Nat} {rl : List Ru} (h : ruM I m k rl) (h1 : ∀ j, 1670 ≤ j → I' m j = I m j) : ruM I' m k rl := by
  refine ⟨by rw [h1 _ (by omega)]; exact h.1, fun i hi => ?_⟩
  obtain ⟨q1, q2, q3, b0, q4, q5, q6, q7⟩ := h.2 i hi
  exact ⟨by rw [h1 _ (by omega)]; exact q1, by rw [h1 _ (by omega)]; exact q2, by rw [h1 _ (by omega)]; exact q3, b0, by rw [h1 _ (by omega)]; exact q4, by rw [h1 _ (by omega)]; exact q5, q6, fun j hj => ⟨by rw [h1 _ (by omega)]; exact (q7 j hj).1, fun z => by rw [h1 _ (by omega)]; exact (q7 j hj).2 z⟩⟩
/-- the rest of the class's cells, where the world's own row, the messages, the lines and the book are seen to apart -/
theorem lkC_cp {I I' : mj_I} {w : Nat} {lk : List Lk} (h : lkC I w lk) (h0 : I' w 12 = I w 12) (h1 : ∀ b, w + 11 ≤ b → b < w + 14 → I' b = I b) : lkC I' w lk := by
  unfold lkC
  rw [h0, h1 (w + 11) (by omega) (by omega), h1 (w + 12) (by omega) (by omega), h1 (w + 13) (by omega) (by omega)]
  exact h
theorem bkC_cp {I I' : mj_I} {w : Nat} {s : Bk} (h : bkC I w s) (h0 : I' w 11 = I w 11) (h1 : I' (w + 9) = I (w + 9)) (h2 : I' (w + 10) = I (w + 10)) : bkC I' w s := by
  unfold bkC
  rw [h0, h1, h2]
  exact h
theorem TC_cp {I I' : mj_I} {tp : List Nat} (h : TC I tp) (h0 : I' 85 = I 85) (h1 : I' 86 = I 86) : TC I' tp := by
  unfold TC
  rw [h0, h1]
  exact h
theorem TM_cp {I I' : mj_I} {tp : List Nat} (h : TM I tp) (h0 : I' 139 15 = I 139 15) (h1 : I' 146 = I 146) : TM I' tp := by
  unfold TM
  rw [h0, h1]
  exact h
theorem OP_creep {sh : mj_S} {P : mj_P} {I : mj_I} {J : mj_J} {Q : mj_Q}  (h : Inv sh P I J) (hQ : ∀ v (e1 : mj_S) P1 I1 J1, (∀ Q2 : mj_Q, (∀ sh2 P2 I2 J2, Inv sh2 P2 I2 J2 → Q2 (some (.long v)) sh2 P2 I2 J2) → mj_ret mj_pr 400 n_Mo_creep [.ref 139] (0, 0) (sh0 ++ e1) P1 I1 J1 Q2) → Q (some (.long v)) (sh0 ++ e1) P1 I1 J1) : mj_ret mj_pr 400 n_LS_creep [.ref 0] (0, 0) sh P I J Q := by
  obtain ⟨e, P0, r0, r1, r2, r3, rs, kp, ps, tp, fk, fp, dy, ln, sn, dr, pl, sl, cl, lf, bk, lk, rl, cz, a1, a2, a3, a4, a5, a6, a7, a8, a9, a10, a11, a12, ⟨a13, a14, a15, a16⟩, a17⟩ := id h
  subst a1 a2
  obtain ⟨w1, w2, w3, w4, w5, w6, w7, w8, w9, w10, w11⟩ := id a4
  obtain ⟨c1, c2, c3, c4, c5, c6, c7, c8, c9, c10, c11, c12⟩ := id a5
  obtain ⟨m1, m2, m3, m4, m5, m6, m7, m8, m9, m10, m11, m12⟩ := id a6
  refine mj_in2 1 t_LS_creep rfl rfl (fun X cr C F => ?_)
  (repeat (first | (apply F; conv => whnf) | (refine ⟨rfl, ?_⟩) | (refine ⟨vpk (by decide) ?_, ?_⟩; rfl) | (refine ⟨by assumption, ?_⟩) | (refine ⟨by decide, ?_⟩) | (refine ⟨fun h => absurd h (by decide), fun _ => ?_⟩) | (refine ⟨fun _ => ?_, fun h => absurd (by decide) h⟩) | (refine ⟨fun h => absurd (by decide) h, fun _ => ?_⟩) | (refine ⟨fun _ => ?_, fun h => absurd h (by decide)⟩) | (refine ⟨⟨Nat.le_of_ble_eq_true rfl, Nat.le_of_ble_eq_true rfl⟩, ?_⟩) | (simp (disch := omega) only [nI_clamp, clL, nI_1, nI_add, pk_mul, ni_aL, ni_aR, ni_mL, ni_mR, ni_sR, ni_sb, ni_m1, ni_dv, mj_u_eq, mj_u_ne1, mj_u_ne2]; try (conv => whnf)) | (refine ⟨vpq _ rfl (by omega) (by omega), ?_⟩) | (refine ⟨fun h => absurd h (by (simp (disch := omega) only [nI_1, nI_add, nI_leI, nI_ltI, nI_eq, ni_ltR, ni_ltL, ni_leR, ni_leL, ni_eqR, ni_eqL, ni_nm, ni_nm2, not_false_eq_true]; first | done | omega)), fun _ => ?_⟩) | (refine ⟨fun _ => ?_, fun h => absurd (by (simp (disch := omega) only [nI_1, nI_add, nI_leI, nI_ltI, nI_eq, ni_ltR, ni_ltL, ni_leR, ni_leL, ni_eqR, ni_eqL, ni_nm, ni_nm2, not_false_eq_true]; first | done | omega)) h⟩) | (refine ⟨fun h => absurd (by (simp (disch := omega) only [nI_1, nI_add, nI_leI, nI_ltI, nI_eq, ni_ltR, ni_ltL, ni_leR, ni_leL, ni_eqR, ni_eqL, ni_nm, ni_nm2, not_false_eq_true]; first | done | omega)) h, fun _ => ?_⟩) | (refine ⟨fun _ => ?_, fun h => absurd h (by (simp (disch := omega) only [nI_1, nI_add, nI_leI, nI_ltI, nI_eq, ni_ltR, ni_ltL, ni_leR, ni_leL, ni_eqR, ni_eqL, ni_nm, ni_nm2, not_false_eq_true]; first | done | omega))⟩) | fail))
  refine hQ _ _ _ _ _ (fun Q2 k => ?_)
  refine mj_in2 1 t_Mo_creep rfl rfl (fun X cr C F => ?_)
  (repeat (first | (apply F; conv => whnf) | (refine ⟨rfl, ?_⟩) | (refine ⟨vpk (by decide) ?_, ?_⟩; rfl) | (refine ⟨by assumption, ?_⟩) | (refine ⟨by decide, ?_⟩) | (refine ⟨fun h => absurd h (by decide), fun _ => ?_⟩) | (refine ⟨fun _ => ?_, fun h => absurd (by decide) h⟩) | (refine ⟨fun h => absurd (by decide) h, fun _ => ?_⟩) | (refine ⟨fun _ => ?_, fun h => absurd h (by decide)⟩) | (refine ⟨⟨Nat.le_of_ble_eq_true rfl, Nat.le_of_ble_eq_true rfl⟩, ?_⟩) | (simp (disch := omega) only [nI_clamp, clL, nI_1, nI_add, pk_mul, ni_aL, ni_aR, ni_mL, ni_mR, ni_sR, ni_sb, ni_m1, ni_dv, mj_u_eq, mj_u_ne1, mj_u_ne2]; try (conv => whnf)) | (refine ⟨vpq _ rfl (by omega) (by omega), ?_⟩) | (refine ⟨fun h => absurd h (by (simp (disch := omega) only [nI_1, nI_add, nI_leI, nI_ltI, nI_eq, ni_ltR, ni_ltL, ni_leR, ni_leL, ni_eqR, ni_eqL, ni_nm, ni_nm2, not_false_eq_true]; first | done | omega)), fun _ => ?_⟩) | (refine ⟨fun _ => ?_, fun h => absurd (by (simp (disch := omega) only [nI_1, nI_add, nI_leI, nI_ltI, nI_eq, ni_ltR, ni_ltL, ni_leR, ni_leL, ni_eqR, ni_eqL, ni_nm, ni_nm2, not_false_eq_true]; first | done | omega)) h⟩) | (refine ⟨fun h => absurd (by (simp (disch := omega) only [nI_1, nI_add, nI_leI, nI_ltI, nI_eq, ni_ltR, ni_ltL, ni_leR, ni_leL, ni_eqR, ni_eqL, ni_nm, ni_nm2, not_false_eq_true]; first | done | omega)) h, fun _ => ?_⟩) | (refine ⟨fun _ => ?_, fun h => absurd h (by (simp (disch := omega) only [nI_1, nI_add, nI_leI, nI_ltI, nI_eq, ni_ltR, ni_ltL, ni_leR, ni_leL, ni_eqR, ni_eqL, ni_nm, ni_nm2, not_false_eq_true]; first | done | omega))⟩) | fail))
  rw [m12, ← c12]
  exact k _ _ _ _ h
theorem OP_state {sh : mj_S} {P : mj_P} {I : mj_I} {J : mj_J} {Q : mj_Q} {a : Int32} (h : Inv sh P I J) (hQ : ∀ v (e1 : mj_S) P1 I1 J1, (∀ Q2 : mj_Q, (∀ sh2 P2 I2 J2, Inv sh2 P2 I2 J2 → Q2 (some (.int v)) sh2 P2 I2 J2) → mj_ret mj_pr 400 n_Mo_state [.ref 139, .int a] (0, 0) (sh0 ++ e1) P1 I1 J1 Q2) → Q (some (.int v)) (sh0 ++ e1) P1 I1 J1) : mj_ret mj_pr 400 n_LS_state [.ref 0, .int a] (0, 0) sh P I J Q := by
  obtain ⟨e, P0, r0, r1, r2, r3, rs, kp, ps, tp, fk, fp, dy, ln, sn, dr, pl, sl, cl, lf, bk, lk, rl, cz, a1, a2, a3, a4, a5, a6, a7, a8, a9, a10, a11, a12, ⟨a13, a14, a15, a16⟩, a17⟩ := id h
  subst a1 a2
  obtain ⟨w1, w2, w3, w4, w5, w6, w7, w8, w9, w10, w11⟩ := id a4
  obtain ⟨c1, c2, c3, c4, c5, c6, c7, c8, c9, c10, c11, c12⟩ := id a5
  obtain ⟨m1, m2, m3, m4, m5, m6, m7, m8, m9, m10, m11, m12⟩ := id a6
  refine mj_in2 3 t_LS_state rfl rfl (fun X cr C F => ?_)
  (repeat (first | (apply F; conv => whnf) | (refine ⟨rfl, ?_⟩) | (refine ⟨vpk (by decide) ?_, ?_⟩; rfl) | (refine ⟨by assumption, ?_⟩) | (refine ⟨by decide, ?_⟩) | (refine ⟨fun h => absurd h (by decide), fun _ => ?_⟩) | (refine ⟨fun _ => ?_, fun h => absurd (by decide) h⟩) | (refine ⟨fun h => absurd (by decide) h, fun _ => ?_⟩) | (refine ⟨fun _ => ?_, fun h => absurd h (by decide)⟩) | (refine ⟨⟨Nat.le_of_ble_eq_true rfl, Nat.le_of_ble_eq_true rfl⟩, ?_⟩) | (simp (disch := omega) only [nI_clamp, clL, nI_1, nI_add, pk_mul, ni_aL, ni_aR, ni_mL, ni_mR, ni_sR, ni_sb, ni_m1, ni_dv, mj_u_eq, mj_u_ne1, mj_u_ne2, c4]; try (conv => whnf)) | (refine ⟨vpq _ rfl (by omega) (by omega), ?_⟩) | (refine ⟨fun h => absurd h (by (simp (disch := omega) only [nI_1, nI_add, nI_leI, nI_ltI, nI_eq, ni_ltR, ni_ltL, ni_leR, ni_leL, ni_eqR, ni_eqL, ni_nm, ni_nm2, not_false_eq_true]; first | done | omega)), fun _ => ?_⟩) | (refine ⟨fun _ => ?_, fun h => absurd (by (simp (disch := omega) only [nI_1, nI_add, nI_leI, nI_ltI, nI_eq, ni_ltR, ni_ltL, ni_leR, ni_leL, ni_eqR, ni_eqL, ni_nm, ni_nm2, not_false_eq_true]; first | done | omega)) h⟩) | (refine ⟨fun h => absurd (by (simp (disch := omega) only [nI_1, nI_add, nI_leI, nI_ltI, nI_eq, ni_ltR, ni_ltL, ni_leR, ni_leL, ni_eqR, ni_eqL, ni_nm, ni_nm2, not_false_eq_true]; first | done | omega)) h, fun _ => ?_⟩) | (refine ⟨fun _ => ?_, fun h => absurd h (by (simp (disch := omega) only [nI_1, nI_add, nI_leI, nI_ltI, nI_eq, ni_ltR, ni_ltL, ni_leR, ni_leL, ni_eqR, ni_eqL, ni_nm, ni_nm2, not_false_eq_true]; first | done | omega))⟩) | fail))
  refine hQ _ _ _ _ _ (fun Q2 k => ?_)
  refine mj_in2 3 t_Mo_state rfl rfl (fun X cr C F => ?_)
  (repeat (first | (apply F; conv => whnf) | (refine ⟨rfl, ?_⟩) | (refine ⟨vpk (by decide) ?_, ?_⟩; rfl) | (refine ⟨by assumption, ?_⟩) | (refine ⟨by decide, ?_⟩) | (refine ⟨fun h => absurd h (by decide), fun _ => ?_⟩) | (refine ⟨fun _ => ?_, fun h => absurd (by decide) h⟩) | (refine ⟨fun h => absurd (by decide) h, fun _ => ?_⟩) | (refine ⟨fun _ => ?_, fun h => absurd h (by decide)⟩) | (refine ⟨⟨Nat.le_of_ble_eq_true rfl, Nat.le_of_ble_eq_true rfl⟩, ?_⟩) | (simp (disch := omega) only [nI_clamp, clL, nI_1, nI_add, pk_mul, ni_aL, ni_aR, ni_mL, ni_mR, ni_sR, ni_sb, ni_m1, ni_dv, mj_u_eq, mj_u_ne1, mj_u_ne2, m4]; try (conv => whnf)) | (refine ⟨vpq _ rfl (by omega) (by omega), ?_⟩) | (refine ⟨fun h => absurd h (by (simp (disch := omega) only [nI_1, nI_add, nI_leI, nI_ltI, nI_eq, ni_ltR, ni_ltL, ni_leR, ni_leL, ni_eqR, ni_eqL, ni_nm, ni_nm2, not_false_eq_true]; first | done | omega)), fun _ => ?_⟩) | (refine ⟨fun _ => ?_, fun h => absurd (by (simp (disch := omega) only [nI_1, nI_add, nI_leI, nI_ltI, nI_eq, ni_ltR, ni_ltL, ni_leR, ni_leL, ni_eqR, ni_eqL, ni_nm, ni_nm2, not_false_eq_true]; first | done | omega)) h⟩) | (refine ⟨fun h => absurd (by (simp (disch := omega) only [nI_1, nI_add, nI_leI, nI_ltI, nI_eq, ni_ltR, ni_ltL, ni_leR, ni_leL, ni_eqR, ni_eqL, ni_nm, ni_nm2, not_false_eq_true]; first | done | omega)) h, fun _ => ?_⟩) | (refine ⟨fun _ => ?_, fun h => absurd h (by (simp (disch := omega) only [nI_1, nI_add, nI_leI, nI_ltI, nI_eq, ni_ltR, ni_ltL, ni_leR, ni_leL, ni_eqR, ni_eqL, ni_nm, ni_nm2, not_false_eq_true]; first | done | omega))⟩) | fail))
  refine k _ _ _ _ ?_
  generalize hI : mj_u (mj_u I 1 14 a) 140 4 a = I'
  have f1 : ∀ b, b ≠ 1 → b ≠ 140 → I' b = I b := fun b b1 b2 => by rw [← hI, mj_u_row _ _ _ _ b2, mj_u_row _ _ _ _ b1]
  have f2 : ∀ j, j ≠ 14 → I' 1 j = I 1 j := fun j hj => by rw [← hI, mj_u_row _ _ _ _ (by decide), mj_u_ne2 _ _ _ _ hj]
  have f3 : ∀ j, j ≠ 4 → I' 140 j = I 140 j := fun j hj => by rw [← hI, mj_u_ne2 _ _ _ _ hj, mj_u_row _ _ _ _ (by decide)]
  have g1 : I' 1 14 = a := by rw [← hI]; rfl
  have g2 : I' 140 4 = a := by rw [← hI]; rfl
  clear hI
  refine ⟨e, P0, r0, r1, r2, r3, rs, kp, ps, tp, fk, fp, dy, ln, sn, a, pl, sl, cl, lf, bk, lk, rl, cz, rfl, rfl, a3, a4, ⟨?_, ?_, ?_, g1, ?_, ?_, ?_, ?_, ?_, ?_, ?_, c12⟩, ⟨?_, ?_, ?_, g2, ?_, ?_, ?_, ?_, ?_, ?_, ?_, m12⟩, a7, ?_, ?_, a10, ?_, ?_, ⟨?_, ?_, ?_, ?_⟩, ?_⟩
  · rw [f2 _ (by decide)]; exact c1
  · rw [f2 _ (by decide)]; exact c2
  · rw [f2 _ (by decide)]; exact c3
  · exact mg_congr c5 (f1 _ (by decide) (by decide)) (f1 _ (by decide) (by decide))
  · exact mg_congr c6 (f1 _ (by decide) (by decide)) (f1 _ (by decide) (by decide))
  · exact mg_congr c7 (f1 _ (by decide) (by decide)) (f1 _ (by decide) (by decide))
  · exact fun l hl k hk => by rw [f1 _ (by omega) (by omega)]; exact c8 l hl k hk
  · exact bkC_cp c9 (f2 _ (by decide)) (f1 _ (by decide) (by decide)) (f1 _ (by decide) (by decide))
  · exact lkC_cp c10 (f2 _ (by decide)) (fun b b1 b2 => f1 _ (by omega) (by omega))
  · exact fun k hk => ruC_congr (c11 k hk) (fun b b1 b2 => f1 b (by have := RD_ra a3 hk; omega) (by have := RD_ra a3 hk; omega))
  · rw [f3 _ (by decide)]; exact m1
  · rw [f3 _ (by decide)]; exact m2
  · rw [f3 _ (by decide)]; exact m3
  · exact msM_cp m5 w3.1 (fun k hk => f3 k (by omega))
  · exact msM_cp m6 w4.1 (fun k hk => f3 k (by omega))
  · exact msM_cp m7 w5.1 (fun k hk => f3 k (by omega))
  · exact fun l hl k hk => by rw [f3 _ (by omega)]; exact m8 l hl k hk
  · exact bkM_cp m9 (fun k hk => f3 k (by omega))
  · exact lkM_cp m10 w9 w10 (fun k hk => f3 k (by omega))
  · exact fun k hk => ruM_cp (m11 k hk) (fun j hj => f3 j (by omega))
  · exact PC_congr a8 (fun b b1 b2 => f1 b (by omega) (by omega)) rfl
  · exact PM_congr a9 (by rw [f1 139 (by decide) (by decide)]) (f1 _ (by decide) (by decide)) rfl
  · exact TC_cp a11 (f1 _ (by decide) (by decide)) (f1 _ (by decide) (by decide))
  · exact TM_cp a12 (by rw [f1 139 (by decide) (by decide)]) (f1 _ (by decide) (by decide))
  · rw [f1 87 (by decide) (by decide)]; exact a13
  · rw [f1 87 (by decide) (by decide)]; exact a14
  · rw [f1 139 (by decide) (by decide)]; exact a15
  · rw [f1 139 (by decide) (by decide)]; exact a16
  · exact IM_congr a17 (by rw [f1 139 (by decide) (by decide)]) (fun b b1 => f1 b (by omega) (by omega)) (f1 _ (by decide) (by decide)) rfl rfl
theorem OP_fault {sh : mj_S} {P : mj_P} {I : mj_I} {J : mj_J} {Q : mj_Q} {a : Int32} (h : Inv sh P I J) (hQ : ∀ v (e1 : mj_S) P1 I1 J1, (∀ Q2 : mj_Q, (∀ sh2 P2 I2 J2, Inv sh2 P2 I2 J2 → Q2 (some (.int v)) sh2 P2 I2 J2) → mj_ret mj_pr 400 n_Mo_fault [.ref 139, .int a] (0, 0) (sh0 ++ e1) P1 I1 J1 Q2) → Q (some (.int v)) (sh0 ++ e1) P1 I1 J1) : mj_ret mj_pr 400 n_LS_fault [.ref 0, .int a] (0, 0) sh P I J Q := by
  obtain ⟨e, P0, r0, r1, r2, r3, rs, kp, ps, tp, fk, fp, dy, ln, sn, dr, pl, sl, cl, lf, bk, lk, rl, cz, a1, a2, a3, a4, a5, a6, a7, a8, a9, a10, a11, a12, ⟨a13, a14, a15, a16⟩, a17⟩ := id h
  subst a1 a2
  obtain ⟨w1, w2, w3, w4, w5, w6, w7, w8, w9, w10, w11⟩ := id a4
  obtain ⟨c1, c2, c3, c4, c5, c6, c7, c8, c9, c10, c11, c12⟩ := id a5
  obtain ⟨m1, m2, m3, m4, m5, m6, m7, m8, m9, m10, m11, m12⟩ := id a6
  refine mj_in2 2 t_LS_fault rfl rfl (fun X cr C F => ?_)
  (repeat' (first | (apply F; conv => whnf) | (refine ⟨rfl, ?_⟩) | (refine ⟨vpk (by decide) ?_, ?_⟩; rfl) | (refine ⟨by assumption, ?_⟩) | (refine ⟨by decide, ?_⟩) | (refine ⟨fun h => absurd h (by decide), fun _ => ?_⟩) | (refine ⟨fun _ => ?_, fun h => absurd (by decide) h⟩) | (refine ⟨fun h => absurd (by decide) h, fun _ => ?_⟩) | (refine ⟨fun _ => ?_, fun h => absurd h (by decide)⟩) | (refine ⟨⟨Nat.le_of_ble_eq_true rfl, Nat.le_of_ble_eq_true rfl⟩, ?_⟩) | (simp (disch := omega) only [nI_clamp, clL, nI_1, nI_add, pk_mul, ni_aL, ni_aR, ni_mL, ni_mR, ni_sR, ni_sb, ni_m1, ni_dv, mj_u_eq, mj_u_ne1, mj_u_ne2]; try (conv => whnf)) | (refine ⟨vpq _ rfl (by omega) (by omega), ?_⟩) | (refine ⟨fun h => absurd h (by (simp (disch := omega) only [nI_1, nI_add, nI_leI, nI_ltI, nI_eq, ni_ltR, ni_ltL, ni_leR, ni_leL, ni_eqR, ni_eqL, ni_nm, ni_nm2, not_false_eq_true]; first | done | omega)), fun _ => ?_⟩) | (refine ⟨fun _ => ?_, fun h => absurd (by (simp (disch := omega) only [nI_1, nI_add, nI_leI, nI_ltI, nI_eq, ni_ltR, ni_ltL, ni_leR, ni_leL, ni_eqR, ni_eqL, ni_nm, ni_nm2, not_false_eq_true]; first | done | omega)) h⟩) | (refine ⟨fun h => absurd (by (simp (disch := omega) only [nI_1, nI_add, nI_leI, nI_ltI, nI_eq, ni_ltR, ni_ltL, ni_leR, ni_leL, ni_eqR, ni_eqL, ni_nm, ni_nm2, not_false_eq_true]; first | done | omega)) h, fun _ => ?_⟩) | (refine ⟨fun _ => ?_, fun h => absurd h (by (simp (disch := omega) only [nI_1, nI_add, nI_leI, nI_ltI, nI_eq, ni_ltR, ni_ltL, ni_leR, ni_leL, ni_eqR, ni_eqL, ni_nm, ni_nm2, not_false_eq_true]; first | done | omega))⟩) | (refine ⟨nb_bz, ?_⟩) | (refine ⟨fun _ => ?_, fun h => absurd (by assumption) h⟩) | (refine ⟨fun h => absurd h (by assumption), fun _ => ?_⟩) | (refine ⟨fun h => absurd (by assumption) h, fun _ => ?_⟩) | (refine ⟨fun _ => ?_, fun h => absurd h (by assumption)⟩) | (refine ⟨fun _ => ?_, fun _ => ?_⟩) | fail))
  all_goals (refine hQ _ _ _ _ _ (fun Q2 k => ?_); refine mj_in2 2 t_Mo_fault rfl rfl (fun X cr C F => ?_); (repeat' (first | (apply F; conv => whnf) | (refine ⟨rfl, ?_⟩) | (refine ⟨vpk (by decide) ?_, ?_⟩; rfl) | (refine ⟨by assumption, ?_⟩) | (refine ⟨by decide, ?_⟩) | (refine ⟨fun h => absurd h (by decide), fun _ => ?_⟩) | (refine ⟨fun _ => ?_, fun h => absurd (by decide) h⟩) | (refine ⟨fun h => absurd (by decide) h, fun _ => ?_⟩) | (refine ⟨fun _ => ?_, fun h => absurd h (by decide)⟩) | (refine ⟨⟨Nat.le_of_ble_eq_true rfl, Nat.le_of_ble_eq_true rfl⟩, ?_⟩) | (simp (disch := omega) only [nI_clamp, clL, nI_1, nI_add, pk_mul, ni_aL, ni_aR, ni_mL, ni_mR, ni_sR, ni_sb, ni_m1, ni_dv, mj_u_eq, mj_u_ne1, mj_u_ne2]; try (conv => whnf)) | (refine ⟨vpq _ rfl (by omega) (by omega), ?_⟩) | (refine ⟨fun h => absurd h (by (simp (disch := omega) only [nI_1, nI_add, nI_leI, nI_ltI, nI_eq, ni_ltR, ni_ltL, ni_leR, ni_leL, ni_eqR, ni_eqL, ni_nm, ni_nm2, not_false_eq_true]; first | done | omega)), fun _ => ?_⟩) | (refine ⟨fun _ => ?_, fun h => absurd (by (simp (disch := omega) only [nI_1, nI_add, nI_leI, nI_ltI, nI_eq, ni_ltR, ni_ltL, ni_leR, ni_leL, ni_eqR, ni_eqL, ni_nm, ni_nm2, not_false_eq_true]; first | done | omega)) h⟩) | (refine ⟨fun h => absurd (by (simp (disch := omega) only [nI_1, nI_add, nI_leI, nI_ltI, nI_eq, ni_ltR, ni_ltL, ni_leR, ni_leL, ni_eqR, ni_eqL, ni_nm, ni_nm2, not_false_eq_true]; first | done | omega)) h, fun _ => ?_⟩) | (refine ⟨fun _ => ?_, fun h => absurd h (by (simp (disch := omega) only [nI_1, nI_add, nI_leI, nI_ltI, nI_eq, ni_ltR, ni_ltL, ni_leR, ni_leL, ni_eqR, ni_eqL, ni_nm, ni_nm2, not_false_eq_true]; first | done | omega))⟩) | (refine ⟨nb_bz, ?_⟩) | (refine ⟨fun _ => ?_, fun h => absurd (by assumption) h⟩) | (refine ⟨fun h => absurd h (by assumption), fun _ => ?_⟩) | (refine ⟨fun h => absurd (by assumption) h, fun _ => ?_⟩) | (refine ⟨fun _ => ?_, fun h => absurd h (by assumption)⟩) | (refine ⟨fun _ => ?_, fun _ => ?_⟩) | fail)))
  · rw [a15, ← a13]; exact k _ _ _ _ h
  · rw [a16, ← a14]; exact k _ _ _ _ h
  · exact k _ _ _ _ h
