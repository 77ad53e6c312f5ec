/-! what a sending keeps: the class's remember, the reference's keeps -/
def pus (ps : List Pe) (p : Pe) : List Pe := (if ps.length = 8 then ps.drop 1 else ps) ++ [p]
theorem pus_8 {ps : List Pe} (p : Pe) (h : ps.length = 8) : pus ps p = ps.drop 1 ++ [p] := by unfold pus; rw [if_pos h]
theorem pus_n {ps : List Pe} (p : Pe) (h : ¬ ps.length = 8) : pus ps p = ps ++ [p] := by unfold pus; rw [if_neg h]
theorem pe_drop {ps : List Pe} {i : Nat} : (ps.drop 1).getD i peZ = ps.getD (i + 1) peZ := by
  rw [List.getD_eq_getElem?_getD, List.getD_eq_getElem?_getD, List.getElem?_drop, Nat.add_comm]
theorem PF_pus {ln : Nat} {ps : List Pe} {p : Pe} (h : PF ln ps) (h1 : p.2.1 ≤ 200) (h2 : dg 36 p.2.2.1) (h3 : ∀ l, ln ≤ l → l < 12 → ∀ x, x < 10 → p.2.2.2.1 (10 * l + x) = 0) : PF ln (pus ps p) := by
  have hl := h.1
  by_cases z : ps.length = 8
  · rw [pus_8 p z]
    refine ⟨by simp; omega, fun q hq => ?_⟩
    rcases List.mem_append.mp hq with hq | hq
    · exact h.2 q (List.mem_of_mem_drop hq)
    · rw [List.mem_singleton.mp hq]; exact ⟨h1, h2, h3⟩
  · rw [pus_n p z]
    refine ⟨by simp; omega, fun q hq => ?_⟩
    rcases List.mem_append.mp hq with hq | hq
    · exact h.2 q hq
    · rw [List.mem_singleton.mp hq]; exact ⟨h1, h2, h3⟩
set_option maxHeartbeats 4000000 in
theorem Pa_remember {d : Nat} {e : mj_S} {P : mj_P} {r0 r1 r2 r3 rs : Nat} {kp : Option Nat} {I : mj_I} {J : mj_J} {Q : mj_Q} {ps : List Pe} {cl : List Nat} {sn : Int32} {bn : Nat} {bf : Nat → Int32} {cz : Int64} (h : PC I J ps) (hl : ps.length ≤ 8) (h8 : mg I 8 cl) (h10 : ∀ j, j < 120 → I 10 j = bf j) (h11 : I 1 11 = nI bn) (h15 : I 1 15 = sn) (hJ : J 1 16 = cz) (hQ : ∀ I' J', PC I' J' (pus ps (sn, bn, cl, bf, cz)) → (∀ b, b < 55 ∨ 85 ≤ b → I' b = I b) → (∀ a, a ≠ 68 → J' a = J a) → Q none (sh0 ++ e) (cp P r0 r1 r2 r3 rs kp) I' J') : mj_ret mj_pr (d + 2) n_Past_remember [.ref 55, .ref 1] (0, 0) (sh0 ++ e) (cp P r0 r1 r2 r3 rs kp) I J Q := by
  obtain ⟨z, z8, n2, n3, n4⟩ := id h
  have hp56 := cp_56 (P := P) (r0 := r0) (r1 := r1) (r2 := r2) (r3 := r3) (rs := rs) (kp := kp) z8
  have hp57 := cp_57 (P := P) (r0 := r0) (r1 := r1) (r2 := r2) (r3 := r3) (rs := rs) (kp := kp) z8
  obtain ⟨k58, l58⟩ := kd_58 (e := e) z8
  refine mj_in2 2 t_Past_remember rfl rfl (fun X cr C F => ?_)
  (repeat (first | (apply F; conv => whnf) | (refine ⟨rfl, ?_⟩) | (refine ⟨vpk (by decide) ?_, ?_⟩; rfl) | (refine ⟨by assumption, ?_⟩) | (refine ⟨by decide, ?_⟩) | (refine ⟨fun h => absurd h (by decide), fun _ => ?_⟩) | (refine ⟨fun _ => ?_, fun h => absurd (by decide) h⟩) | (refine ⟨fun h => absurd (by decide) h, fun _ => ?_⟩) | (refine ⟨fun _ => ?_, fun h => absurd h (by decide)⟩) | (refine ⟨⟨Nat.le_of_ble_eq_true rfl, Nat.le_of_ble_eq_true rfl⟩, ?_⟩) | (simp (disch := omega) only [nI_clamp, clL, nI_1, nI_add, pk_mul, ni_aL, ni_aR, ni_mL, ni_mR, ni_sR, ni_sb, ni_m1, ni_dv, mj_u_eq, mj_u_ne1, mj_u_ne2, n2, hp56, ln_56]; try (conv => whnf)) | (refine ⟨vpq _ rfl (by omega) (by omega), ?_⟩) | (refine ⟨fun h => absurd h (by (simp (disch := omega) only [nI_1, nI_add, nI_leI, nI_ltI, nI_eq, ni_ltR, ni_ltL, ni_leR, ni_leL, ni_eqR, ni_eqL, ni_nm, ni_nm2, not_false_eq_true]; first | done | omega)), fun _ => ?_⟩) | (refine ⟨fun _ => ?_, fun h => absurd (by (simp (disch := omega) only [nI_1, nI_add, nI_leI, nI_ltI, nI_eq, ni_ltR, ni_ltL, ni_leR, ni_leL, ni_eqR, ni_eqL, ni_nm, ni_nm2, not_false_eq_true]; first | done | omega)) h⟩) | (refine ⟨fun h => absurd (by (simp (disch := omega) only [nI_1, nI_add, nI_leI, nI_ltI, nI_eq, ni_ltR, ni_ltL, ni_leR, ni_leL, ni_eqR, ni_eqL, ni_nm, ni_nm2, not_false_eq_true]; first | done | omega)) h, fun _ => ?_⟩) | (refine ⟨fun _ => ?_, fun h => absurd h (by (simp (disch := omega) only [nI_1, nI_add, nI_leI, nI_ltI, nI_eq, ni_ltR, ni_ltL, ni_leR, ni_leL, ni_eqR, ni_eqL, ni_nm, ni_nm2, not_false_eq_true]; first | done | omega))⟩) | fail))
  refine ⟨(isM_69 (e := e) (P := P) (r0 := r0) (r1 := r1) (r2 := r2) (r3 := r3) (rs := rs) (kp := kp) z8).1, ?_⟩
  refine C (M_copyFrom (a := 69 + 2 * z) (b := 8) (l := cl) (isM_69 z8) ⟨rfl, rfl, rfl, rfl⟩ h8 (by omega) (fun I1 v1 v2 => ?_))
  have q55 : I1 55 5 = nI z := by rw [v2 55 (by omega) (by omega)]; exact n2
  (repeat (first | (apply F; conv => whnf) | (refine ⟨rfl, ?_⟩) | (refine ⟨vpk (by decide) ?_, ?_⟩; rfl) | (refine ⟨by assumption, ?_⟩) | (refine ⟨by decide, ?_⟩) | (refine ⟨fun h => absurd h (by decide), fun _ => ?_⟩) | (refine ⟨fun _ => ?_, fun h => absurd (by decide) h⟩) | (refine ⟨fun h => absurd (by decide) h, fun _ => ?_⟩) | (refine ⟨fun _ => ?_, fun h => absurd h (by decide)⟩) | (refine ⟨⟨Nat.le_of_ble_eq_true rfl, Nat.le_of_ble_eq_true rfl⟩, ?_⟩) | (simp (disch := omega) only [nI_clamp, clL, nI_1, nI_add, pk_mul, ni_aL, ni_aR, ni_mL, ni_mR, ni_sR, ni_sb, ni_m1, ni_dv, mj_u_eq, mj_u_ne1, mj_u_ne2, q55, hp57, ln_57]; try (conv => whnf)) | (refine ⟨vpq _ rfl (by omega) (by omega), ?_⟩) | (refine ⟨fun h => absurd h (by (simp (disch := omega) only [nI_1, nI_add, nI_leI, nI_ltI, nI_eq, ni_ltR, ni_ltL, ni_leR, ni_leL, ni_eqR, ni_eqL, ni_nm, ni_nm2, not_false_eq_true]; first | done | omega)), fun _ => ?_⟩) | (refine ⟨fun _ => ?_, fun h => absurd (by (simp (disch := omega) only [nI_1, nI_add, nI_leI, nI_ltI, nI_eq, ni_ltR, ni_ltL, ni_leR, ni_leL, ni_eqR, ni_eqL, ni_nm, ni_nm2, not_false_eq_true]; first | done | omega)) h⟩) | (refine ⟨fun h => absurd (by (simp (disch := omega) only [nI_1, nI_add, nI_leI, nI_ltI, nI_eq, ni_ltR, ni_ltL, ni_leR, ni_leL, ni_eqR, ni_eqL, ni_nm, ni_nm2, not_false_eq_true]; first | done | omega)) h, fun _ => ?_⟩) | (refine ⟨fun _ => ?_, fun h => absurd h (by (simp (disch := omega) only [nI_1, nI_add, nI_leI, nI_ltI, nI_eq, ni_ltR, ni_ltL, ni_leR, ni_leL, ni_eqR, ni_eqL, ni_nm, ni_nm2, not_false_eq_true]; first | done | omega))⟩) | fail))
  refine ⟨⟨rfl, k58⟩, by decide, ⟨by rw [ln_10]; decide, by rw [l58]; decide⟩, ?_⟩
  generalize hA : mj_w I1 (58 + z) _ = I2
  have w1 : ∀ b, b ≠ 58 + z → I2 b = I1 b := fun b hb => by rw [← hA, mj_w_row _ _ _ hb]
  have w2 : ∀ j, j < 120 → I2 (58 + z) j = bf j := fun j hj => by
    rw [← hA, mj_w_eq, ← h10 j hj]
    refine (va_cpy_all (show j < Int32.toNatClampNeg 120 by exact hj)).trans ?_
    rw [v2 10 (by omega) (by omega)]
  clear hA
  have G : ∀ b, b ≠ 58 + z ∧ b ≠ 69 + 2 * z ∧ b ≠ 69 + 2 * z + 1 → I2 b = I b := fun b hb => by rw [w1 b (by omega), v2 b (by omega) (by omega)]
  have s55 : I2 55 5 = nI z := by rw [G 55 (by omega)]; exact n2
  have s56 : I2 55 6 = nI ps.length := by rw [G 55 (by omega)]; exact n3
  have s11 : I2 1 11 = nI bn := by rw [G 1 (by omega)]; exact h11
  have s15 : I2 1 15 = sn := by rw [G 1 (by omega)]; exact h15
  have em : (if (8 : Int32) < nI (ps.length + 1) then 8 else nI (ps.length + 1)) = nI (pus ps (sn, bn, cl, bf, cz)).length := by
    by_cases q : ps.length = 8
    · rw [pus_8 _ q, if_pos (by rw [q]; decide)]
      simp [q]
      rfl
    · rw [pus_n _ q, if_neg (by (simp (disch := omega) only [nI_1, nI_add, nI_leI, nI_ltI, nI_eq, ni_ltR, ni_ltL, ni_leR, ni_leL, ni_eqR, ni_eqL, ni_nm, ni_nm2, not_false_eq_true]; first | done | omega))]
      simp
  (repeat (first | (apply F; conv => whnf) | (refine ⟨rfl, ?_⟩) | (refine ⟨vpk (by decide) ?_, ?_⟩; rfl) | (refine ⟨by assumption, ?_⟩) | (refine ⟨by decide, ?_⟩) | (refine ⟨fun h => absurd h (by decide), fun _ => ?_⟩) | (refine ⟨fun _ => ?_, fun h => absurd (by decide) h⟩) | (refine ⟨fun h => absurd (by decide) h, fun _ => ?_⟩) | (refine ⟨fun _ => ?_, fun h => absurd h (by decide)⟩) | (refine ⟨⟨Nat.le_of_ble_eq_true rfl, Nat.le_of_ble_eq_true rfl⟩, ?_⟩) | (simp (disch := omega) only [nI_clamp, clL, nI_1, nI_add, pk_mul, ni_aL, ni_aR, ni_mL, ni_mR, ni_sR, ni_sb, ni_m1, ni_dv, mj_u_eq, mj_u_ne1, mj_u_ne2, s55, s56, s11, s15, ln_66, ln_67, ln_68, hJ]; try (conv => whnf)) | (refine ⟨vpq _ rfl (by omega) (by omega), ?_⟩) | (refine ⟨fun h => absurd h (by (simp (disch := omega) only [nI_1, nI_add, nI_leI, nI_ltI, nI_eq, ni_ltR, ni_ltL, ni_leR, ni_leL, ni_eqR, ni_eqL, ni_nm, ni_nm2, not_false_eq_true]; first | done | omega)), fun _ => ?_⟩) | (refine ⟨fun _ => ?_, fun h => absurd (by (simp (disch := omega) only [nI_1, nI_add, nI_leI, nI_ltI, nI_eq, ni_ltR, ni_ltL, ni_leR, ni_leL, ni_eqR, ni_eqL, ni_nm, ni_nm2, not_false_eq_true]; first | done | omega)) h⟩) | (refine ⟨fun h => absurd (by (simp (disch := omega) only [nI_1, nI_add, nI_leI, nI_ltI, nI_eq, ni_ltR, ni_ltL, ni_leR, ni_leL, ni_eqR, ni_eqL, ni_nm, ni_nm2, not_false_eq_true]; first | done | omega)) h, fun _ => ?_⟩) | (refine ⟨fun _ => ?_, fun h => absurd h (by (simp (disch := omega) only [nI_1, nI_add, nI_leI, nI_ltI, nI_eq, ni_ltR, ni_ltL, ni_leR, ni_leL, ni_eqR, ni_eqL, ni_nm, ni_nm2, not_false_eq_true]; first | done | omega))⟩) | fail))
  rw [em]
  have er : z + 1 - (z + 1) / 8 * 8 = (z + 1) % 8 := by omega
  rw [er]
  have F : ∀ b, b ≠ 55 ∧ b ≠ 66 ∧ b ≠ 67 ∧ b ≠ 58 + z ∧ b ≠ 69 + 2 * z ∧ b ≠ 69 + 2 * z + 1 → mj_u (mj_u (mj_u (mj_u I2 66 z (nI bn)) 67 z sn) 55 5 (nI ((z + 1) % 8))) 55 6 (nI (pus ps (sn, bn, cl, bf, cz)).length) b = I b := fun b hb => by
    rw [mj_u_row _ _ _ _ (by omega), mj_u_row _ _ _ _ (by omega), mj_u_row _ _ _ _ (by omega), mj_u_row _ _ _ _ (by omega)]
    exact G b (by omega)
  have new : PC1 (mj_u (mj_u (mj_u (mj_u I2 66 z (nI bn)) 67 z sn) 55 5 (nI ((z + 1) % 8))) 55 6 (nI (pus ps (sn, bn, cl, bf, cz)).length)) (mj_u J 68 z cz) z (sn, bn, cl, bf, cz) := by
    refine ⟨?_, ?_, ?_, ?_, ?_⟩
    · rw [mj_u_row _ _ _ _ (by decide), mj_u_row _ _ _ _ (by decide), mj_u_eq]
    · rw [mj_u_row _ _ _ _ (by decide), mj_u_row _ _ _ _ (by decide), mj_u_row _ _ _ _ (by decide), mj_u_eq]
    · refine mg_congr v1 ?_ ?_
      · rw [mj_u_row _ _ _ _ (by omega), mj_u_row _ _ _ _ (by omega), mj_u_row _ _ _ _ (by omega), mj_u_row _ _ _ _ (by omega), w1 _ (by omega)]
      · rw [mj_u_row _ _ _ _ (by omega), mj_u_row _ _ _ _ (by omega), mj_u_row _ _ _ _ (by omega), mj_u_row _ _ _ _ (by omega), w1 _ (by omega)]
    · intro j hj
      rw [mj_u_row _ _ _ _ (by omega), mj_u_row _ _ _ _ (by omega), mj_u_row _ _ _ _ (by omega), mj_u_row _ _ _ _ (by omega)]
      exact w2 j hj
    · rw [mj_u_eq]
  have old : ∀ s p, s < 8 → s ≠ z → PC1 I J s p → PC1 (mj_u (mj_u (mj_u (mj_u I2 66 z (nI bn)) 67 z sn) 55 5 (nI ((z + 1) % 8))) 55 6 (nI (pus ps (sn, bn, cl, bf, cz)).length)) (mj_u J 68 z cz) s p := by
    intro s p s8 sz hp
    obtain ⟨t1, t2, t3, t4, t5⟩ := hp
    refine ⟨?_, ?_, mg_congr t3 (F _ (by omega)) (F _ (by omega)), fun j hj => by rw [F _ (by omega)]; exact t4 j hj, by rw [mj_u_ne2 _ _ _ _ sz]; exact t5⟩
    · rw [mj_u_row _ _ _ _ (by decide), mj_u_row _ _ _ _ (by decide), mj_u_ne2 _ _ _ _ sz, mj_u_row _ _ _ _ (by decide), G 67 (by omega)]; exact t1
    · rw [mj_u_row _ _ _ _ (by decide), mj_u_row _ _ _ _ (by decide), mj_u_row _ _ _ _ (by decide), mj_u_ne2 _ _ _ _ sz, G 66 (by omega)]; exact t2
  refine hQ _ _ ⟨(z + 1) % 8, Nat.mod_lt _ (by decide), ?_, ?_, fun i hi => ?_⟩ (fun b hb => F b (by omega)) (fun a ha => mj_u_row _ _ _ _ ha)
  · rw [mj_u_ne2 _ _ _ _ (by decide), mj_u_eq]
  · rw [mj_u_eq]
  · by_cases q : ps.length = 8
    · rw [pus_8 _ q] at hi ⊢
      have ld : (ps.drop 1).length = 7 := by rw [List.length_drop]; omega
      have le : (ps.drop 1 ++ [(sn, bn, cl, bf, cz)]).length = 8 := by rw [List.length_append, ld]; rfl
      rw [le] at hi ⊢
      by_cases w : i = 7
      · have := pe_last (qs := ps.drop 1) (p := (sn, bn, cl, bf, cz))
        rw [ld] at this
        rw [w, this, show ((z + 1) % 8 + 8 - 8 + 7) % 8 = z by omega]
        rw [pus_8 _ q, le] at new
        exact new
      · have h4 := n4 (i + 1) (by omega)
        rw [pe_init (by omega), pe_drop, show ((z + 1) % 8 + 8 - 8 + i) % 8 = (z + 8 - ps.length + (i + 1)) % 8 by omega]
        have := old _ _ (Nat.mod_lt _ (by decide)) (by omega) h4
        rw [pus_8 _ q, le] at this
        exact this
    · rw [pus_n _ q] at hi ⊢
      have le : (ps ++ [(sn, bn, cl, bf, cz)]).length = ps.length + 1 := by simp
      rw [le] at hi ⊢
      by_cases w : i = ps.length
      · rw [w, pe_last, show ((z + 1) % 8 + 8 - (ps.length + 1) + ps.length) % 8 = z by omega]
        rw [pus_n _ q, le] at new
        exact new
      · have h4 := n4 i (by omega)
        rw [pe_init (by omega), show ((z + 1) % 8 + 8 - (ps.length + 1) + i) % 8 = (z + 8 - ps.length + i) % 8 by omega]
        have := old _ _ (Nat.mod_lt _ (by decide)) (by omega) h4
        rw [pus_n _ q, le] at this
        exact this
theorem PM1_shift {I I' : mj_I} {J J' : mj_J} {i : Nat} {p : Pe} (h : PM1 I J (i + 1) p) (hp : p.2.2.1.length ≤ 36) (h1 : ∀ j, 159 * i ≤ j → j < 159 * i + 159 → I' 142 j = I 142 (j + 159)) (h2 : J' 143 i = J 143 (i + 1)) : PM1 I' J' i p := by
  obtain ⟨t1, t2, t3, t4, t5, t6⟩ := h
  refine ⟨?_, ?_, ?_, fun j hj => ?_, fun j hj => ?_, by rw [h2]; exact t6⟩
  · rw [h1 _ (by omega) (by omega), show 159 * i + 159 = 159 * (i + 1) by omega]; exact t1
  · rw [h1 _ (by omega) (by omega), show 159 * i + 1 + 159 = 159 * (i + 1) + 1 by omega]; exact t2
  · rw [h1 _ (by omega) (by omega), show 159 * i + 2 + 159 = 159 * (i + 1) + 2 by omega]; exact t3
  · rw [h1 _ (by omega) (by omega), show 159 * i + 3 + j + 159 = 159 * (i + 1) + 3 + j by omega]; exact t4 j hj
  · rw [h1 _ (by omega) (by omega), show 159 * i + 39 + j + 159 = 159 * (i + 1) + 39 + j by omega]; exact t5 j hj
theorem PM1_cp {I I' : mj_I} {J J' : mj_J} {i : Nat} {p : Pe} (h : PM1 I J i p) (hp : p.2.2.1.length ≤ 36) (h1 : ∀ j, 159 * i ≤ j → j < 159 * i + 159 → I' 142 j = I 142 j) (h2 : J' 143 i = J 143 i) : PM1 I' J' i p := by
  obtain ⟨t1, t2, t3, t4, t5, t6⟩ := h
  refine ⟨?_, ?_, ?_, fun j hj => ?_, fun j hj => ?_, by rw [h2]; exact t6⟩
  · rw [h1 _ (by omega) (by omega)]; exact t1
  · rw [h1 _ (by omega) (by omega)]; exact t2
  · rw [h1 _ (by omega) (by omega)]; exact t3
  · rw [h1 _ (by omega) (by omega)]; exact t4 j hj
  · rw [h1 _ (by omega) (by omega)]; exact t5 j hj
theorem peDm {ps : List Pe} {i : Nat} (h : i < ps.length) : ps.getD i peZ ∈ ps := by
  rw [List.getD_eq_getElem?_getD, List.getElem?_eq_getElem h]
  exact List.getElem_mem _
set_option maxHeartbeats 4000000 in
theorem Mo_keeps {d : Nat} {e : mj_S} {P : mj_P} {r0 r1 r2 r3 rs : Nat} {kp : Option Nat} {I : mj_I} {J : mj_J} {Q : mj_Q} {ps : List Pe} {cl : List Nat} {sn : Int32} {bn : Nat} {bf : Nat → Int32} {cz : Int64} (h : PM I J ps) (hl : ps.length ≤ 8) (hp : ∀ p ∈ ps, p.2.2.1.length ≤ 36) (h8 : msM I 140 8 34 cl) (hc : cl.length ≤ 36) (h10 : ∀ l, l < 12 → ∀ x, x < 10 → I 140 (70 + 18 * l + (7 + x)) = bf (10 * l + x)) (h11 : I 140 2 = nI bn) (h15 : I 140 3 = sn) (hJ : J 139 5 = cz) (hQ : ∀ I' J', PM I' J' (pus ps (sn, bn, cl, bf, cz)) → (∀ b, b ≠ 139 ∧ b ≠ 142 → I' b = I b) → (∀ j, j ≠ 4 → I' 139 j = I 139 j) → (∀ a, a ≠ 143 → J' a = J a) → Q none (sh0 ++ e) (cp P r0 r1 r2 r3 rs kp) I' J') : mj_ret mj_pr (d + 2) n_Mo_keeps [.ref 139] (0, 0) (sh0 ++ e) (cp P r0 r1 r2 r3 rs kp) I J Q := by
  refine mj_in2 4 t_Mo_keeps rfl rfl (fun X cr C F => ?_)
  have main : ∀ (qs : List Pe) (I1 : mj_I) (J1 : mj_J) (L1 : Option Value), pus ps (sn, bn, cl, bf, cz) = qs ++ [(sn, bn, cl, bf, cz)] → qs.length < 8 → (∀ p ∈ qs, p.2.2.1.length ≤ 36) → PM I1 J1 qs → (∀ b, b ≠ 139 ∧ b ≠ 142 → I1 b = I b) → (∀ j, j ≠ 4 → I1 139 j = I 139 j) → (∀ a, a ≠ 143 → J1 a = J a) → X 78 [some (.ref 139), L1, none, none] [] (0, 0) (sh0 ++ e) (cp P r0 r1 r2 r3 rs kp) I1 J1 := by
    intro qs I1 J1 L1 hpu hq8 hqp hpm f1 f2 f3
    have e4 := hpm.1
    have s140 := f1 140 (by decide)
    have e2 : I1 140 2 = nI bn := by rw [s140]; exact h11
    have e3 : I1 140 3 = sn := by rw [s140]; exact h15
    have e8 : I1 140 8 = nI cl.length := by rw [s140]; exact h8.1
    (apply F; conv => whnf)
    (repeat (first | ((fail_if_success (show X 130 _ _ _ _ _ _ _)); apply F; conv => whnf) | (refine ⟨rfl, ?_⟩) | (refine ⟨vpk (by decide) ?_, ?_⟩; rfl) | (refine ⟨by assumption, ?_⟩) | (refine ⟨by decide, ?_⟩) | (refine ⟨fun h => absurd h (by decide), fun _ => ?_⟩) | (refine ⟨fun _ => ?_, fun h => absurd (by decide) h⟩) | (refine ⟨fun h => absurd (by decide) h, fun _ => ?_⟩) | (refine ⟨fun _ => ?_, fun h => absurd h (by decide)⟩) | (refine ⟨⟨Nat.le_of_ble_eq_true rfl, Nat.le_of_ble_eq_true rfl⟩, ?_⟩) | (simp (disch := omega) only [nI_clamp, clL, nI_1, nI_add, pk_mul, ni_aL, ni_aR, ni_mL, ni_mR, ni_sR, ni_sb, ni_m1, ni_dv, mj_u_eq, mj_u_ne1, mj_u_ne2, e4, e2, e3, e8, ln_140, ln_142]; try (conv => whnf)) | (refine ⟨vpq _ rfl (by omega) (by omega), ?_⟩) | (refine ⟨fun h => absurd h (by (simp (disch := omega) only [nI_1, nI_add, nI_leI, nI_ltI, nI_eq, ni_ltR, ni_ltL, ni_leR, ni_leL, ni_eqR, ni_eqL, ni_nm, ni_nm2, not_false_eq_true]; first | done | omega)), fun _ => ?_⟩) | (refine ⟨fun _ => ?_, fun h => absurd (by (simp (disch := omega) only [nI_1, nI_add, nI_leI, nI_ltI, nI_eq, ni_ltR, ni_ltL, ni_leR, ni_leL, ni_eqR, ni_eqL, ni_nm, ni_nm2, not_false_eq_true]; first | done | omega)) h⟩) | (refine ⟨fun h => absurd (by (simp (disch := omega) only [nI_1, nI_add, nI_leI, nI_ltI, nI_eq, ni_ltR, ni_ltL, ni_leR, ni_leL, ni_eqR, ni_eqL, ni_nm, ni_nm2, not_false_eq_true]; first | done | omega)) h, fun _ => ?_⟩) | (refine ⟨fun _ => ?_, fun h => absurd h (by (simp (disch := omega) only [nI_1, nI_add, nI_leI, nI_ltI, nI_eq, ni_ltR, ni_ltL, ni_leR, ni_leL, ni_eqR, ni_eqL, ni_nm, ni_nm2, not_false_eq_true]; first | done | omega))⟩) | fail))
    generalize hI2 : mj_u (mj_u (mj_u I1 142 _ _) 142 _ _) 142 _ _ = I2
    have g1 : ∀ b, b ≠ 142 → I2 b = I1 b := fun b hb => by rw [← hI2, mj_u_row _ _ _ _ hb, mj_u_row _ _ _ _ hb, mj_u_row _ _ _ _ hb]
    have g2 : ∀ j, j < 159 * qs.length → I2 142 j = I1 142 j := fun j hj => by rw [← hI2, mj_u_ne2 _ _ _ _ (by omega), mj_u_ne2 _ _ _ _ (by omega), mj_u_ne2 _ _ _ _ (by omega)]
    have g3 : I2 142 (159 * qs.length) = sn := by rw [← hI2, mj_u_ne2 _ _ _ _ (by omega), mj_u_ne2 _ _ _ _ (by omega), mj_u_eq]
    have g4 : I2 142 (159 * qs.length + 1) = nI bn := by rw [← hI2, mj_u_ne2 _ _ _ _ (by omega), mj_u_eq]
    have g5 : I2 142 (159 * qs.length + 2) = nI cl.length := by rw [← hI2, mj_u_eq]
    clear hI2
    have lp1 : ∀ m i (I3 : mj_I), i + m = 36 → (∀ b, b ≠ 142 → I3 b = I1 b) → (∀ j, j < 159 * qs.length + 3 → I3 142 j = I2 142 j) → (∀ j, j < i → I3 142 (159 * qs.length + 3 + j) = I 140 (34 + j)) → X 130 [some (.ref 139), some (.int (nI (159 * qs.length))), some (.int (nI i)), none] [] (0, 0) (sh0 ++ e) (cp P r0 r1 r2 r3 rs kp) I3 J1 := by
      intro m
      induction m with
      | zero =>
        intro i I3 hi k1 k2 k3
        have hcm : ∀ j, j < cl.length → I3 142 (159 * qs.length + 3 + j) = nI (cl.getD j 0) := fun j hj => by rw [k3 j (by omega)]; exact h8.2 j hj
        have k39 : ∀ j, j < 159 * qs.length + 3 → I3 142 j = I2 142 j := k2
        (apply F; conv => whnf)
        (repeat (first | ((fail_if_success (show X 163 _ _ _ _ _ _ _)); apply F; conv => whnf) | (refine ⟨rfl, ?_⟩) | (refine ⟨vpk (by decide) ?_, ?_⟩; rfl) | (refine ⟨by assumption, ?_⟩) | (refine ⟨by decide, ?_⟩) | (refine ⟨fun h => absurd h (by decide), fun _ => ?_⟩) | (refine ⟨fun _ => ?_, fun h => absurd (by decide) h⟩) | (refine ⟨fun h => absurd (by decide) h, fun _ => ?_⟩) | (refine ⟨fun _ => ?_, fun h => absurd h (by decide)⟩) | (refine ⟨⟨Nat.le_of_ble_eq_true rfl, Nat.le_of_ble_eq_true rfl⟩, ?_⟩) | (simp (disch := omega) only [nI_clamp, clL, nI_1, nI_add, pk_mul, ni_aL, ni_aR, ni_mL, ni_mR, ni_sR, ni_sb, ni_m1, ni_dv, mj_u_eq, mj_u_ne1, mj_u_ne2]; try (conv => whnf)) | (refine ⟨vpq _ rfl (by omega) (by omega), ?_⟩) | (refine ⟨fun h => absurd h (by (simp (disch := omega) only [nI_1, nI_add, nI_leI, nI_ltI, nI_eq, ni_ltR, ni_ltL, ni_leR, ni_leL, ni_eqR, ni_eqL, ni_nm, ni_nm2, not_false_eq_true]; first | done | omega)), fun _ => ?_⟩) | (refine ⟨fun _ => ?_, fun h => absurd (by (simp (disch := omega) only [nI_1, nI_add, nI_leI, nI_ltI, nI_eq, ni_ltR, ni_ltL, ni_leR, ni_leL, ni_eqR, ni_eqL, ni_nm, ni_nm2, not_false_eq_true]; first | done | omega)) h⟩) | (refine ⟨fun h => absurd (by (simp (disch := omega) only [nI_1, nI_add, nI_leI, nI_ltI, nI_eq, ni_ltR, ni_ltL, ni_leR, ni_leL, ni_eqR, ni_eqL, ni_nm, ni_nm2, not_false_eq_true]; first | done | omega)) h, fun _ => ?_⟩) | (refine ⟨fun _ => ?_, fun h => absurd h (by (simp (disch := omega) only [nI_1, nI_add, nI_leI, nI_ltI, nI_eq, ni_ltR, ni_ltL, ni_leR, ni_leL, ni_eqR, ni_eqL, ni_nm, ni_nm2, not_false_eq_true]; first | done | omega))⟩) | fail))
        have lp2 : ∀ n l (I4 : mj_I) (L3 : Option Value), l + n = 12 → (∀ b, b ≠ 142 → I4 b = I1 b) → (∀ j, j < 159 * qs.length + 39 → I4 142 j = I3 142 j) → (∀ j, j < 10 * l → I4 142 (159 * qs.length + 39 + j) = bf j) → X 163 [some (.ref 139), some (.int (nI (159 * qs.length))), some (.int (nI l)), L3] [] (0, 0) (sh0 ++ e) (cp P r0 r1 r2 r3 rs kp) I4 J1 := by
          intro n
          induction n with
          | zero =>
            intro l I4 L3 hl2 t1 t2 t3
            have e44 : I4 139 4 = nI qs.length := by rw [t1 139 (by decide)]; exact e4
            have ej : J1 139 5 = cz := by rw [f3 139 (by decide)]; exact hJ
            (apply F; conv => whnf)
            (repeat (first | ((fail_if_success (show X 163 _ _ _ _ _ _ _)); apply F; conv => whnf) | (refine ⟨rfl, ?_⟩) | (refine ⟨vpk (by decide) ?_, ?_⟩; rfl) | (refine ⟨by assumption, ?_⟩) | (refine ⟨by decide, ?_⟩) | (refine ⟨fun h => absurd h (by decide), fun _ => ?_⟩) | (refine ⟨fun _ => ?_, fun h => absurd (by decide) h⟩) | (refine ⟨fun h => absurd (by decide) h, fun _ => ?_⟩) | (refine ⟨fun _ => ?_, fun h => absurd h (by decide)⟩) | (refine ⟨⟨Nat.le_of_ble_eq_true rfl, Nat.le_of_ble_eq_true rfl⟩, ?_⟩) | (simp (disch := omega) only [nI_clamp, clL, nI_1, nI_add, pk_mul, ni_aL, ni_aR, ni_mL, ni_mR, ni_sR, ni_sb, ni_m1, ni_dv, mj_u_eq, mj_u_ne1, mj_u_ne2, e44, ln_143, ej]; try (conv => whnf)) | (refine ⟨vpq _ rfl (by omega) (by omega), ?_⟩) | (refine ⟨fun h => absurd h (by (simp (disch := omega) only [nI_1, nI_add, nI_leI, nI_ltI, nI_eq, ni_ltR, ni_ltL, ni_leR, ni_leL, ni_eqR, ni_eqL, ni_nm, ni_nm2, not_false_eq_true]; first | done | omega)), fun _ => ?_⟩) | (refine ⟨fun _ => ?_, fun h => absurd (by (simp (disch := omega) only [nI_1, nI_add, nI_leI, nI_ltI, nI_eq, ni_ltR, ni_ltL, ni_leR, ni_leL, ni_eqR, ni_eqL, ni_nm, ni_nm2, not_false_eq_true]; first | done | omega)) h⟩) | (refine ⟨fun h => absurd (by (simp (disch := omega) only [nI_1, nI_add, nI_leI, nI_ltI, nI_eq, ni_ltR, ni_ltL, ni_leR, ni_leL, ni_eqR, ni_eqL, ni_nm, ni_nm2, not_false_eq_true]; first | done | omega)) h, fun _ => ?_⟩) | (refine ⟨fun _ => ?_, fun h => absurd h (by (simp (disch := omega) only [nI_1, nI_add, nI_leI, nI_ltI, nI_eq, ni_ltR, ni_ltL, ni_leR, ni_leL, ni_eqR, ni_eqL, ni_nm, ni_nm2, not_false_eq_true]; first | done | omega))⟩) | fail))
            refine hQ _ _ ?_ (fun b hb => by rw [mj_u_row _ _ _ _ hb.1, t1 b hb.2]; exact f1 b hb) (fun j hj => by rw [mj_u_ne2 _ _ _ _ hj, t1 139 (by decide)]; exact f2 j hj) (fun a ha => by rw [mj_u_row _ _ _ _ ha]; exact f3 a ha)
            rw [hpu]
            have le : (qs ++ [(sn, bn, cl, bf, cz)]).length = qs.length + 1 := by simp
            refine ⟨by rw [mj_u_eq, le], fun i hi => ?_⟩
            rw [le] at hi
            by_cases w : i = qs.length
            · rw [w, pe_last]
              refine ⟨?_, ?_, ?_, fun j hj => ?_, fun j hj => ?_, by rw [mj_u_eq]⟩
              · rw [mj_u_row _ _ _ _ (by decide), t2 _ (by omega), k2 _ (by omega)]; exact g3
              · rw [mj_u_row _ _ _ _ (by decide), t2 _ (by omega), k2 _ (by omega)]; exact g4
              · rw [mj_u_row _ _ _ _ (by decide), t2 _ (by omega), k2 _ (by omega)]; exact g5
              · have hj : j < cl.length := hj
                rw [mj_u_row _ _ _ _ (by decide), t2 _ (by omega)]; exact hcm j hj
              · rw [mj_u_row _ _ _ _ (by decide)]; exact t3 j (by omega)
            · rw [pe_init (by omega)]
              refine PM1_cp (hpm.2 i (by omega)) (hqp _ (peDm (by omega))) (fun j j1 j2 => ?_) (by rw [mj_u_ne2 _ _ _ _ w])
              rw [mj_u_row _ _ _ _ (by decide), t2 _ (by omega), k2 _ (by omega), g2 _ (by omega)]
          | succ n ih2 =>
            intro l I4 L3 hl2 t1 t2 t3
            (apply F; conv => whnf)
            (repeat (first | ((fail_if_success (show X 163 _ _ _ _ _ _ _)); (fail_if_success (show X 171 _ _ _ _ _ _ _)); apply F; conv => whnf) | (refine ⟨rfl, ?_⟩) | (refine ⟨vpk (by decide) ?_, ?_⟩; rfl) | (refine ⟨by assumption, ?_⟩) | (refine ⟨by decide, ?_⟩) | (refine ⟨fun h => absurd h (by decide), fun _ => ?_⟩) | (refine ⟨fun _ => ?_, fun h => absurd (by decide) h⟩) | (refine ⟨fun h => absurd (by decide) h, fun _ => ?_⟩) | (refine ⟨fun _ => ?_, fun h => absurd h (by decide)⟩) | (refine ⟨⟨Nat.le_of_ble_eq_true rfl, Nat.le_of_ble_eq_true rfl⟩, ?_⟩) | (simp (disch := omega) only [nI_clamp, clL, nI_1, nI_add, pk_mul, ni_aL, ni_aR, ni_mL, ni_mR, ni_sR, ni_sb, ni_m1, ni_dv, mj_u_eq, mj_u_ne1, mj_u_ne2]; try (conv => whnf)) | (refine ⟨vpq _ rfl (by omega) (by omega), ?_⟩) | (refine ⟨fun h => absurd h (by (simp (disch := omega) only [nI_1, nI_add, nI_leI, nI_ltI, nI_eq, ni_ltR, ni_ltL, ni_leR, ni_leL, ni_eqR, ni_eqL, ni_nm, ni_nm2, not_false_eq_true]; first | done | omega)), fun _ => ?_⟩) | (refine ⟨fun _ => ?_, fun h => absurd (by (simp (disch := omega) only [nI_1, nI_add, nI_leI, nI_ltI, nI_eq, ni_ltR, ni_ltL, ni_leR, ni_leL, ni_eqR, ni_eqL, ni_nm, ni_nm2, not_false_eq_true]; first | done | omega)) h⟩) | (refine ⟨fun h => absurd (by (simp (disch := omega) only [nI_1, nI_add, nI_leI, nI_ltI, nI_eq, ni_ltR, ni_ltL, ni_leR, ni_leL, ni_eqR, ni_eqL, ni_nm, ni_nm2, not_false_eq_true]; first | done | omega)) h, fun _ => ?_⟩) | (refine ⟨fun _ => ?_, fun h => absurd h (by (simp (disch := omega) only [nI_1, nI_add, nI_leI, nI_ltI, nI_eq, ni_ltR, ni_ltL, ni_leR, ni_leL, ni_eqR, ni_eqL, ni_nm, ni_nm2, not_false_eq_true]; first | done | omega))⟩) | fail))
            have lp3 : ∀ k x (I5 : mj_I), x + k = 10 → (∀ b, b ≠ 142 → I5 b = I1 b) → (∀ j, j < 159 * qs.length + 39 → I5 142 j = I3 142 j) → (∀ j, j < 10 * l + x → I5 142 (159 * qs.length + 39 + j) = bf j) → X 171 [some (.ref 139), some (.int (nI (159 * qs.length))), some (.int (nI l)), some (.int (nI x))] [] (0, 0) (sh0 ++ e) (cp P r0 r1 r2 r3 rs kp) I5 J1 := by
              intro k
              induction k with
              | zero =>
                intro x I5 hx y1 y2 y3
                (apply F; conv => whnf)
                (repeat (first | ((fail_if_success (show X 163 _ _ _ _ _ _ _)); apply F; conv => whnf) | (refine ⟨rfl, ?_⟩) | (refine ⟨vpk (by decide) ?_, ?_⟩; rfl) | (refine ⟨by assumption, ?_⟩) | (refine ⟨by decide, ?_⟩) | (refine ⟨fun h => absurd h (by decide), fun _ => ?_⟩) | (refine ⟨fun _ => ?_, fun h => absurd (by decide) h⟩) | (refine ⟨fun h => absurd (by decide) h, fun _ => ?_⟩) | (refine ⟨fun _ => ?_, fun h => absurd h (by decide)⟩) | (refine ⟨⟨Nat.le_of_ble_eq_true rfl, Nat.le_of_ble_eq_true rfl⟩, ?_⟩) | (simp (disch := omega) only [nI_clamp, clL, nI_1, nI_add, pk_mul, ni_aL, ni_aR, ni_mL, ni_mR, ni_sR, ni_sb, ni_m1, ni_dv, mj_u_eq, mj_u_ne1, mj_u_ne2]; try (conv => whnf)) | (refine ⟨vpq _ rfl (by omega) (by omega), ?_⟩) | (refine ⟨fun h => absurd h (by (simp (disch := omega) only [nI_1, nI_add, nI_leI, nI_ltI, nI_eq, ni_ltR, ni_ltL, ni_leR, ni_leL, ni_eqR, ni_eqL, ni_nm, ni_nm2, not_false_eq_true]; first | done | omega)), fun _ => ?_⟩) | (refine ⟨fun _ => ?_, fun h => absurd (by (simp (disch := omega) only [nI_1, nI_add, nI_leI, nI_ltI, nI_eq, ni_ltR, ni_ltL, ni_leR, ni_leL, ni_eqR, ni_eqL, ni_nm, ni_nm2, not_false_eq_true]; first | done | omega)) h⟩) | (refine ⟨fun h => absurd (by (simp (disch := omega) only [nI_1, nI_add, nI_leI, nI_ltI, nI_eq, ni_ltR, ni_ltL, ni_leR, ni_leL, ni_eqR, ni_eqL, ni_nm, ni_nm2, not_false_eq_true]; first | done | omega)) h, fun _ => ?_⟩) | (refine ⟨fun _ => ?_, fun h => absurd h (by (simp (disch := omega) only [nI_1, nI_add, nI_leI, nI_ltI, nI_eq, ni_ltR, ni_ltL, ni_leR, ni_leL, ni_eqR, ni_eqL, ni_nm, ni_nm2, not_false_eq_true]; first | done | omega))⟩) | fail))
                exact ih2 (l + 1) I5 _ (by omega) y1 y2 (fun j hj => y3 j (by omega))
              | succ k ih3 =>
                intro x I5 hx y1 y2 y3
                have r : I5 140 (70 + 18 * l + (7 + x)) = bf (10 * l + x) := by rw [y1 140 (by decide), s140]; exact h10 l (by omega) x (by omega)
                (apply F; conv => whnf)
                (repeat (first | ((fail_if_success (show X 171 _ _ _ _ _ _ _)); apply F; conv => whnf) | (refine ⟨rfl, ?_⟩) | (refine ⟨vpk (by decide) ?_, ?_⟩; rfl) | (refine ⟨by assumption, ?_⟩) | (refine ⟨by decide, ?_⟩) | (refine ⟨fun h => absurd h (by decide), fun _ => ?_⟩) | (refine ⟨fun _ => ?_, fun h => absurd (by decide) h⟩) | (refine ⟨fun h => absurd (by decide) h, fun _ => ?_⟩) | (refine ⟨fun _ => ?_, fun h => absurd h (by decide)⟩) | (refine ⟨⟨Nat.le_of_ble_eq_true rfl, Nat.le_of_ble_eq_true rfl⟩, ?_⟩) | (simp (disch := omega) only [nI_clamp, clL, nI_1, nI_add, pk_mul, ni_aL, ni_aR, ni_mL, ni_mR, ni_sR, ni_sb, ni_m1, ni_dv, mj_u_eq, mj_u_ne1, mj_u_ne2]; try (conv => whnf)) | (refine ⟨vpq _ rfl (by omega) (by omega), ?_⟩) | (refine ⟨fun h => absurd h (by (simp (disch := omega) only [nI_1, nI_add, nI_leI, nI_ltI, nI_eq, ni_ltR, ni_ltL, ni_leR, ni_leL, ni_eqR, ni_eqL, ni_nm, ni_nm2, not_false_eq_true]; first | done | omega)), fun _ => ?_⟩) | (refine ⟨fun _ => ?_, fun h => absurd (by (simp (disch := omega) only [nI_1, nI_add, nI_leI, nI_ltI, nI_eq, ni_ltR, ni_ltL, ni_leR, ni_leL, ni_eqR, ni_eqL, ni_nm, ni_nm2, not_false_eq_true]; first | done | omega)) h⟩) | (refine ⟨fun h => absurd (by (simp (disch := omega) only [nI_1, nI_add, nI_leI, nI_ltI, nI_eq, ni_ltR, ni_ltL, ni_leR, ni_leL, ni_eqR, ni_eqL, ni_nm, ni_nm2, not_false_eq_true]; first | done | omega)) h, fun _ => ?_⟩) | (refine ⟨fun _ => ?_, fun h => absurd h (by (simp (disch := omega) only [nI_1, nI_add, nI_leI, nI_ltI, nI_eq, ni_ltR, ni_ltL, ni_leR, ni_leL, ni_eqR, ni_eqL, ni_nm, ni_nm2, not_false_eq_true]; first | done | omega))⟩) | fail))
                refine C (Mo_own (k := 7 + x) (by omega) (by omega) ?_)
                rw [r]
                (repeat (first | ((fail_if_success (show X 171 _ _ _ _ _ _ _)); apply F; conv => whnf) | (refine ⟨rfl, ?_⟩) | (refine ⟨vpk (by decide) ?_, ?_⟩; rfl) | (refine ⟨by assumption, ?_⟩) | (refine ⟨by decide, ?_⟩) | (refine ⟨fun h => absurd h (by decide), fun _ => ?_⟩) | (refine ⟨fun _ => ?_, fun h => absurd (by decide) h⟩) | (refine ⟨fun h => absurd (by decide) h, fun _ => ?_⟩) | (refine ⟨fun _ => ?_, fun h => absurd h (by decide)⟩) | (refine ⟨⟨Nat.le_of_ble_eq_true rfl, Nat.le_of_ble_eq_true rfl⟩, ?_⟩) | (simp (disch := omega) only [nI_clamp, clL, nI_1, nI_add, pk_mul, ni_aL, ni_aR, ni_mL, ni_mR, ni_sR, ni_sb, ni_m1, ni_dv, mj_u_eq, mj_u_ne1, mj_u_ne2, ln_142]; try (conv => whnf)) | (refine ⟨vpq _ rfl (by omega) (by omega), ?_⟩) | (refine ⟨fun h => absurd h (by (simp (disch := omega) only [nI_1, nI_add, nI_leI, nI_ltI, nI_eq, ni_ltR, ni_ltL, ni_leR, ni_leL, ni_eqR, ni_eqL, ni_nm, ni_nm2, not_false_eq_true]; first | done | omega)), fun _ => ?_⟩) | (refine ⟨fun _ => ?_, fun h => absurd (by (simp (disch := omega) only [nI_1, nI_add, nI_leI, nI_ltI, nI_eq, ni_ltR, ni_ltL, ni_leR, ni_leL, ni_eqR, ni_eqL, ni_nm, ni_nm2, not_false_eq_true]; first | done | omega)) h⟩) | (refine ⟨fun h => absurd (by (simp (disch := omega) only [nI_1, nI_add, nI_leI, nI_ltI, nI_eq, ni_ltR, ni_ltL, ni_leR, ni_leL, ni_eqR, ni_eqL, ni_nm, ni_nm2, not_false_eq_true]; first | done | omega)) h, fun _ => ?_⟩) | (refine ⟨fun _ => ?_, fun h => absurd h (by (simp (disch := omega) only [nI_1, nI_add, nI_leI, nI_ltI, nI_eq, ni_ltR, ni_ltL, ni_leR, ni_leL, ni_eqR, ni_eqL, ni_nm, ni_nm2, not_false_eq_true]; first | done | omega))⟩) | fail))
                refine ih3 (x + 1) _ (by omega) (fun b hb => by rw [mj_u_row _ _ _ _ hb]; exact y1 b hb) (fun j hj => by rw [mj_u_ne2 _ _ _ _ (by omega)]; exact y2 j hj) (fun j hj => ?_)
                by_cases w : j = 10 * l + x
                · rw [w, show 159 * qs.length + 39 + (10 * l + x) = 159 * qs.length + 39 + 10 * l + x by omega, mj_u_eq]
                · rw [mj_u_ne2 _ _ _ _ (by omega)]
                  exact y3 j (by omega)
            exact lp3 10 0 I4 (by decide) t1 t2 t3
        exact lp2 12 0 I3 none (by decide) k1 (fun _ _ => rfl) (fun j hj => absurd hj (Nat.not_lt_zero j))
      | succ m ih =>
        intro i I3 hi k1 k2 k3
        have r : I3 140 (34 + i) = I 140 (34 + i) := by rw [k1 140 (by decide), s140]
        (apply F; conv => whnf)
        (repeat (first | ((fail_if_success (show X 130 _ _ _ _ _ _ _)); apply F; conv => whnf) | (refine ⟨rfl, ?_⟩) | (refine ⟨vpk (by decide) ?_, ?_⟩; rfl) | (refine ⟨by assumption, ?_⟩) | (refine ⟨by decide, ?_⟩) | (refine ⟨fun h => absurd h (by decide), fun _ => ?_⟩) | (refine ⟨fun _ => ?_, fun h => absurd (by decide) h⟩) | (refine ⟨fun h => absurd (by decide) h, fun _ => ?_⟩) | (refine ⟨fun _ => ?_, fun h => absurd h (by decide)⟩) | (refine ⟨⟨Nat.le_of_ble_eq_true rfl, Nat.le_of_ble_eq_true rfl⟩, ?_⟩) | (simp (disch := omega) only [nI_clamp, clL, nI_1, nI_add, pk_mul, ni_aL, ni_aR, ni_mL, ni_mR, ni_sR, ni_sb, ni_m1, ni_dv, mj_u_eq, mj_u_ne1, mj_u_ne2, ln_140, ln_142, r]; try (conv => whnf)) | (refine ⟨vpq _ rfl (by omega) (by omega), ?_⟩) | (refine ⟨fun h => absurd h (by (simp (disch := omega) only [nI_1, nI_add, nI_leI, nI_ltI, nI_eq, ni_ltR, ni_ltL, ni_leR, ni_leL, ni_eqR, ni_eqL, ni_nm, ni_nm2, not_false_eq_true]; first | done | omega)), fun _ => ?_⟩) | (refine ⟨fun _ => ?_, fun h => absurd (by (simp (disch := omega) only [nI_1, nI_add, nI_leI, nI_ltI, nI_eq, ni_ltR, ni_ltL, ni_leR, ni_leL, ni_eqR, ni_eqL, ni_nm, ni_nm2, not_false_eq_true]; first | done | omega)) h⟩) | (refine ⟨fun h => absurd (by (simp (disch := omega) only [nI_1, nI_add, nI_leI, nI_ltI, nI_eq, ni_ltR, ni_ltL, ni_leR, ni_leL, ni_eqR, ni_eqL, ni_nm, ni_nm2, not_false_eq_true]; first | done | omega)) h, fun _ => ?_⟩) | (refine ⟨fun _ => ?_, fun h => absurd h (by (simp (disch := omega) only [nI_1, nI_add, nI_leI, nI_ltI, nI_eq, ni_ltR, ni_ltL, ni_leR, ni_leL, ni_eqR, ni_eqL, ni_nm, ni_nm2, not_false_eq_true]; first | done | omega))⟩) | fail))
        refine ih (i + 1) _ (by omega) (fun b hb => by rw [mj_u_row _ _ _ _ hb]; exact k1 b hb) (fun j hj => by rw [mj_u_ne2 _ _ _ _ (by omega)]; exact k2 j hj) (fun j hj => ?_)
        by_cases w : j = i
        · rw [w, mj_u_eq]
        · rw [mj_u_ne2 _ _ _ _ (by omega)]
          exact k3 j (by omega)
    exact lp1 36 0 I2 (by decide) g1 (fun _ _ => rfl) (fun j hj => absurd hj (Nat.not_lt_zero j))
  have e4 := h.1
  by_cases q : ps.length = 8
  · have e48 : I 139 4 = 8 := by rw [e4, q]; rfl
    (repeat (first | ((fail_if_success (show X 11 _ _ _ _ _ _ _)); apply F; conv => whnf) | (refine ⟨rfl, ?_⟩) | (refine ⟨vpk (by decide) ?_, ?_⟩; rfl) | (refine ⟨by assumption, ?_⟩) | (refine ⟨by decide, ?_⟩) | (refine ⟨fun h => absurd h (by decide), fun _ => ?_⟩) | (refine ⟨fun _ => ?_, fun h => absurd (by decide) h⟩) | (refine ⟨fun h => absurd (by decide) h, fun _ => ?_⟩) | (refine ⟨fun _ => ?_, fun h => absurd h (by decide)⟩) | (refine ⟨⟨Nat.le_of_ble_eq_true rfl, Nat.le_of_ble_eq_true rfl⟩, ?_⟩) | (simp (disch := omega) only [nI_clamp, clL, nI_1, nI_add, pk_mul, ni_aL, ni_aR, ni_mL, ni_mR, ni_sR, ni_sb, ni_m1, ni_dv, mj_u_eq, mj_u_ne1, mj_u_ne2, e48]; try (conv => whnf)) | (refine ⟨vpq _ rfl (by omega) (by omega), ?_⟩) | (refine ⟨fun h => absurd h (by (simp (disch := omega) only [nI_1, nI_add, nI_leI, nI_ltI, nI_eq, ni_ltR, ni_ltL, ni_leR, ni_leL, ni_eqR, ni_eqL, ni_nm, ni_nm2, not_false_eq_true]; first | done | omega)), fun _ => ?_⟩) | (refine ⟨fun _ => ?_, fun h => absurd (by (simp (disch := omega) only [nI_1, nI_add, nI_leI, nI_ltI, nI_eq, ni_ltR, ni_ltL, ni_leR, ni_leL, ni_eqR, ni_eqL, ni_nm, ni_nm2, not_false_eq_true]; first | done | omega)) h⟩) | (refine ⟨fun h => absurd (by (simp (disch := omega) only [nI_1, nI_add, nI_leI, nI_ltI, nI_eq, ni_ltR, ni_ltL, ni_leR, ni_leL, ni_eqR, ni_eqL, ni_nm, ni_nm2, not_false_eq_true]; first | done | omega)) h, fun _ => ?_⟩) | (refine ⟨fun _ => ?_, fun h => absurd h (by (simp (disch := omega) only [nI_1, nI_add, nI_leI, nI_ltI, nI_eq, ni_ltR, ni_ltL, ni_leR, ni_leL, ni_eqR, ni_eqL, ni_nm, ni_nm2, not_false_eq_true]; first | done | omega))⟩) | fail))
    have lpA : ∀ m i (I1 : mj_I), i + m = 1113 → (∀ b, b ≠ 142 → I1 b = I b) → (∀ j, j < i → I1 142 j = I 142 (j + 159)) → (∀ j, i ≤ j → I1 142 j = I 142 j) → X 11 [some (.ref 139), some (.int (nI i)), none, none] [] (0, 0) (sh0 ++ e) (cp P r0 r1 r2 r3 rs kp) I1 J := by
      intro m
      induction m with
      | zero =>
        intro i I1 hi k1 k2 k3
        (apply F; conv => whnf)
        (repeat (first | ((fail_if_success (show X 42 _ _ _ _ _ _ _)); apply F; conv => whnf) | (refine ⟨rfl, ?_⟩) | (refine ⟨vpk (by decide) ?_, ?_⟩; rfl) | (refine ⟨by assumption, ?_⟩) | (refine ⟨by decide, ?_⟩) | (refine ⟨fun h => absurd h (by decide), fun _ => ?_⟩) | (refine ⟨fun _ => ?_, fun h => absurd (by decide) h⟩) | (refine ⟨fun h => absurd (by decide) h, fun _ => ?_⟩) | (refine ⟨fun _ => ?_, fun h => absurd h (by decide)⟩) | (refine ⟨⟨Nat.le_of_ble_eq_true rfl, Nat.le_of_ble_eq_true rfl⟩, ?_⟩) | (simp (disch := omega) only [nI_clamp, clL, nI_1, nI_add, pk_mul, ni_aL, ni_aR, ni_mL, ni_mR, ni_sR, ni_sb, ni_m1, ni_dv, mj_u_eq, mj_u_ne1, mj_u_ne2]; try (conv => whnf)) | (refine ⟨vpq _ rfl (by omega) (by omega), ?_⟩) | (refine ⟨fun h => absurd h (by (simp (disch := omega) only [nI_1, nI_add, nI_leI, nI_ltI, nI_eq, ni_ltR, ni_ltL, ni_leR, ni_leL, ni_eqR, ni_eqL, ni_nm, ni_nm2, not_false_eq_true]; first | done | omega)), fun _ => ?_⟩) | (refine ⟨fun _ => ?_, fun h => absurd (by (simp (disch := omega) only [nI_1, nI_add, nI_leI, nI_ltI, nI_eq, ni_ltR, ni_ltL, ni_leR, ni_leL, ni_eqR, ni_eqL, ni_nm, ni_nm2, not_false_eq_true]; first | done | omega)) h⟩) | (refine ⟨fun h => absurd (by (simp (disch := omega) only [nI_1, nI_add, nI_leI, nI_ltI, nI_eq, ni_ltR, ni_ltL, ni_leR, ni_leL, ni_eqR, ni_eqL, ni_nm, ni_nm2, not_false_eq_true]; first | done | omega)) h, fun _ => ?_⟩) | (refine ⟨fun _ => ?_, fun h => absurd h (by (simp (disch := omega) only [nI_1, nI_add, nI_leI, nI_ltI, nI_eq, ni_ltR, ni_ltL, ni_leR, ni_leL, ni_eqR, ni_eqL, ni_nm, ni_nm2, not_false_eq_true]; first | done | omega))⟩) | fail))
        have lpB : ∀ n k (J1 : mj_J), k + n = 8 → 1 ≤ k → (∀ a, a ≠ 143 → J1 a = J a) → (∀ j, j < k - 1 → J1 143 j = J 143 (j + 1)) → (∀ j, k - 1 ≤ j → J1 143 j = J 143 j) → X 42 [some (.ref 139), some (.int (nI k)), none, none] [] (0, 0) (sh0 ++ e) (cp P r0 r1 r2 r3 rs kp) I1 J1 := by
          intro n
          induction n with
          | zero =>
            intro k J1 hk k0 y1 y2 y3
            have e49 : I1 139 4 = 8 := by rw [k1 139 (by decide)]; exact e48
            (apply F; conv => whnf)
            (repeat (first | ((fail_if_success (show X 78 _ _ _ _ _ _ _)); apply F; conv => whnf) | (refine ⟨rfl, ?_⟩) | (refine ⟨vpk (by decide) ?_, ?_⟩; rfl) | (refine ⟨by assumption, ?_⟩) | (refine ⟨by decide, ?_⟩) | (refine ⟨fun h => absurd h (by decide), fun _ => ?_⟩) | (refine ⟨fun _ => ?_, fun h => absurd (by decide) h⟩) | (refine ⟨fun h => absurd (by decide) h, fun _ => ?_⟩) | (refine ⟨fun _ => ?_, fun h => absurd h (by decide)⟩) | (refine ⟨⟨Nat.le_of_ble_eq_true rfl, Nat.le_of_ble_eq_true rfl⟩, ?_⟩) | (simp (disch := omega) only [nI_clamp, clL, nI_1, nI_add, pk_mul, ni_aL, ni_aR, ni_mL, ni_mR, ni_sR, ni_sb, ni_m1, ni_dv, mj_u_eq, mj_u_ne1, mj_u_ne2, e49]; try (conv => whnf)) | (refine ⟨vpq _ rfl (by omega) (by omega), ?_⟩) | (refine ⟨fun h => absurd h (by (simp (disch := omega) only [nI_1, nI_add, nI_leI, nI_ltI, nI_eq, ni_ltR, ni_ltL, ni_leR, ni_leL, ni_eqR, ni_eqL, ni_nm, ni_nm2, not_false_eq_true]; first | done | omega)), fun _ => ?_⟩) | (refine ⟨fun _ => ?_, fun h => absurd (by (simp (disch := omega) only [nI_1, nI_add, nI_leI, nI_ltI, nI_eq, ni_ltR, ni_ltL, ni_leR, ni_leL, ni_eqR, ni_eqL, ni_nm, ni_nm2, not_false_eq_true]; first | done | omega)) h⟩) | (refine ⟨fun h => absurd (by (simp (disch := omega) only [nI_1, nI_add, nI_leI, nI_ltI, nI_eq, ni_ltR, ni_ltL, ni_leR, ni_leL, ni_eqR, ni_eqL, ni_nm, ni_nm2, not_false_eq_true]; first | done | omega)) h, fun _ => ?_⟩) | (refine ⟨fun _ => ?_, fun h => absurd h (by (simp (disch := omega) only [nI_1, nI_add, nI_leI, nI_ltI, nI_eq, ni_ltR, ni_ltL, ni_leR, ni_leL, ni_eqR, ni_eqL, ni_nm, ni_nm2, not_false_eq_true]; first | done | omega))⟩) | fail))
            have ld : (ps.drop 1).length = 7 := by rw [List.length_drop]; omega
            refine main (ps.drop 1) _ J1 _ (pus_8 _ q) (by omega) (fun p hq => hp p (List.mem_of_mem_drop hq)) ⟨?_, fun i hi => ?_⟩ (fun b hb => by rw [mj_u_row _ _ _ _ hb.1]; exact k1 b hb.2) (fun j hj => by rw [mj_u_ne2 _ _ _ _ hj, k1 139 (by decide)]) y1
            · rw [mj_u_eq, ld]; rfl
            · rw [ld] at hi
              rw [pe_drop]
              refine PM1_shift (h.2 (i + 1) (by omega)) (hp _ (peDm (by omega))) (fun j j1 j2 => by rw [mj_u_row _ _ _ _ (by decide)]; exact k2 j (by omega)) (y2 i (by omega))
          | succ n ih =>
            intro k J1 hk k0 y1 y2 y3
            (apply F; conv => whnf)
            (repeat (first | ((fail_if_success (show X 42 _ _ _ _ _ _ _)); apply F; conv => whnf) | (refine ⟨rfl, ?_⟩) | (refine ⟨vpk (by decide) ?_, ?_⟩; rfl) | (refine ⟨by assumption, ?_⟩) | (refine ⟨by decide, ?_⟩) | (refine ⟨fun h => absurd h (by decide), fun _ => ?_⟩) | (refine ⟨fun _ => ?_, fun h => absurd (by decide) h⟩) | (refine ⟨fun h => absurd (by decide) h, fun _ => ?_⟩) | (refine ⟨fun _ => ?_, fun h => absurd h (by decide)⟩) | (refine ⟨⟨Nat.le_of_ble_eq_true rfl, Nat.le_of_ble_eq_true rfl⟩, ?_⟩) | (simp (disch := omega) only [nI_clamp, clL, nI_1, nI_add, pk_mul, ni_aL, ni_aR, ni_mL, ni_mR, ni_sR, ni_sb, ni_m1, ni_dv, mj_u_eq, mj_u_ne1, mj_u_ne2, ln_143]; try (conv => whnf)) | (refine ⟨vpq _ rfl (by omega) (by omega), ?_⟩) | (refine ⟨fun h => absurd h (by (simp (disch := omega) only [nI_1, nI_add, nI_leI, nI_ltI, nI_eq, ni_ltR, ni_ltL, ni_leR, ni_leL, ni_eqR, ni_eqL, ni_nm, ni_nm2, not_false_eq_true]; first | done | omega)), fun _ => ?_⟩) | (refine ⟨fun _ => ?_, fun h => absurd (by (simp (disch := omega) only [nI_1, nI_add, nI_leI, nI_ltI, nI_eq, ni_ltR, ni_ltL, ni_leR, ni_leL, ni_eqR, ni_eqL, ni_nm, ni_nm2, not_false_eq_true]; first | done | omega)) h⟩) | (refine ⟨fun h => absurd (by (simp (disch := omega) only [nI_1, nI_add, nI_leI, nI_ltI, nI_eq, ni_ltR, ni_ltL, ni_leR, ni_leL, ni_eqR, ni_eqL, ni_nm, ni_nm2, not_false_eq_true]; first | done | omega)) h, fun _ => ?_⟩) | (refine ⟨fun _ => ?_, fun h => absurd h (by (simp (disch := omega) only [nI_1, nI_add, nI_leI, nI_ltI, nI_eq, ni_ltR, ni_ltL, ni_leR, ni_leL, ni_eqR, ni_eqL, ni_nm, ni_nm2, not_false_eq_true]; first | done | omega))⟩) | fail))
            refine ih (k + 1) _ (by omega) (by omega) (fun a ha => by rw [mj_u_row _ _ _ _ ha]; exact y1 a ha) (fun j hj => ?_) (fun j hj => by rw [mj_u_ne2 _ _ _ _ (by omega)]; exact y3 j (by omega))
            by_cases w : j = k - 1
            · rw [w, mj_u_eq, y3 k (by omega), show k - 1 + 1 = k by omega]
            · rw [mj_u_ne2 _ _ _ _ w]
              exact y2 j (by omega)
        exact lpB 7 1 J (by decide) (by decide) (fun _ _ => rfl) (fun j hj => absurd hj (Nat.not_lt_zero j)) (fun _ _ => rfl)
      | succ m ih =>
        intro i I1 hi k1 k2 k3
        have r := k3 (i + 159) (by omega)
        (apply F; conv => whnf)
        (repeat (first | ((fail_if_success (show X 11 _ _ _ _ _ _ _)); apply F; conv => whnf) | (refine ⟨rfl, ?_⟩) | (refine ⟨vpk (by decide) ?_, ?_⟩; rfl) | (refine ⟨by assumption, ?_⟩) | (refine ⟨by decide, ?_⟩) | (refine ⟨fun h => absurd h (by decide), fun _ => ?_⟩) | (refine ⟨fun _ => ?_, fun h => absurd (by decide) h⟩) | (refine ⟨fun h => absurd (by decide) h, fun _ => ?_⟩) | (refine ⟨fun _ => ?_, fun h => absurd h (by decide)⟩) | (refine ⟨⟨Nat.le_of_ble_eq_true rfl, Nat.le_of_ble_eq_true rfl⟩, ?_⟩) | (simp (disch := omega) only [nI_clamp, clL, nI_1, nI_add, pk_mul, ni_aL, ni_aR, ni_mL, ni_mR, ni_sR, ni_sb, ni_m1, ni_dv, mj_u_eq, mj_u_ne1, mj_u_ne2, ln_142, r]; try (conv => whnf)) | (refine ⟨vpq _ rfl (by omega) (by omega), ?_⟩) | (refine ⟨fun h => absurd h (by (simp (disch := omega) only [nI_1, nI_add, nI_leI, nI_ltI, nI_eq, ni_ltR, ni_ltL, ni_leR, ni_leL, ni_eqR, ni_eqL, ni_nm, ni_nm2, not_false_eq_true]; first | done | omega)), fun _ => ?_⟩) | (refine ⟨fun _ => ?_, fun h => absurd (by (simp (disch := omega) only [nI_1, nI_add, nI_leI, nI_ltI, nI_eq, ni_ltR, ni_ltL, ni_leR, ni_leL, ni_eqR, ni_eqL, ni_nm, ni_nm2, not_false_eq_true]; first | done | omega)) h⟩) | (refine ⟨fun h => absurd (by (simp (disch := omega) only [nI_1, nI_add, nI_leI, nI_ltI, nI_eq, ni_ltR, ni_ltL, ni_leR, ni_leL, ni_eqR, ni_eqL, ni_nm, ni_nm2, not_false_eq_true]; first | done | omega)) h, fun _ => ?_⟩) | (refine ⟨fun _ => ?_, fun h => absurd h (by (simp (disch := omega) only [nI_1, nI_add, nI_leI, nI_ltI, nI_eq, ni_ltR, ni_ltL, ni_leR, ni_leL, ni_eqR, ni_eqL, ni_nm, ni_nm2, not_false_eq_true]; first | done | omega))⟩) | fail))
        refine ih (i + 1) _ (by omega) (fun b hb => by rw [mj_u_row _ _ _ _ hb]; exact k1 b hb) (fun j hj => ?_) (fun j hj => by rw [mj_u_ne2 _ _ _ _ (by omega)]; exact k3 j (by omega))
        by_cases w : j = i
        · rw [w, mj_u_eq]
        · rw [mj_u_ne2 _ _ _ _ w]
          exact k2 j (by omega)
    exact lpA 1113 0 I (by decide) (fun _ _ => rfl) (fun j hj => absurd hj (Nat.not_lt_zero j)) (fun _ _ => rfl)
  · (repeat (first | ((fail_if_success (show X 78 _ _ _ _ _ _ _)); apply F; conv => whnf) | (refine ⟨rfl, ?_⟩) | (refine ⟨vpk (by decide) ?_, ?_⟩; rfl) | (refine ⟨by assumption, ?_⟩) | (refine ⟨by decide, ?_⟩) | (refine ⟨fun h => absurd h (by decide), fun _ => ?_⟩) | (refine ⟨fun _ => ?_, fun h => absurd (by decide) h⟩) | (refine ⟨fun h => absurd (by decide) h, fun _ => ?_⟩) | (refine ⟨fun _ => ?_, fun h => absurd h (by decide)⟩) | (refine ⟨⟨Nat.le_of_ble_eq_true rfl, Nat.le_of_ble_eq_true rfl⟩, ?_⟩) | (simp (disch := omega) only [nI_clamp, clL, nI_1, nI_add, pk_mul, ni_aL, ni_aR, ni_mL, ni_mR, ni_sR, ni_sb, ni_m1, ni_dv, mj_u_eq, mj_u_ne1, mj_u_ne2, e4]; try (conv => whnf)) | (refine ⟨vpq _ rfl (by omega) (by omega), ?_⟩) | (refine ⟨fun h => absurd h (by (simp (disch := omega) only [nI_1, nI_add, nI_leI, nI_ltI, nI_eq, ni_ltR, ni_ltL, ni_leR, ni_leL, ni_eqR, ni_eqL, ni_nm, ni_nm2, not_false_eq_true]; first | done | omega)), fun _ => ?_⟩) | (refine ⟨fun _ => ?_, fun h => absurd (by (simp (disch := omega) only [nI_1, nI_add, nI_leI, nI_ltI, nI_eq, ni_ltR, ni_ltL, ni_leR, ni_leL, ni_eqR, ni_eqL, ni_nm, ni_nm2, not_false_eq_true]; first | done | omega)) h⟩) | (refine ⟨fun h => absurd (by (simp (disch := omega) only [nI_1, nI_add, nI_leI, nI_ltI, nI_eq, ni_ltR, ni_ltL, ni_leR, ni_leL, ni_eqR, ni_eqL, ni_nm, ni_nm2, not_false_eq_true]; first | done | omega)) h, fun _ => ?_⟩) | (refine ⟨fun _ => ?_, fun h => absurd h (by (simp (disch := omega) only [nI_1, nI_add, nI_leI, nI_ltI, nI_eq, ni_ltR, ni_ltL, ni_leR, ni_leL, ni_eqR, ni_eqL, ni_nm, ni_nm2, not_false_eq_true]; first | done | omega))⟩) | fail))
    exact main ps I J _ (pus_n _ q) (by omega) hp h (fun _ _ => rfl) (fun _ _ => rfl) (fun _ _ => rfl)
