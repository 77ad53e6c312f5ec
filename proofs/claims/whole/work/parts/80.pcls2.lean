/-! text: settling, joints, operands by the class -/
theorem pop_split (s : Nat) (W : List Nat) : popP s W ++ popR s W = W := List.takeWhile_append_dropWhile
theorem popR_low (s : Nat) : ∀ W : List Nat, low s (popR s W)
  | [] => trivial
  | w :: W => by
    unfold popR
    rw [List.dropWhile_cons]
    by_cases h : s ≤ stg w
    · rw [if_pos (decide_eq_true h)]
      exact popR_low s W
    · rw [if_neg (by simpa using h)]
      exact Nat.lt_of_not_le h
theorem popR_ok (s : Nat) : ∀ W : List Nat, okW W → okW (popR s W)
  | [], h => h
  | w :: W, h => by
    unfold popR
    rw [List.dropWhile_cons]
    by_cases q : s ≤ stg w
    · rw [if_pos (decide_eq_true q)]
      exact popR_ok s W h.1
    · rw [if_neg (by simpa using q)]
      exact h
theorem popR_mem {s x : Nat} {W : List Nat} (h : x ∈ popR s W) : x ∈ W := by
  rw [← pop_split s W]
  exact List.mem_append_right _ h
theorem popP_stg {s x : Nat} {W : List Nat} (h : x ∈ popP s W) : s ≤ stg x := by
  have := List.all_takeWhile (p := fun w => decide (s ≤ stg w)) (l := W)
  rw [List.all_eq_true] at this
  exact of_decide_eq_true (this x h)
theorem cntW_app (a b : List Nat) : cntW (a ++ b) = cntW a + cntW b := List.countP_append
theorem cntW_n : ∀ {a : List Nat}, (∀ w ∈ a, 1 ≤ stg w) → cntW a = a.count 10105
  | [], _ => rfl
  | w :: a, h => by
    have h1 := h w List.mem_cons_self
    rw [cntW_c, cntW_n (fun x hx => h x (List.mem_cons_of_mem _ hx)), List.count_cons]
    congr 1
    by_cases q : w = 10105
    · rw [if_pos (Or.inl q), if_pos (by simpa using q)]
    · have q2 : ¬ w = 10240 := fun e => by
        rw [e] at h1
        exact absurd h1 (by decide)
      rw [if_neg (fun z => z.elim q q2), if_neg (by simpa using q)]
theorem cntW_pop {s : Nat} (hs : 1 ≤ s) (W : List Nat) : cntW W = (popP s W).count 10105 + cntW (popR s W) := by
  rw [← cntW_n (a := popP s W) (fun w hw => by have := popP_stg hw; omega), ← cntW_app, pop_split]
def wfC (W : List Nat) (op aw : Nat) : Prop := okW W ∧ op = cntW W ∧ op ≤ 8 ∧ (aw = 0 → low 5 W) ∧ ∀ x ∈ W, stg x ≠ 1 ∧ (stg x = 0 → x = 10240)
theorem aOpd_wf {z : Nat} {W : List Nat} {op : Nat} {cm : Bool} {E : List Int32} {ts : List Tk} {W' : List Nat} {op' aw' : Nat} {cm' : Bool} {E' : List Int32} (h : okW W ∧ op = cntW W ∧ op ≤ 8 ∧ ∀ x ∈ W, stg x ≠ 1 ∧ (stg x = 0 → x = 10240)) (hr : aOpd z W op cm E ts = .ok (W', op', aw', cm', E')) : wfC W' op' aw' ∧ E'.length + W'.length ≤ E.length + W.length + 1 := by
  unfold aOpd at hr
  split at hr
  · cases hr
    exact ⟨⟨h.1, h.2.1, h.2.2.1, fun w => (by split at w <;> cases w), h.2.2.2⟩, by simp; omega⟩
  · split at hr
    · cases hr
      exact ⟨⟨h.1, h.2.1, h.2.2.1, fun w => (by split at w <;> cases w), h.2.2.2⟩, by simp; omega⟩
    · cases hr
theorem aStep_wf {z : Nat} {W : List Nat} {op aw : Nat} {cm : Bool} {E : List Int32} {ts : List Tk} {W' : List Nat} {op' aw' : Nat} {cm' : Bool} {E' : List Int32} (h : wfC W op aw) (ht : hc ts < 10500) (hr : aStep z W op aw cm E ts = .ok (W', op', aw', cm', E')) : wfC W' op' aw' ∧ E'.length + W'.length ≤ E.length + W.length + 1 := by
  obtain ⟨h1, h2, h3, h4, h5⟩ := h
  have hlen : ∀ s, (popP s W).length + (popR s W).length = W.length := fun s => by rw [← List.length_append, pop_split]
  unfold aStep at hr
  split at hr
  · rename_i a0
    split at hr
    · rename_i q
      split at hr
      · cases hr
      · rename_i q8
        cases hr
        refine ⟨⟨okW_open h1 (h4 a0) q, ?_, by omega, fun _ => ?_, fun x hx => ?_⟩, by simp; omega⟩
        · rw [cntW_c, if_pos q, ← h2]
        · show stg (hc ts) < 5
          rcases q with q | q <;> rw [q] <;> decide
        · rcases List.mem_cons.mp hx with e | hx
          · rw [e]
            rcases q with q | q <;> rw [q] <;> decide
          · exact h5 x hx
    · exact aOpd_wf ⟨h1, h2, h3, h5⟩ hr
  · split at hr
    · exact aOpd_wf ⟨h1, h2, h3, h5⟩ hr
    · split at hr
      · split at hr
        · cases hr
        · split at hr
          · cases hr
          · exact aOpd_wf ⟨h1, h2, h3, h5⟩ hr
      · unfold aJnt at hr
        split at hr
        · cases hr
        · rename_i q
          have q1 : hc ts ≠ 10105 := fun w => q (Or.inl w)
          have q2 : cJ aw (stg (hc ts)) := Classical.byContradiction (fun w => q (Or.inr w))
          split at hr
          · rename_i s1
            have c1 := cntW_pop (s := 1) (by decide) W
            have l1 := hlen 1
            split at hr
            · rename_i e1
              split at hr
              · cases hr
              · cases hr
                rw [e1] at c1 l1
                have c2 : cntW [] = 0 := rfl
                refine ⟨⟨trivial, by rw [c2]; omega, by omega, fun w => (by cases w), fun x hx => (by cases hx)⟩, ?_⟩
                simp at l1 ⊢
                omega
            · rename_i e1
              split at hr
              · cases hr
                have hok := popR_ok 1 W h1
                have hlo := popR_low 1 W
                cases er : popR 1 W with
                | nil => exact absurd er e1
                | cons x R =>
                  rw [er] at c1 l1 hok hlo
                  have hx1 : x ∈ W := popR_mem (s := 1) (by rw [er]; exact List.mem_cons_self)
                  have hx0 : stg x < 1 := hlo
                  have hxe : x = 10240 := (h5 x hx1).2 (by omega)
                  rw [cntW_c, if_pos (Or.inr hxe)] at c1
                  rw [List.length_cons] at l1
                  refine ⟨⟨hok.1, ?_, by omega, fun w => (by cases w), fun y hy => h5 y (popR_mem (s := 1) (by rw [er]; exact List.mem_cons_of_mem _ hy))⟩, ?_⟩
                  · show _ = cntW R
                    omega
                  · simp
                    omega
              · cases hr
          · rename_i s1
            have hv := stg_v (hc ts)
            have s2 : 2 ≤ stg (hc ts) := by omega
            have c1 := cntW_pop (s := stg (hc ts)) (by omega) W
            have l1 := hlen (stg (hc ts))
            cases hr
            refine ⟨⟨okW_push (popR_ok _ W h1) (popR_low _ W) rfl s2 (by omega) ht (fun x hx => (h5 x (popR_mem hx)).1), ?_, by omega, fun w => ?_, fun x hx => ?_⟩, ?_⟩
            · rw [cntW_c, if_neg (by
                intro w
                rcases w with w | w
                · exact q1 w
                · rw [w] at s2
                  exact absurd s2 (by decide))]
              omega
            · show stg (hc ts) < 5
              split at w
              · assumption
              · split at w <;> cases w
            · rcases List.mem_cons.mp hx with e | hx
              · rw [e]; exact ⟨s1, fun w => by omega⟩
              · exact h5 x (popR_mem hx)
            · simp
              omega
set_option maxHeartbeats 4000000 in
theorem Pa_settle {d : Nat} {e : mj_S} {P : mj_P} {r0 r1 r2 r3 rs : Nat} {kp : Option Nat} {I : mj_I} {J : mj_J} {Q : mj_Q} {tp W0 : List Nat} {ts : List Tk} {op0 aw cnt b0 s : Nat} {cm : Bool} {E0 : List Int32} (hrs : isRs rs) (hs : 1 ≤ s ∧ s ≤ 7) (hcnt : 1 ≤ cnt ∧ cnt ≤ 16) (h1 : tpC I tp ts) (h2 : wtC I W0 op0 aw cm) (h3 : rlC I rs cnt b0 E0) (hb : b0 + E0.length + W0.length ≤ 400) (hw : ∀ w ∈ W0, w < 10500) (hW : W0.length ≤ 29) (hop : W0.count 10105 ≤ op0) (hop8 : op0 ≤ 8)
    (hQ : ∀ I', CfF rs cnt b0 I I' → tpC I' tp ts → wtC I' (popR s W0) (op0 - (popP s W0).count 10105) aw cm → rlC I' rs cnt b0 (E0 ++ (popP s W0).map nI) → I' 87 7 = I 87 7 → I' 87 8 = I 87 8 → Q none (sh0 ++ e) (cp P r0 r1 r2 r3 rs kp) I' J) : mj_ret mj_pr (d + 2) n_Parser_settle [.ref 87, .int (nI s)] (0, 0) (sh0 ++ e) (cp P r0 r1 r2 r3 rs kp) I J Q := by
  have hR : isR (sh0 ++ e) (cp P r0 r1 r2 r3 rs kp) rs := isR_of hrs
  have k0 := hR.1
  have hrs9 := id hrs
  unfold isRs at hrs9
  refine mj_in2 3 t_Parser_settle rfl rfl (fun X cr C F => ?_)
  have loop : ∀ (W : List Nat) (E : List Int32) (op : Nat) (I1 : mj_I) (L2 : Option Value), CfF rs cnt b0 I I1 → tpC I1 tp ts → wtC I1 W op aw cm → rlC I1 rs cnt b0 E → b0 + E.length + W.length ≤ 400 → (∀ w ∈ W, w < 10500) → W.length ≤ 29 → W.count 10105 ≤ op → op ≤ 8 → I1 87 7 = I 87 7 → I1 87 8 = I 87 8 → popR s W = popR s W0 → op - (popP s W).count 10105 = op0 - (popP s W0).count 10105 → E ++ (popP s W).map nI = E0 ++ (popP s W0).map nI → X 0 [some (.ref 87), some (.int (nI s)), L2] [] (0, 0) (sh0 ++ e) (cp P r0 r1 r2 r3 rs kp) I1 J := by
    intro W
    induction W with
    | nil =>
      intro E op I1 L2 f1 t1 w1 l1 hb hw hW hop hop8 g7 g8 e1 e2 e3
      obtain ⟨x1, x2, x3, x4, x5⟩ := id w1
      have x1 : I1 87 2 = nI 0 := x1
      have hf := hQ I1 f1 t1
      rw [← e1, ← e2, ← e3] at hf
      have hf := hf w1 (by rw [show (popP s []).map nI = [] from rfl, List.append_nil]; exact l1) g7 g8
      (apply F; conv => whnf)
      (repeat (first | ((fail_if_success (show X 0 _ _ _ _ _ _ _)); apply F; conv => whnf) | (refine ⟨rfl, ?_⟩) | (refine ⟨vpk (by decide) ?_, ?_⟩; rfl) | (refine ⟨by assumption, ?_⟩) | (refine ⟨by decide, ?_⟩) | (refine ⟨fun h => absurd h (by decide), fun _ => ?_⟩) | (refine ⟨fun _ => ?_, fun h => absurd (by decide) h⟩) | (refine ⟨fun h => absurd (by decide) h, fun _ => ?_⟩) | (refine ⟨fun _ => ?_, fun h => absurd h (by decide)⟩) | (refine ⟨⟨Nat.le_of_ble_eq_true rfl, Nat.le_of_ble_eq_true rfl⟩, ?_⟩) | (simp (disch := omega) only [nI_clamp, clL, nI_1, nI_add, pk_mul, ni_aL, ni_aR, ni_mL, ni_mR, ni_sR, ni_sb, ni_m1, ni_dv, mj_u_eq, mj_u_ne1, mj_u_ne2, x1]; try (conv => whnf)) | (refine ⟨vpq _ rfl (by omega) (by omega), ?_⟩) | (refine ⟨fun h => absurd h (by (simp (disch := omega) only [nI_1, nI_add, nI_leI, nI_ltI, nI_eq, ni_ltR, ni_ltL, ni_leR, ni_leL, ni_eqR, ni_eqL, ni_nm, ni_nm2, not_false_eq_true]; first | done | omega)), fun _ => ?_⟩) | (refine ⟨fun _ => ?_, fun h => absurd (by (simp (disch := omega) only [nI_1, nI_add, nI_leI, nI_ltI, nI_eq, ni_ltR, ni_ltL, ni_leR, ni_leL, ni_eqR, ni_eqL, ni_nm, ni_nm2, not_false_eq_true]; first | done | omega)) h⟩) | (refine ⟨fun h => absurd (by (simp (disch := omega) only [nI_1, nI_add, nI_leI, nI_ltI, nI_eq, ni_ltR, ni_ltL, ni_leR, ni_leL, ni_eqR, ni_eqL, ni_nm, ni_nm2, not_false_eq_true]; first | done | omega)) h, fun _ => ?_⟩) | (refine ⟨fun _ => ?_, fun h => absurd h (by (simp (disch := omega) only [nI_1, nI_add, nI_leI, nI_ltI, nI_eq, ni_ltR, ni_ltL, ni_leR, ni_leL, ni_eqR, ni_eqL, ni_nm, ni_nm2, not_false_eq_true]; first | done | omega))⟩) | fail))
      exact hf
    | cons w W ih =>
      intro E op I1 L2 f1 t1 w1 l1 hb hw hW hop hop8 g7 g8 e1 e2 e3
      obtain ⟨x1, x2, x3, x4, x5⟩ := id w1
      have hwl := hw w List.mem_cons_self
      have hs7 := stg_7 w
      rw [List.length_cons] at x1 hb hW
      have xt : I1 88 W.length = nI w := by have := x2.1; rwa [List.length_map] at this
      have hR9 : popR s (w :: W) = if s ≤ stg w then popR s W else w :: W := by
        unfold popR
        rw [List.dropWhile_cons]
        simp only [decide_eq_true_eq]
      have hP9 : popP s (w :: W) = if s ≤ stg w then w :: popP s W else [] := by
        unfold popP
        rw [List.takeWhile_cons]
        simp only [decide_eq_true_eq]
      (apply F; conv => whnf)
      (repeat (first | ((fail_if_success (show X 0 _ _ _ _ _ _ _)); apply F; conv => whnf) | (refine ⟨rfl, ?_⟩) | (refine ⟨vpk (by decide) ?_, ?_⟩; rfl) | (refine ⟨by assumption, ?_⟩) | (refine ⟨by decide, ?_⟩) | (refine ⟨fun h => absurd h (by decide), fun _ => ?_⟩) | (refine ⟨fun _ => ?_, fun h => absurd (by decide) h⟩) | (refine ⟨fun h => absurd (by decide) h, fun _ => ?_⟩) | (refine ⟨fun _ => ?_, fun h => absurd h (by decide)⟩) | (refine ⟨⟨Nat.le_of_ble_eq_true rfl, Nat.le_of_ble_eq_true rfl⟩, ?_⟩) | (simp (disch := omega) only [nI_clamp, clL, nI_1, nI_add, pk_mul, ni_aL, ni_aR, ni_mL, ni_mR, ni_sR, ni_sb, ni_m1, ni_dv, mj_u_eq, mj_u_ne1, mj_u_ne2, x1, ln_88, Nat.add_sub_cancel, xt]; try (conv => whnf)) | (refine ⟨vpq _ rfl (by omega) (by omega), ?_⟩) | (refine ⟨fun h => absurd h (by (simp (disch := omega) only [nI_1, nI_add, nI_leI, nI_ltI, nI_eq, ni_ltR, ni_ltL, ni_leR, ni_leL, ni_eqR, ni_eqL, ni_nm, ni_nm2, not_false_eq_true]; first | done | omega)), fun _ => ?_⟩) | (refine ⟨fun _ => ?_, fun h => absurd (by (simp (disch := omega) only [nI_1, nI_add, nI_leI, nI_ltI, nI_eq, ni_ltR, ni_ltL, ni_leR, ni_leL, ni_eqR, ni_eqL, ni_nm, ni_nm2, not_false_eq_true]; first | done | omega)) h⟩) | (refine ⟨fun h => absurd (by (simp (disch := omega) only [nI_1, nI_add, nI_leI, nI_ltI, nI_eq, ni_ltR, ni_ltL, ni_leR, ni_leL, ni_eqR, ni_eqL, ni_nm, ni_nm2, not_false_eq_true]; first | done | omega)) h, fun _ => ?_⟩) | (refine ⟨fun _ => ?_, fun h => absurd h (by (simp (disch := omega) only [nI_1, nI_add, nI_leI, nI_ltI, nI_eq, ni_ltR, ni_ltL, ni_leR, ni_leL, ni_eqR, ni_eqL, ni_nm, ni_nm2, not_false_eq_true]; first | done | omega))⟩) | fail))
      refine C (Pa_strength (by omega) ?_)
      by_cases q : s ≤ stg w
      · rw [hR9, if_pos q] at e1
        rw [hP9, if_pos q] at e2 e3
        (repeat (first | ((fail_if_success (show X 0 _ _ _ _ _ _ _)); apply F; conv => whnf) | (refine ⟨rfl, ?_⟩) | (refine ⟨vpk (by decide) ?_, ?_⟩; rfl) | (refine ⟨by assumption, ?_⟩) | (refine ⟨by decide, ?_⟩) | (refine ⟨fun h => absurd h (by decide), fun _ => ?_⟩) | (refine ⟨fun _ => ?_, fun h => absurd (by decide) h⟩) | (refine ⟨fun h => absurd (by decide) h, fun _ => ?_⟩) | (refine ⟨fun _ => ?_, fun h => absurd h (by decide)⟩) | (refine ⟨⟨Nat.le_of_ble_eq_true rfl, Nat.le_of_ble_eq_true rfl⟩, ?_⟩) | (simp (disch := omega) only [nI_clamp, clL, nI_1, nI_add, pk_mul, ni_aL, ni_aR, ni_mL, ni_mR, ni_sR, ni_sb, ni_m1, ni_dv, mj_u_eq, mj_u_ne1, mj_u_ne2, x1, ln_88, Nat.add_sub_cancel, xt]; try (conv => whnf)) | (refine ⟨vpq _ rfl (by omega) (by omega), ?_⟩) | (refine ⟨fun h => absurd h (by (simp (disch := omega) only [nI_1, nI_add, nI_leI, nI_ltI, nI_eq, ni_ltR, ni_ltL, ni_leR, ni_leL, ni_eqR, ni_eqL, ni_nm, ni_nm2, not_false_eq_true]; first | done | omega)), fun _ => ?_⟩) | (refine ⟨fun _ => ?_, fun h => absurd (by (simp (disch := omega) only [nI_1, nI_add, nI_leI, nI_ltI, nI_eq, ni_ltR, ni_ltL, ni_leR, ni_leL, ni_eqR, ni_eqL, ni_nm, ni_nm2, not_false_eq_true]; first | done | omega)) h⟩) | (refine ⟨fun h => absurd (by (simp (disch := omega) only [nI_1, nI_add, nI_leI, nI_ltI, nI_eq, ni_ltR, ni_ltL, ni_leR, ni_leL, ni_eqR, ni_eqL, ni_nm, ni_nm2, not_false_eq_true]; first | done | omega)) h, fun _ => ?_⟩) | (refine ⟨fun _ => ?_, fun h => absurd h (by (simp (disch := omega) only [nI_1, nI_add, nI_leI, nI_ltI, nI_eq, ni_ltR, ni_ltL, ni_leR, ni_leL, ni_eqR, ni_eqL, ni_nm, ni_nm2, not_false_eq_true]; first | done | omega))⟩) | fail))
        have nx : ∀ (I2 : mj_I) (op' : Nat) (L2 : Option Value), (∀ b, b ≠ 87 → I2 b = I1 b) → wtC I2 W op' aw cm → I2 87 7 = I1 87 7 → I2 87 8 = I1 87 8 → (W.count 10105 ≤ op' ∧ op' ≤ 8 ∧ op' - (popP s W).count 10105 = op - (w :: popP s W).count 10105) → X 62 [some (.ref 87), some (.int (nI s)), some (.int (nI w))] [] (0, 0) (sh0 ++ e) (cp P r0 r1 r2 r3 rs kp) I2 J := by
          intro I2 op' L2 u1 u2 u3 u4 u5
          have l2 : rlC I2 rs cnt b0 E := rlC_cp l1 (u1 rs (by omega)) (u1 _ (by omega)) (u1 _ (by omega))
          (apply F; conv => whnf)
          (repeat (first | ((fail_if_success (show X 0 _ _ _ _ _ _ _)); apply F; conv => whnf) | (refine ⟨rfl, ?_⟩) | (refine ⟨vpk (by decide) ?_, ?_⟩; rfl) | (refine ⟨by assumption, ?_⟩) | (refine ⟨by decide, ?_⟩) | (refine ⟨fun h => absurd h (by decide), fun _ => ?_⟩) | (refine ⟨fun _ => ?_, fun h => absurd (by decide) h⟩) | (refine ⟨fun h => absurd (by decide) h, fun _ => ?_⟩) | (refine ⟨fun _ => ?_, fun h => absurd h (by decide)⟩) | (refine ⟨⟨Nat.le_of_ble_eq_true rfl, Nat.le_of_ble_eq_true rfl⟩, ?_⟩) | (simp (disch := omega) only [nI_clamp, clL, nI_1, nI_add, pk_mul, ni_aL, ni_aR, ni_mL, ni_mR, ni_sR, ni_sb, ni_m1, ni_dv, mj_u_eq, mj_u_ne1, mj_u_ne2]; try (conv => whnf)) | (refine ⟨vpq _ rfl (by omega) (by omega), ?_⟩) | (refine ⟨fun h => absurd h (by (simp (disch := omega) only [nI_1, nI_add, nI_leI, nI_ltI, nI_eq, ni_ltR, ni_ltL, ni_leR, ni_leL, ni_eqR, ni_eqL, ni_nm, ni_nm2, not_false_eq_true]; first | done | omega)), fun _ => ?_⟩) | (refine ⟨fun _ => ?_, fun h => absurd (by (simp (disch := omega) only [nI_1, nI_add, nI_leI, nI_ltI, nI_eq, ni_ltR, ni_ltL, ni_leR, ni_leL, ni_eqR, ni_eqL, ni_nm, ni_nm2, not_false_eq_true]; first | done | omega)) h⟩) | (refine ⟨fun h => absurd (by (simp (disch := omega) only [nI_1, nI_add, nI_leI, nI_ltI, nI_eq, ni_ltR, ni_ltL, ni_leR, ni_leL, ni_eqR, ni_eqL, ni_nm, ni_nm2, not_false_eq_true]; first | done | omega)) h, fun _ => ?_⟩) | (refine ⟨fun _ => ?_, fun h => absurd h (by (simp (disch := omega) only [nI_1, nI_add, nI_leI, nI_ltI, nI_eq, ni_ltR, ni_ltL, ni_leR, ni_leL, ni_eqR, ni_eqL, ni_nm, ni_nm2, not_false_eq_true]; first | done | omega))⟩) | fail))
          refine C (Ru_addStep (n := b0 + E.length) hR hcnt l2.1 l2.2.1 (by omega) ?_)
          generalize hI3 : mj_u (mj_u (mj_u I2 (rs + 6) (b0 + E.length) (nI w)) rs 7 (nI (b0 + E.length + 1))) (rs + 5) (cnt - 1) (nI (b0 + E.length + 1)) = I3
          obtain ⟨a1, a2⟩ := rlC_add l2 hI3.symm
          have a3 := CfF_add (cnt := cnt) hrs hI3.symm
          clear hI3
          (repeat (first | ((fail_if_success (show X 0 _ _ _ _ _ _ _)); apply F; conv => whnf) | (refine ⟨rfl, ?_⟩) | (refine ⟨vpk (by decide) ?_, ?_⟩; rfl) | (refine ⟨by assumption, ?_⟩) | (refine ⟨by decide, ?_⟩) | (refine ⟨fun h => absurd h (by decide), fun _ => ?_⟩) | (refine ⟨fun _ => ?_, fun h => absurd (by decide) h⟩) | (refine ⟨fun h => absurd (by decide) h, fun _ => ?_⟩) | (refine ⟨fun _ => ?_, fun h => absurd h (by decide)⟩) | (refine ⟨⟨Nat.le_of_ble_eq_true rfl, Nat.le_of_ble_eq_true rfl⟩, ?_⟩) | (simp (disch := omega) only [nI_clamp, clL, nI_1, nI_add, pk_mul, ni_aL, ni_aR, ni_mL, ni_mR, ni_sR, ni_sb, ni_m1, ni_dv, mj_u_eq, mj_u_ne1, mj_u_ne2]; try (conv => whnf)) | (refine ⟨vpq _ rfl (by omega) (by omega), ?_⟩) | (refine ⟨fun h => absurd h (by (simp (disch := omega) only [nI_1, nI_add, nI_leI, nI_ltI, nI_eq, ni_ltR, ni_ltL, ni_leR, ni_leL, ni_eqR, ni_eqL, ni_nm, ni_nm2, not_false_eq_true]; first | done | omega)), fun _ => ?_⟩) | (refine ⟨fun _ => ?_, fun h => absurd (by (simp (disch := omega) only [nI_1, nI_add, nI_leI, nI_ltI, nI_eq, ni_ltR, ni_ltL, ni_leR, ni_leL, ni_eqR, ni_eqL, ni_nm, ni_nm2, not_false_eq_true]; first | done | omega)) h⟩) | (refine ⟨fun h => absurd (by (simp (disch := omega) only [nI_1, nI_add, nI_leI, nI_ltI, nI_eq, ni_ltR, ni_ltL, ni_leR, ni_leL, ni_eqR, ni_eqL, ni_nm, ni_nm2, not_false_eq_true]; first | done | omega)) h, fun _ => ?_⟩) | (refine ⟨fun _ => ?_, fun h => absurd h (by (simp (disch := omega) only [nI_1, nI_add, nI_leI, nI_ltI, nI_eq, ni_ltR, ni_ltL, ni_leR, ni_leL, ni_eqR, ni_eqL, ni_nm, ni_nm2, not_false_eq_true]; first | done | omega))⟩) | fail))
          refine ih (E ++ [nI w]) op' I3 _ (CfF_tr f1 (CfF_tr (CfF_87 hrs (fun b hb => u1 b hb.1)) a3)) (tpC_cp t1 (by rw [a2 85 (by omega), u1 85 (by decide)]) (by rw [a2 86 (by omega), u1 86 (by decide)])) (wtC_cp u2 (a2 87 (by omega)) (a2 88 (by omega))) a1 (by rw [List.length_append, List.length_singleton]; omega) (fun x hx => hw x (List.mem_cons_of_mem _ hx)) (by omega) u5.1 u5.2.1 (by rw [a2 87 (by omega), u3]; exact g7) (by rw [a2 87 (by omega), u4]; exact g8) e1 (by rw [u5.2.2]; exact e2) (by rw [List.append_assoc]; exact e3)
        by_cases q5 : w = 10105
        · subst q5
          rw [List.count_cons_self] at hop
          have x32 : mj_u I1 87 2 (nI W.length) 87 3 = nI op := x3
          (repeat (first | ((fail_if_success (show X 0 _ _ _ _ _ _ _)); (fail_if_success (show X 62 _ _ _ _ _ _ _)); apply F; conv => whnf) | (refine ⟨rfl, ?_⟩) | (refine ⟨vpk (by decide) ?_, ?_⟩; rfl) | (refine ⟨by assumption, ?_⟩) | (refine ⟨by decide, ?_⟩) | (refine ⟨fun h => absurd h (by decide), fun _ => ?_⟩) | (refine ⟨fun _ => ?_, fun h => absurd (by decide) h⟩) | (refine ⟨fun h => absurd (by decide) h, fun _ => ?_⟩) | (refine ⟨fun _ => ?_, fun h => absurd h (by decide)⟩) | (refine ⟨⟨Nat.le_of_ble_eq_true rfl, Nat.le_of_ble_eq_true rfl⟩, ?_⟩) | (simp (disch := omega) only [nI_clamp, clL, nI_1, nI_add, pk_mul, ni_aL, ni_aR, ni_mL, ni_mR, ni_sR, ni_sb, ni_m1, ni_dv, mj_u_eq, mj_u_ne1, mj_u_ne2, x32, x3]; try (conv => whnf)) | (refine ⟨vpq _ rfl (by omega) (by omega), ?_⟩) | (refine ⟨fun h => absurd h (by (simp (disch := omega) only [nI_1, nI_add, nI_leI, nI_ltI, nI_eq, ni_ltR, ni_ltL, ni_leR, ni_leL, ni_eqR, ni_eqL, ni_nm, ni_nm2, not_false_eq_true]; first | done | omega)), fun _ => ?_⟩) | (refine ⟨fun _ => ?_, fun h => absurd (by (simp (disch := omega) only [nI_1, nI_add, nI_leI, nI_ltI, nI_eq, ni_ltR, ni_ltL, ni_leR, ni_leL, ni_eqR, ni_eqL, ni_nm, ni_nm2, not_false_eq_true]; first | done | omega)) h⟩) | (refine ⟨fun h => absurd (by (simp (disch := omega) only [nI_1, nI_add, nI_leI, nI_ltI, nI_eq, ni_ltR, ni_ltL, ni_leR, ni_leL, ni_eqR, ni_eqL, ni_nm, ni_nm2, not_false_eq_true]; first | done | omega)) h, fun _ => ?_⟩) | (refine ⟨fun _ => ?_, fun h => absurd h (by (simp (disch := omega) only [nI_1, nI_add, nI_leI, nI_ltI, nI_eq, ni_ltR, ni_ltL, ni_leR, ni_leL, ni_eqR, ni_eqL, ni_nm, ni_nm2, not_false_eq_true]; first | done | omega))⟩) | fail))
          refine nx _ (op - 1) none (fun b hb => by rw [mj_u_row _ _ _ _ hb, mj_u_row _ _ _ _ hb]) ⟨?_, ?_, ?_, ?_, ?_⟩ rfl rfl ⟨by omega, by omega, by rw [List.count_cons_self]; omega⟩
          · rfl
          · rw [mj_u_row _ _ _ _ (by decide), mj_u_row _ _ _ _ (by decide)]; exact x2.2
          · rfl
          · exact x4
          · exact x5
        · rw [List.count_cons_of_ne (fun z => q5 z)] at hop
          (repeat (first | ((fail_if_success (show X 0 _ _ _ _ _ _ _)); (fail_if_success (show X 62 _ _ _ _ _ _ _)); apply F; conv => whnf) | (refine ⟨rfl, ?_⟩) | (refine ⟨vpk (by decide) ?_, ?_⟩; rfl) | (refine ⟨by assumption, ?_⟩) | (refine ⟨by decide, ?_⟩) | (refine ⟨fun h => absurd h (by decide), fun _ => ?_⟩) | (refine ⟨fun _ => ?_, fun h => absurd (by decide) h⟩) | (refine ⟨fun h => absurd (by decide) h, fun _ => ?_⟩) | (refine ⟨fun _ => ?_, fun h => absurd h (by decide)⟩) | (refine ⟨⟨Nat.le_of_ble_eq_true rfl, Nat.le_of_ble_eq_true rfl⟩, ?_⟩) | (simp (disch := omega) only [nI_clamp, clL, nI_1, nI_add, pk_mul, ni_aL, ni_aR, ni_mL, ni_mR, ni_sR, ni_sb, ni_m1, ni_dv, mj_u_eq, mj_u_ne1, mj_u_ne2]; try (conv => whnf)) | (refine ⟨vpq _ rfl (by omega) (by omega), ?_⟩) | (refine ⟨fun h => absurd h (by (simp (disch := omega) only [nI_1, nI_add, nI_leI, nI_ltI, nI_eq, ni_ltR, ni_ltL, ni_leR, ni_leL, ni_eqR, ni_eqL, ni_nm, ni_nm2, not_false_eq_true]; first | done | omega)), fun _ => ?_⟩) | (refine ⟨fun _ => ?_, fun h => absurd (by (simp (disch := omega) only [nI_1, nI_add, nI_leI, nI_ltI, nI_eq, ni_ltR, ni_ltL, ni_leR, ni_leL, ni_eqR, ni_eqL, ni_nm, ni_nm2, not_false_eq_true]; first | done | omega)) h⟩) | (refine ⟨fun h => absurd (by (simp (disch := omega) only [nI_1, nI_add, nI_leI, nI_ltI, nI_eq, ni_ltR, ni_ltL, ni_leR, ni_leL, ni_eqR, ni_eqL, ni_nm, ni_nm2, not_false_eq_true]; first | done | omega)) h, fun _ => ?_⟩) | (refine ⟨fun _ => ?_, fun h => absurd h (by (simp (disch := omega) only [nI_1, nI_add, nI_leI, nI_ltI, nI_eq, ni_ltR, ni_ltL, ni_leR, ni_leL, ni_eqR, ni_eqL, ni_nm, ni_nm2, not_false_eq_true]; first | done | omega))⟩) | fail))
          refine nx _ op none (fun b hb => by rw [mj_u_row _ _ _ _ hb]) ⟨?_, ?_, ?_, ?_, ?_⟩ rfl rfl ⟨by omega, by omega, by rw [List.count_cons_of_ne (fun z => q5 z)]⟩
          · rfl
          · rw [mj_u_row _ _ _ _ (by decide)]; exact x2.2
          · exact x3
          · exact x4
          · exact x5
      · rw [hR9, if_neg q] at e1
        rw [hP9, if_neg q] at e2 e3
        have hf := hQ I1 f1 t1
        rw [← e1, ← e2, ← e3] at hf
        have hf := hf w1 (by rw [show ([] : List Nat).map nI = [] from rfl, List.append_nil]; exact l1) g7 g8
        (repeat (first | ((fail_if_success (show X 0 _ _ _ _ _ _ _)); apply F; conv => whnf) | (refine ⟨rfl, ?_⟩) | (refine ⟨vpk (by decide) ?_, ?_⟩; rfl) | (refine ⟨by assumption, ?_⟩) | (refine ⟨by decide, ?_⟩) | (refine ⟨fun h => absurd h (by decide), fun _ => ?_⟩) | (refine ⟨fun _ => ?_, fun h => absurd (by decide) h⟩) | (refine ⟨fun h => absurd (by decide) h, fun _ => ?_⟩) | (refine ⟨fun _ => ?_, fun h => absurd h (by decide)⟩) | (refine ⟨⟨Nat.le_of_ble_eq_true rfl, Nat.le_of_ble_eq_true rfl⟩, ?_⟩) | (simp (disch := omega) only [nI_clamp, clL, nI_1, nI_add, pk_mul, ni_aL, ni_aR, ni_mL, ni_mR, ni_sR, ni_sb, ni_m1, ni_dv, mj_u_eq, mj_u_ne1, mj_u_ne2]; try (conv => whnf)) | (refine ⟨vpq _ rfl (by omega) (by omega), ?_⟩) | (refine ⟨fun h => absurd h (by (simp (disch := omega) only [nI_1, nI_add, nI_leI, nI_ltI, nI_eq, ni_ltR, ni_ltL, ni_leR, ni_leL, ni_eqR, ni_eqL, ni_nm, ni_nm2, not_false_eq_true]; first | done | omega)), fun _ => ?_⟩) | (refine ⟨fun _ => ?_, fun h => absurd (by (simp (disch := omega) only [nI_1, nI_add, nI_leI, nI_ltI, nI_eq, ni_ltR, ni_ltL, ni_leR, ni_leL, ni_eqR, ni_eqL, ni_nm, ni_nm2, not_false_eq_true]; first | done | omega)) h⟩) | (refine ⟨fun h => absurd (by (simp (disch := omega) only [nI_1, nI_add, nI_leI, nI_ltI, nI_eq, ni_ltR, ni_ltL, ni_leR, ni_leL, ni_eqR, ni_eqL, ni_nm, ni_nm2, not_false_eq_true]; first | done | omega)) h, fun _ => ?_⟩) | (refine ⟨fun _ => ?_, fun h => absurd h (by (simp (disch := omega) only [nI_1, nI_add, nI_leI, nI_ltI, nI_eq, ni_ltR, ni_ltL, ni_leR, ni_leL, ni_eqR, ni_eqL, ni_nm, ni_nm2, not_false_eq_true]; first | done | omega))⟩) | fail))
        exact hf
  exact loop W0 E0 op0 I none (CfF_rfl _ _ _ _) h1 h2 h3 hb hw hW hop hop8 rfl rfl rfl rfl rfl
theorem Pa_await {d : Nat} {e : mj_S} {P : mj_P} {r0 r1 r2 r3 rs : Nat} {kp : Option Nat} {I : mj_I} {J : mj_J} {Q : mj_Q} {W : List Nat} {op aw aw0 t : Nat} {cm : Bool} (h2 : wtC I W op aw0 cm) (h5 : aw ≠ 0 → I 87 5 = bz (cm = true)) (hW : W.length ≤ 29) (hQ : ∀ I', (∀ b, b ≠ 87 ∧ b ≠ 88 → I' b = I b) → wtC I' (t :: W) op aw cm → I' 87 7 = I 87 7 → I' 87 8 = I 87 8 → Q (some (.int 1)) (sh0 ++ e) (cp P r0 r1 r2 r3 rs kp) I' J) : mj_ret mj_pr (d + 1) n_Parser_await [.ref 87, .int (nI t), .int (nI aw)] (0, 0) (sh0 ++ e) (cp P r0 r1 r2 r3 rs kp) I J Q := by
  obtain ⟨x1, x2, x3, x4, x5⟩ := id h2
  refine mj_in2 3 t_Parser_await rfl rfl (fun X cr C F => ?_)
  (repeat (first | (apply F; conv => whnf) | (refine ⟨rfl, ?_⟩) | (refine ⟨vpk (by decide) ?_, ?_⟩; rfl) | (refine ⟨by assumption, ?_⟩) | (refine ⟨by decide, ?_⟩) | (refine ⟨fun h => absurd h (by decide), fun _ => ?_⟩) | (refine ⟨fun _ => ?_, fun h => absurd (by decide) h⟩) | (refine ⟨fun h => absurd (by decide) h, fun _ => ?_⟩) | (refine ⟨fun _ => ?_, fun h => absurd h (by decide)⟩) | (refine ⟨⟨Nat.le_of_ble_eq_true rfl, Nat.le_of_ble_eq_true rfl⟩, ?_⟩) | (simp (disch := omega) only [nI_clamp, clL, nI_1, nI_add, pk_mul, ni_aL, ni_aR, ni_mL, ni_mR, ni_sR, ni_sb, ni_m1, ni_dv, mj_u_eq, mj_u_ne1, mj_u_ne2, x1, ln_88]; try (conv => whnf)) | (refine ⟨vpq _ rfl (by omega) (by omega), ?_⟩) | (refine ⟨fun h => absurd h (by (simp (disch := omega) only [nI_1, nI_add, nI_leI, nI_ltI, nI_eq, ni_ltR, ni_ltL, ni_leR, ni_leL, ni_eqR, ni_eqL, ni_nm, ni_nm2, not_false_eq_true]; first | done | omega)), fun _ => ?_⟩) | (refine ⟨fun _ => ?_, fun h => absurd (by (simp (disch := omega) only [nI_1, nI_add, nI_leI, nI_ltI, nI_eq, ni_ltR, ni_ltL, ni_leR, ni_leL, ni_eqR, ni_eqL, ni_nm, ni_nm2, not_false_eq_true]; first | done | omega)) h⟩) | (refine ⟨fun h => absurd (by (simp (disch := omega) only [nI_1, nI_add, nI_leI, nI_ltI, nI_eq, ni_ltR, ni_ltL, ni_leR, ni_leL, ni_eqR, ni_eqL, ni_nm, ni_nm2, not_false_eq_true]; first | done | omega)) h, fun _ => ?_⟩) | (refine ⟨fun _ => ?_, fun h => absurd h (by (simp (disch := omega) only [nI_1, nI_add, nI_leI, nI_ltI, nI_eq, ni_ltR, ni_ltL, ni_leR, ni_leL, ni_eqR, ni_eqL, ni_nm, ni_nm2, not_false_eq_true]; first | done | omega))⟩) | fail))
  refine hQ _ (fun b hb => by rw [mj_u_row _ _ _ _ hb.1, mj_u_row _ _ _ _ hb.1, mj_u_row _ _ _ _ hb.2]) ⟨?_, ?_, ?_, ?_, ?_⟩ rfl rfl
  · rfl
  · rw [mj_u_row _ _ _ _ (by decide), mj_u_row _ _ _ _ (by decide)]
    have e : mj_u I 88 W.length (nI t) 88 = fun j => if j = W.length then nI t else I 88 j := by funext j; simp [mj_u]
    rw [e, List.map_cons]
    refine ⟨by rw [List.length_map]; exact if_pos rfl, ?_⟩
    have := stk_up (W.map nI) (g := I 88) (n := W.length) (v := nI t) (by rw [List.length_map]; exact Nat.le_refl _) x2
    exact this
  · exact x3
  · exact mj_u_eq _ _ _ _
  · exact h5
theorem Pa_takeEnd {d : Nat} {e : mj_S} {P : mj_P} {r0 r1 r2 r3 rs : Nat} {kp : Option Nat} {I : mj_I} {J : mj_J} {Q : mj_Q} {tp W : List Nat} {ts : List Tk} {op aw cnt b0 : Nat} {cm : Bool} {E : List Int32} {I0 : mj_I} (hrs : isRs rs) (h1 : tpC I tp ts) (h2 : wtC I W op aw cm) (h3 : rlC I rs cnt b0 E) (hW : W.length ≤ 29) (hop : W ≠ [] → 1 ≤ op) (hop8 : op ≤ 8) (haw : aw ≠ 0) (hf : CfF rs cnt b0 I0 I) (h7 : I 87 7 = I0 87 7) (h8 : I 87 8 = I0 87 8)
    (hQ : CQ e P r0 r1 r2 r3 rs kp J tp ts cnt b0 I0 (if W = [] then (if hc ts = 10241 then .error (1, hp tp.length ts) else .ok ([], op, 6, cm, E)) else (if hc ts = 10241 then .ok (W.tail, op - 1, 5, cm, E) else .error (1, hp tp.length ts))) Q) : mj_ret mj_pr (d + 2) n_Parser_takeEnd [.ref 87] (0, 0) (sh0 ++ e) (cp P r0 r1 r2 r3 rs kp) I J Q := by
  obtain ⟨x1, x2, x3, x4, x5⟩ := id h2
  obtain ⟨q, r, ⟨a1, a2, a3, a4, a5, a6⟩, b1, b2, b3⟩ := id h1.2.1
  have hrs9 := id hrs
  unfold isRs at hrs9
  refine mj_in2 2 t_Parser_takeEnd rfl rfl (fun X cr C F => ?_)
  cases W with
  | nil =>
    have x1 : I 87 2 = nI 0 := x1
    rw [if_pos rfl] at hQ
    by_cases z : hc ts = 10241
    · rw [if_pos z] at hQ
      rw [z] at b3
      (repeat (first | (apply F; conv => whnf) | (refine ⟨rfl, ?_⟩) | (refine ⟨vpk (by decide) ?_, ?_⟩; rfl) | (refine ⟨by assumption, ?_⟩) | (refine ⟨by decide, ?_⟩) | (refine ⟨fun h => absurd h (by decide), fun _ => ?_⟩) | (refine ⟨fun _ => ?_, fun h => absurd (by decide) h⟩) | (refine ⟨fun h => absurd (by decide) h, fun _ => ?_⟩) | (refine ⟨fun _ => ?_, fun h => absurd h (by decide)⟩) | (refine ⟨⟨Nat.le_of_ble_eq_true rfl, Nat.le_of_ble_eq_true rfl⟩, ?_⟩) | (simp (disch := omega) only [nI_clamp, clL, nI_1, nI_add, pk_mul, ni_aL, ni_aR, ni_mL, ni_mR, ni_sR, ni_sb, ni_m1, ni_dv, mj_u_eq, mj_u_ne1, mj_u_ne2, x1, b3]; try (conv => whnf)) | (refine ⟨vpq _ rfl (by omega) (by omega), ?_⟩) | (refine ⟨fun h => absurd h (by (simp (disch := omega) only [nI_1, nI_add, nI_leI, nI_ltI, nI_eq, ni_ltR, ni_ltL, ni_leR, ni_leL, ni_eqR, ni_eqL, ni_nm, ni_nm2, not_false_eq_true]; first | done | omega)), fun _ => ?_⟩) | (refine ⟨fun _ => ?_, fun h => absurd (by (simp (disch := omega) only [nI_1, nI_add, nI_leI, nI_ltI, nI_eq, ni_ltR, ni_ltL, ni_leR, ni_leL, ni_eqR, ni_eqL, ni_nm, ni_nm2, not_false_eq_true]; first | done | omega)) h⟩) | (refine ⟨fun h => absurd (by (simp (disch := omega) only [nI_1, nI_add, nI_leI, nI_ltI, nI_eq, ni_ltR, ni_ltL, ni_leR, ni_leL, ni_eqR, ni_eqL, ni_nm, ni_nm2, not_false_eq_true]; first | done | omega)) h, fun _ => ?_⟩) | (refine ⟨fun _ => ?_, fun h => absurd h (by (simp (disch := omega) only [nI_1, nI_add, nI_leI, nI_ltI, nI_eq, ni_ltR, ni_ltL, ni_leR, ni_leL, ni_eqR, ni_eqL, ni_nm, ni_nm2, not_false_eq_true]; first | done | omega))⟩) | fail))
      refine C (Pa_refQ (k := 1) hrs h1.2.1 hf ?_)
      intro I1 u1 u2 u3
      (repeat (first | (apply F; conv => whnf) | (refine ⟨rfl, ?_⟩) | (refine ⟨vpk (by decide) ?_, ?_⟩; rfl) | (refine ⟨by assumption, ?_⟩) | (refine ⟨by decide, ?_⟩) | (refine ⟨fun h => absurd h (by decide), fun _ => ?_⟩) | (refine ⟨fun _ => ?_, fun h => absurd (by decide) h⟩) | (refine ⟨fun h => absurd (by decide) h, fun _ => ?_⟩) | (refine ⟨fun _ => ?_, fun h => absurd h (by decide)⟩) | (refine ⟨⟨Nat.le_of_ble_eq_true rfl, Nat.le_of_ble_eq_true rfl⟩, ?_⟩) | (simp (disch := omega) only [nI_clamp, clL, nI_1, nI_add, pk_mul, ni_aL, ni_aR, ni_mL, ni_mR, ni_sR, ni_sb, ni_m1, ni_dv, mj_u_eq, mj_u_ne1, mj_u_ne2]; try (conv => whnf)) | (refine ⟨vpq _ rfl (by omega) (by omega), ?_⟩) | (refine ⟨fun h => absurd h (by (simp (disch := omega) only [nI_1, nI_add, nI_leI, nI_ltI, nI_eq, ni_ltR, ni_ltL, ni_leR, ni_leL, ni_eqR, ni_eqL, ni_nm, ni_nm2, not_false_eq_true]; first | done | omega)), fun _ => ?_⟩) | (refine ⟨fun _ => ?_, fun h => absurd (by (simp (disch := omega) only [nI_1, nI_add, nI_leI, nI_ltI, nI_eq, ni_ltR, ni_ltL, ni_leR, ni_leL, ni_eqR, ni_eqL, ni_nm, ni_nm2, not_false_eq_true]; first | done | omega)) h⟩) | (refine ⟨fun h => absurd (by (simp (disch := omega) only [nI_1, nI_add, nI_leI, nI_ltI, nI_eq, ni_ltR, ni_ltL, ni_leR, ni_leL, ni_eqR, ni_eqL, ni_nm, ni_nm2, not_false_eq_true]; first | done | omega)) h, fun _ => ?_⟩) | (refine ⟨fun _ => ?_, fun h => absurd h (by (simp (disch := omega) only [nI_1, nI_add, nI_leI, nI_ltI, nI_eq, ni_ltR, ni_ltL, ni_leR, ni_leL, ni_eqR, ni_eqL, ni_nm, ni_nm2, not_false_eq_true]; first | done | omega))⟩) | fail))
      exact hQ I1 u1 u2 u3
    · rw [if_neg z] at hQ
      (repeat (first | (apply F; conv => whnf) | (refine ⟨rfl, ?_⟩) | (refine ⟨vpk (by decide) ?_, ?_⟩; rfl) | (refine ⟨by assumption, ?_⟩) | (refine ⟨by decide, ?_⟩) | (refine ⟨fun h => absurd h (by decide), fun _ => ?_⟩) | (refine ⟨fun _ => ?_, fun h => absurd (by decide) h⟩) | (refine ⟨fun h => absurd (by decide) h, fun _ => ?_⟩) | (refine ⟨fun _ => ?_, fun h => absurd h (by decide)⟩) | (refine ⟨⟨Nat.le_of_ble_eq_true rfl, Nat.le_of_ble_eq_true rfl⟩, ?_⟩) | (simp (disch := omega) only [nI_clamp, clL, nI_1, nI_add, pk_mul, ni_aL, ni_aR, ni_mL, ni_mR, ni_sR, ni_sb, ni_m1, ni_dv, mj_u_eq, mj_u_ne1, mj_u_ne2, x1, b3]; try (conv => whnf)) | (refine ⟨vpq _ rfl (by omega) (by omega), ?_⟩) | (refine ⟨fun h => absurd h (by (simp (disch := omega) only [nI_1, nI_add, nI_leI, nI_ltI, nI_eq, ni_ltR, ni_ltL, ni_leR, ni_leL, ni_eqR, ni_eqL, ni_nm, ni_nm2, not_false_eq_true]; first | done | omega)), fun _ => ?_⟩) | (refine ⟨fun _ => ?_, fun h => absurd (by (simp (disch := omega) only [nI_1, nI_add, nI_leI, nI_ltI, nI_eq, ni_ltR, ni_ltL, ni_leR, ni_leL, ni_eqR, ni_eqL, ni_nm, ni_nm2, not_false_eq_true]; first | done | omega)) h⟩) | (refine ⟨fun h => absurd (by (simp (disch := omega) only [nI_1, nI_add, nI_leI, nI_ltI, nI_eq, ni_ltR, ni_ltL, ni_leR, ni_leL, ni_eqR, ni_eqL, ni_nm, ni_nm2, not_false_eq_true]; first | done | omega)) h, fun _ => ?_⟩) | (refine ⟨fun _ => ?_, fun h => absurd h (by (simp (disch := omega) only [nI_1, nI_add, nI_leI, nI_ltI, nI_eq, ni_ltR, ni_ltL, ni_leR, ni_leL, ni_eqR, ni_eqL, ni_nm, ni_nm2, not_false_eq_true]; first | done | omega))⟩) | fail))
      refine hQ _ (CfF_tr hf (CfF_87 hrs (fun b hb => mj_u_row _ _ _ _ hb.1))) (tpC_cp h1 (mj_u_row _ _ _ _ (by decide)) (mj_u_row _ _ _ _ (by decide))) ⟨?_, ?_, ?_, ?_, ?_⟩ (rlC_cp h3 (mj_u_row _ _ _ _ (by omega)) (mj_u_row _ _ _ _ (by omega)) (mj_u_row _ _ _ _ (by omega))) h7 h8
      · exact x1
      · trivial
      · exact x3
      · exact mj_u_eq _ _ _ _
      · exact fun _ => x5 haw
  | cons w W =>
    have hop := hop (by simp)
    rw [List.length_cons] at x1 hW
    rw [if_neg (by simp)] at hQ
    by_cases z : hc ts = 10241
    · rw [if_pos z] at hQ
      rw [z] at b3
      have x32 : mj_u I 87 2 (nI W.length) 87 3 = nI op := x3
      (repeat (first | (apply F; conv => whnf) | (refine ⟨rfl, ?_⟩) | (refine ⟨vpk (by decide) ?_, ?_⟩; rfl) | (refine ⟨by assumption, ?_⟩) | (refine ⟨by decide, ?_⟩) | (refine ⟨fun h => absurd h (by decide), fun _ => ?_⟩) | (refine ⟨fun _ => ?_, fun h => absurd (by decide) h⟩) | (refine ⟨fun h => absurd (by decide) h, fun _ => ?_⟩) | (refine ⟨fun _ => ?_, fun h => absurd h (by decide)⟩) | (refine ⟨⟨Nat.le_of_ble_eq_true rfl, Nat.le_of_ble_eq_true rfl⟩, ?_⟩) | (simp (disch := omega) only [nI_clamp, clL, nI_1, nI_add, pk_mul, ni_aL, ni_aR, ni_mL, ni_mR, ni_sR, ni_sb, ni_m1, ni_dv, mj_u_eq, mj_u_ne1, mj_u_ne2, x1, b3, Nat.add_sub_cancel, x32]; try (conv => whnf)) | (refine ⟨vpq _ rfl (by omega) (by omega), ?_⟩) | (refine ⟨fun h => absurd h (by (simp (disch := omega) only [nI_1, nI_add, nI_leI, nI_ltI, nI_eq, ni_ltR, ni_ltL, ni_leR, ni_leL, ni_eqR, ni_eqL, ni_nm, ni_nm2, not_false_eq_true]; first | done | omega)), fun _ => ?_⟩) | (refine ⟨fun _ => ?_, fun h => absurd (by (simp (disch := omega) only [nI_1, nI_add, nI_leI, nI_ltI, nI_eq, ni_ltR, ni_ltL, ni_leR, ni_leL, ni_eqR, ni_eqL, ni_nm, ni_nm2, not_false_eq_true]; first | done | omega)) h⟩) | (refine ⟨fun h => absurd (by (simp (disch := omega) only [nI_1, nI_add, nI_leI, nI_ltI, nI_eq, ni_ltR, ni_ltL, ni_leR, ni_leL, ni_eqR, ni_eqL, ni_nm, ni_nm2, not_false_eq_true]; first | done | omega)) h, fun _ => ?_⟩) | (refine ⟨fun _ => ?_, fun h => absurd h (by (simp (disch := omega) only [nI_1, nI_add, nI_leI, nI_ltI, nI_eq, ni_ltR, ni_ltL, ni_leR, ni_leL, ni_eqR, ni_eqL, ni_nm, ni_nm2, not_false_eq_true]; first | done | omega))⟩) | fail))
      refine hQ _ (CfF_tr hf (CfF_87 hrs (fun b hb => by rw [mj_u_row _ _ _ _ hb.1, mj_u_row _ _ _ _ hb.1, mj_u_row _ _ _ _ hb.1]))) (tpC_cp h1 (by rw [mj_u_row _ _ _ _ (by decide), mj_u_row _ _ _ _ (by decide), mj_u_row _ _ _ _ (by decide)]) (by rw [mj_u_row _ _ _ _ (by decide), mj_u_row _ _ _ _ (by decide), mj_u_row _ _ _ _ (by decide)])) ⟨?_, ?_, ?_, ?_, ?_⟩ (rlC_cp h3 (by rw [mj_u_row _ _ _ _ (by omega), mj_u_row _ _ _ _ (by omega), mj_u_row _ _ _ _ (by omega)]) (by rw [mj_u_row _ _ _ _ (by omega), mj_u_row _ _ _ _ (by omega), mj_u_row _ _ _ _ (by omega)]) (by rw [mj_u_row _ _ _ _ (by omega), mj_u_row _ _ _ _ (by omega), mj_u_row _ _ _ _ (by omega)])) h7 h8
      · rfl
      · rw [mj_u_row _ _ _ _ (by decide), mj_u_row _ _ _ _ (by decide), mj_u_row _ _ _ _ (by decide)]; exact x2.2
      · rw [mj_u_ne2 _ _ _ _ (by decide), mj_u_eq, x3]; exact ni_sR (b := 1) hop
      · rfl
      · exact fun _ => x5 haw
    · rw [if_neg z] at hQ
      (repeat (first | (apply F; conv => whnf) | (refine ⟨rfl, ?_⟩) | (refine ⟨vpk (by decide) ?_, ?_⟩; rfl) | (refine ⟨by assumption, ?_⟩) | (refine ⟨by decide, ?_⟩) | (refine ⟨fun h => absurd h (by decide), fun _ => ?_⟩) | (refine ⟨fun _ => ?_, fun h => absurd (by decide) h⟩) | (refine ⟨fun h => absurd (by decide) h, fun _ => ?_⟩) | (refine ⟨fun _ => ?_, fun h => absurd h (by decide)⟩) | (refine ⟨⟨Nat.le_of_ble_eq_true rfl, Nat.le_of_ble_eq_true rfl⟩, ?_⟩) | (simp (disch := omega) only [nI_clamp, clL, nI_1, nI_add, pk_mul, ni_aL, ni_aR, ni_mL, ni_mR, ni_sR, ni_sb, ni_m1, ni_dv, mj_u_eq, mj_u_ne1, mj_u_ne2, x1, b3]; try (conv => whnf)) | (refine ⟨vpq _ rfl (by omega) (by omega), ?_⟩) | (refine ⟨fun h => absurd h (by (simp (disch := omega) only [nI_1, nI_add, nI_leI, nI_ltI, nI_eq, ni_ltR, ni_ltL, ni_leR, ni_leL, ni_eqR, ni_eqL, ni_nm, ni_nm2, not_false_eq_true]; first | done | omega)), fun _ => ?_⟩) | (refine ⟨fun _ => ?_, fun h => absurd (by (simp (disch := omega) only [nI_1, nI_add, nI_leI, nI_ltI, nI_eq, ni_ltR, ni_ltL, ni_leR, ni_leL, ni_eqR, ni_eqL, ni_nm, ni_nm2, not_false_eq_true]; first | done | omega)) h⟩) | (refine ⟨fun h => absurd (by (simp (disch := omega) only [nI_1, nI_add, nI_leI, nI_ltI, nI_eq, ni_ltR, ni_ltL, ni_leR, ni_leL, ni_eqR, ni_eqL, ni_nm, ni_nm2, not_false_eq_true]; first | done | omega)) h, fun _ => ?_⟩) | (refine ⟨fun _ => ?_, fun h => absurd h (by (simp (disch := omega) only [nI_1, nI_add, nI_leI, nI_ltI, nI_eq, ni_ltR, ni_ltL, ni_leR, ni_leL, ni_eqR, ni_eqL, ni_nm, ni_nm2, not_false_eq_true]; first | done | omega))⟩) | fail))
      refine C (Pa_refQ (k := 1) hrs h1.2.1 hf ?_)
      intro I1 u1 u2 u3
      (repeat (first | (apply F; conv => whnf) | (refine ⟨rfl, ?_⟩) | (refine ⟨vpk (by decide) ?_, ?_⟩; rfl) | (refine ⟨by assumption, ?_⟩) | (refine ⟨by decide, ?_⟩) | (refine ⟨fun h => absurd h (by decide), fun _ => ?_⟩) | (refine ⟨fun _ => ?_, fun h => absurd (by decide) h⟩) | (refine ⟨fun h => absurd (by decide) h, fun _ => ?_⟩) | (refine ⟨fun _ => ?_, fun h => absurd h (by decide)⟩) | (refine ⟨⟨Nat.le_of_ble_eq_true rfl, Nat.le_of_ble_eq_true rfl⟩, ?_⟩) | (simp (disch := omega) only [nI_clamp, clL, nI_1, nI_add, pk_mul, ni_aL, ni_aR, ni_mL, ni_mR, ni_sR, ni_sb, ni_m1, ni_dv, mj_u_eq, mj_u_ne1, mj_u_ne2]; try (conv => whnf)) | (refine ⟨vpq _ rfl (by omega) (by omega), ?_⟩) | (refine ⟨fun h => absurd h (by (simp (disch := omega) only [nI_1, nI_add, nI_leI, nI_ltI, nI_eq, ni_ltR, ni_ltL, ni_leR, ni_leL, ni_eqR, ni_eqL, ni_nm, ni_nm2, not_false_eq_true]; first | done | omega)), fun _ => ?_⟩) | (refine ⟨fun _ => ?_, fun h => absurd (by (simp (disch := omega) only [nI_1, nI_add, nI_leI, nI_ltI, nI_eq, ni_ltR, ni_ltL, ni_leR, ni_leL, ni_eqR, ni_eqL, ni_nm, ni_nm2, not_false_eq_true]; first | done | omega)) h⟩) | (refine ⟨fun h => absurd (by (simp (disch := omega) only [nI_1, nI_add, nI_leI, nI_ltI, nI_eq, ni_ltR, ni_ltL, ni_leR, ni_leL, ni_eqR, ni_eqL, ni_nm, ni_nm2, not_false_eq_true]; first | done | omega)) h, fun _ => ?_⟩) | (refine ⟨fun _ => ?_, fun h => absurd h (by (simp (disch := omega) only [nI_1, nI_add, nI_leI, nI_ltI, nI_eq, ni_ltR, ni_ltL, ni_leR, ni_leL, ni_eqR, ni_eqL, ni_nm, ni_nm2, not_false_eq_true]; first | done | omega))⟩) | fail))
      exact hQ I1 u1 u2 u3
