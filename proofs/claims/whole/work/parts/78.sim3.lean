/-! text: tests, every, any read alike -/
theorem sim_j {z : Nat} {ts : List Tk} {pend W : List Nat} {op B s : Nat} {cm : Bool} {E : List Int32} (hs : stg (hc ts) = s) (h2 : 2 ≤ s) (h4 : s < 4) (hB : B = 4 ∨ B = 5) (hpd : ∀ w ∈ pend, s ≤ stg w) (hl : low s W) : aRun z ts (pend ++ W) (op + pend.count 10105) B cm E = aRun z ts.tail (hc ts :: W) op 0 cm (E ++ pend.map nI) := by
  have hn : hc ts ≠ 10105 := by
    intro w
    rw [w] at hs
    have : stg 10105 = 4 := rfl
    omega
  have j := aJ (z := z) (op := op) (E := E) (cm := cm) (aw := B) hs h2 hn (cJ_lo hB (by omega)) (by omega) hpd hl
  rw [if_pos (by omega), if_neg (by omega)] at j
  exact j
/-- a close that doesn't come -/
theorem sim_no {z : Nat} {ts : List Tk} {pd W : List Nat} {op B : Nat} {cm : Bool} {E : List Int32} (hB : (B = 4 ∧ noAr (hc ts)) ∨ B = 5) (h1 : hc ts ≠ 10104) (h2 : hc ts ≠ 10103) (hpd : ∀ w ∈ pd, 2 ≤ stg w) (hW : (W = [] ∧ hc ts ≠ 10259) ∨ (∃ W', W = 10240 :: W') ∧ hc ts ≠ 10241) : aRun z ts (pd ++ W) op B cm E = .error (1, hp z ts) := by
  refine aRun_e (fun _ => ?_)
  have hv := stg_v (hc ts)
  have hlow : low 1 W := by
    rcases hW with ⟨w, -⟩ | ⟨⟨W', w⟩, -⟩
    · rw [w]; trivial
    · rw [w]; exact (by decide : stg 10240 < 1)
  obtain ⟨a1, a2⟩ := pop_app (s := 1) (pend := pd) (fun w hw => by have := hpd w hw; omega) hlow
  unfold aStep
  rw [if_neg (by omega), if_neg (by omega), if_neg (by omega)]
  unfold aJnt
  by_cases q : hc ts = 10105 ∨ ¬ cJ B (stg (hc ts))
  · rw [if_pos q]
  · rw [if_neg q]
    have q1 : hc ts ≠ 10105 := fun w => q (Or.inl w)
    have q2 : cJ B (stg (hc ts)) := Classical.byContradiction (fun w => q (Or.inr w))
    have hs1 : stg (hc ts) = 1 := by omega
    rw [if_pos hs1, a2]
    rcases hW with ⟨w, w2⟩ | ⟨⟨W', w⟩, w2⟩
    · rw [if_pos w, if_pos (by omega)]
    · rw [w, if_neg (by simp), if_neg w2]
theorem sim_cl {z : Nat} {ts : List Tk} {pd W : List Nat} {op B : Nat} {cm : Bool} {E : List Int32} (hB : B = 4 ∨ B = 5) (h1 : hc ts = 10241) (hpd : ∀ w ∈ pd, 2 ≤ stg w) : aRun z ts (pd ++ 10240 :: W) (op + 1 + pd.count 10105) B cm E = aRun z ts.tail W op 5 cm (E ++ pd.map nI) := by
  have hs1 : stg (hc ts) = 1 := by rw [h1]; rfl
  obtain ⟨a1, a2⟩ := pop_app (s := 1) (pend := pd) (W := 10240 :: W) (fun w hw => by have := hpd w hw; omega) (by decide : stg 10240 < 1)
  rw [aRun_s (hc_ne (by omega))]
  have e : aStep z (pd ++ 10240 :: W) (op + 1 + pd.count 10105) B cm E ts = .ok (W, op, 5, cm, E ++ pd.map nI) := by
    unfold aStep
    rw [if_neg (by omega), if_neg (by omega), if_neg (by omega)]
    unfold aJnt
    rw [if_neg (by
      intro w
      rcases w with w | w
      · omega
      · rw [hs1] at w
        exact w (cJ_lo hB (by decide))), if_pos hs1, a1, a2, if_neg (by simp), if_pos h1, Nat.add_sub_cancel, Nat.add_sub_cancel]
    rfl
  rw [e]
  rfl
set_option maxHeartbeats 1000000 in
theorem sim_T {z : Nat} : ∀ (n dp : Nat) (ts : List Tk) (W : List Nat) (cm : Bool) (E : List Int32), dp ≤ 8 →
    (3 * ts.length + 1 ≤ n → low 5 W → SimT z 0 (pT z n 0 dp ts) ts [] W dp 0 cm E 4) ∧
    (3 * ts.length + 2 ≤ n → low 3 W → SimT z 1 (pT z n 1 dp ts) ts [] W dp 0 cm E 3) ∧
    (3 * ts.length + 3 ≤ n → low 2 W → SimT z 2 (pT z n 2 dp ts) ts [] W dp 0 cm E 2) ∧
    (∀ pend B, 3 * ts.length + 1 ≤ n → low 3 W → (∀ w ∈ pend, 3 ≤ stg w) → ((B = 4 ∧ noAr (hc ts)) ∨ B = 5) → SimT z 1 (pT z n 3 dp ts) ts pend W dp B cm E 3) ∧
    (∀ pend B, 3 * ts.length + 1 ≤ n → low 2 W → (∀ w ∈ pend, 2 ≤ stg w) → ((B = 4 ∧ noAr (hc ts)) ∨ B = 5) → hc ts ≠ 10104 → SimT z 2 (pT z n 4 dp ts) ts pend W dp B cm E 2)
  | 0, _, _, _, _, _, _ => ⟨fun h => by omega, fun h => by omega, fun h => by omega, fun _ _ h => by omega, fun _ _ h => by omega⟩
  | n + 1, dp, ts, W, cm, E, hdp => by
    refine ⟨fun hn hl => ?_, fun hn hl => ?_, fun hn hl => ?_, fun pend B hn hl hpd hB => ?_, fun pend B hn hl hpd hB h4 => ?_⟩
    · -- one test
      unfold pT
      rw [if_pos rfl]
      have op0 : ∀ (c : Nat), (c = 10105 ∨ c = 10240) → hc ts = c → dp ≠ 8 → aRun z ts W dp 0 cm E = aRun z ts.tail (c :: W) (dp + 1) 0 false E := by
        intro c hc9 hc1 h8
        rw [aRun_s (hc_ne (by omega))]
        have e : aStep z W dp 0 cm E ts = .ok (hc ts :: W, dp + 1, 0, false, E) := by
          unfold aStep
          rw [if_pos rfl, if_pos (by rw [hc1]; exact hc9), if_neg (by omega)]
        rw [e, hc1]
        rfl
      have op8 : ∀ (c : Nat), (c = 10105 ∨ c = 10240) → hc ts = c → dp = 8 → aRun z ts W dp 0 cm E = .error (3, hp z ts) := by
        intro c hc9 hc1 h8
        rw [aRun_s (hc_ne (by omega))]
        have e : aStep z W dp 0 cm E ts = .error (3, hp z ts) := by
          unfold aStep
          rw [if_pos rfl, if_pos (by rw [hc1]; exact hc9), if_pos (by omega)]
        rw [e]
      by_cases z1 : hc ts = 10105
      · rw [if_pos z1]
        have hlt := hc_len (ts := ts) (by omega)
        by_cases z8 : dp = 8
        · rw [if_pos z8]
          exact ⟨fun e h => (by cases h; exact op8 10105 (Or.inl rfl) z1 z8), fun o ts' h => (by cases h)⟩
        · rw [if_neg z8]
          obtain ⟨i1, i2⟩ := (sim_T n (dp + 1) ts.tail (10105 :: W) false E (by omega)).1 (by omega) (by decide : stg 10105 < 5)
          have st := op0 10105 (Or.inl rfl) z1 z8
          refine ⟨fun e h => ?_, fun o ts' h => ?_⟩
          · show aRun z ts W dp 0 cm E = _
            rw [st]
            cases eu : pT z n 0 (dp + 1) ts.tail with
            | error er => rw [eu] at h; cases h; exact i1 _ eu
            | ok pr => rw [eu] at h; cases h
          · cases eu : pT z n 0 (dp + 1) ts.tail with
            | error er => rw [eu] at h; cases h
            | ok pr =>
              obtain ⟨o1, ts1⟩ := pr
              rw [eu] at h
              cases h
              obtain ⟨pd, E', B, cm', a1, a2, a3, a4, a5, a6⟩ := i2 _ _ eu
              refine ⟨pd ++ [10105], E', B, cm', fun w hw => ?_, a2, ?_, ?_, fun w => by omega, fun w => by omega⟩
              · rcases List.mem_append.mp hw with hw | hw
                · exact a1 w hw
                · rw [List.mem_singleton.mp hw]; decide
              · show aRun z ts W dp 0 cm E = _
                rw [st]
                have a3 : aRun z ts.tail (10105 :: W) (dp + 1) 0 false E = aRun z ts' (pd ++ 10105 :: W) (dp + 1 + pd.count 10105) B cm' (E ++ E') := a3
                rw [a3, List.count_append, List.count_singleton_self, List.append_assoc]
                rw [show dp + 1 + pd.count 10105 = dp + (pd.count 10105 + 1) by omega]
                rfl
              · rw [List.map_append, ← List.append_assoc, a4, encs_app]
                rfl
      · rw [if_neg z1]
        by_cases z2 : hc ts = 10240
        · rw [if_pos z2]
          have hlt := hc_len (ts := ts) (by omega)
          by_cases z8 : dp = 8
          · rw [if_pos z8]
            exact ⟨fun e h => (by cases h; exact op8 10240 (Or.inr rfl) z2 z8), fun o ts' h => (by cases h)⟩
          · rw [if_neg z8]
            obtain ⟨i1, i2⟩ := (sim_T n (dp + 1) ts.tail (10240 :: W) false E (by omega)).2.2.1 (by omega) (by decide : stg 10240 < 2)
            have st := op0 10240 (Or.inr rfl) z2 z8
            cases eu : pT z n 2 (dp + 1) ts.tail with
            | error er =>
              refine ⟨fun e h => ?_, fun o ts' h => (by cases h)⟩
              show aRun z ts W dp 0 cm E = _
              rw [st]
              cases h
              exact i1 _ eu
            | ok pr =>
              obtain ⟨o1, ts1⟩ := pr
              obtain ⟨pd, E', B, cm', a1, a2, a3, a4, a5, a6⟩ := i2 _ _ eu
              have a3 : aRun z ts.tail (10240 :: W) (dp + 1) 0 false E = aRun z ts1 (pd ++ 10240 :: W) (dp + 1 + pd.count 10105) B cm' (E ++ E') := a3
              simp only
              by_cases z3 : hc ts1 = 10241
              · rw [if_pos z3]
                refine ⟨fun e h => (by cases h), fun o ts' h => ?_⟩
                cases h
                refine ⟨[], E' ++ pd.map nI, 5, cm', fun w hw => (by cases hw), Or.inr rfl, ?_, ?_, fun w => by omega, fun w => by omega⟩
                · show aRun z ts W dp 0 cm E = _
                  rw [st, a3, sim_cl (by omega) z3 a1, List.append_assoc]
                  rfl
                · rw [List.map_nil, List.append_nil, a4]
                  rfl
              · rw [if_neg z3]
                refine ⟨fun e h => ?_, fun o ts' h => (by cases h)⟩
                cases h
                show aRun z ts W dp 0 cm E = _
                rw [st, a3]
                exact sim_no a2 (a5 (by decide)) (a6 (by decide)) a1 (Or.inr ⟨⟨W, rfl⟩, z3⟩)
        · rw [if_neg z2]
          have hst : aRun z ts W dp 0 cm E = aRun z ts W dp 0 false E := by
            by_cases hne : ts = []
            · rw [hne]; rfl
            · rw [aRun_s hne, aRun_s hne]
              have e : aStep z W dp 0 cm E ts = aStep z W dp 0 false E ts := by
                unfold aStep
                rw [if_pos rfl, if_pos rfl]
              rw [e]
          obtain ⟨c1, c2⟩ := sim_c (z := z) (n := n) (ts := ts) (W := W) (op := dp) (aw := 0) (E := E) (by omega) hl (fun _ => by
            unfold aStep
            rw [if_pos rfl, if_neg (fun w => w.elim z1 z2)])
          refine ⟨fun e h => ?_, fun o ts' h => ?_⟩
          · show aRun z ts W dp 0 cm E = _
            rw [hst]
            exact c1 e h
          · obtain ⟨pd, E', a1, a2, a3, a4⟩ := c2 o ts' h
            refine ⟨pd, E', 4, true, fun w hw => by have := a1 w hw; omega, Or.inl ⟨rfl, a4⟩, ?_, a3, fun w => by omega, fun w => by omega⟩
            show aRun z ts W dp 0 cm E = _
            rw [hst, a2, cnt0 a1 (by decide)]
            rfl
    · -- every
      unfold pT
      rw [if_neg (by decide), if_pos rfl]
      obtain ⟨i1, i2⟩ := (sim_T n dp ts W cm E hdp).1 (by omega) (low_mono hl (by decide))
      cases eu : pT z n 0 dp ts with
      | error er => exact ⟨fun e h => (by cases h; exact i1 _ eu), fun o ts' h => (by cases h)⟩
      | ok pr =>
        obtain ⟨o1, ts1⟩ := pr
        have hl1 := pT_len _ _ _ _ _ _ eu
        obtain ⟨p1, E1, B1, cm1, b1, b2, b3, b4, b5, b6⟩ := i2 _ _ eu
        obtain ⟨j1, j2⟩ := (sim_T n dp ts1 W cm1 (E ++ E1) hdp).2.2.2.1 p1 B1 (by omega) hl (fun w hw => by have := b1 w hw; omega) b2
        cases ep : pT z n 3 dp ts1 with
        | error er =>
          refine ⟨fun e h => ?_, fun o ts' h => ?_⟩
          · simp only [ep] at h
            cases h
            rw [b3]
            exact j1 _ ep
          · simp only [ep] at h
            cases h
        | ok pr =>
          obtain ⟨o2, ts2⟩ := pr
          refine ⟨fun e h => ?_, fun o ts' h => ?_⟩
          · simp only [ep] at h
            cases h
          · simp only [ep] at h
            cases h
            obtain ⟨pd, E', B, cm', a1, a2, a3, a4, a5, a6⟩ := j2 _ _ ep
            refine ⟨pd, E1 ++ E', B, cm', a1, a2, ?_, ?_, a5, a6⟩
            · rw [b3, a3, List.append_assoc]
            · rw [List.append_assoc, a4, ← List.append_assoc, b4, encs_app, List.append_assoc]
    · -- any
      unfold pT
      rw [if_neg (by decide), if_neg (by decide), if_pos rfl]
      obtain ⟨i1, i2⟩ := (sim_T n dp ts W cm E hdp).2.1 (by omega) (low_mono hl (by decide))
      cases eu : pT z n 1 dp ts with
      | error er => exact ⟨fun e h => (by cases h; exact i1 _ eu), fun o ts' h => (by cases h)⟩
      | ok pr =>
        obtain ⟨o1, ts1⟩ := pr
        have hl1 := pT_len _ _ _ _ _ _ eu
        obtain ⟨p1, E1, B1, cm1, b1, b2, b3, b4, b5, b6⟩ := i2 _ _ eu
        obtain ⟨j1, j2⟩ := (sim_T n dp ts1 W cm1 (E ++ E1) hdp).2.2.2.2 p1 B1 (by omega) hl (fun w hw => by have := b1 w hw; omega) b2 (b5 (by decide))
        cases ep : pT z n 4 dp ts1 with
        | error er =>
          refine ⟨fun e h => ?_, fun o ts' h => ?_⟩
          · simp only [ep] at h
            cases h
            rw [b3]
            exact j1 _ ep
          · simp only [ep] at h
            cases h
        | ok pr =>
          obtain ⟨o2, ts2⟩ := pr
          refine ⟨fun e h => ?_, fun o ts' h => ?_⟩
          · simp only [ep] at h
            cases h
          · simp only [ep] at h
            cases h
            obtain ⟨pd, E', B, cm', a1, a2, a3, a4, a5, a6⟩ := j2 _ _ ep
            refine ⟨pd, E1 ++ E', B, cm', a1, a2, ?_, ?_, a5, a6⟩
            · rw [b3, a3, List.append_assoc]
            · rw [List.append_assoc, a4, ← List.append_assoc, b4, encs_app, List.append_assoc]
    · -- and what follows
      unfold pT
      rw [if_neg (by decide), if_neg (by decide), if_neg (by decide), if_pos rfl]
      by_cases z1 : hc ts = 10104
      · rw [if_pos z1]
        have hlt := hc_len (ts := ts) (by omega)
        have j := sim_j (z := z) (op := dp) (E := E) (cm := cm) (s := 3) (ts := ts) (by rw [z1]; rfl) (by decide) (by decide) (by omega : B = 4 ∨ B = 5) hpd hl
        rw [z1] at j
        obtain ⟨i1, i2⟩ := (sim_T n dp ts.tail (10104 :: W) cm (E ++ pend.map nI) hdp).1 (by omega) (by decide : stg 10104 < 5)
        cases eu : pT z n 0 dp ts.tail with
        | error er =>
          refine ⟨fun e h => ?_, fun o ts' h => (by cases h)⟩
          cases h
          rw [j]
          exact i1 _ eu
        | ok pr =>
          obtain ⟨o1, ts1⟩ := pr
          have hl1 := pT_len _ _ _ _ _ _ eu
          obtain ⟨p1, E1, B1, cm1, b1, b2, b3, b4, b5, b6⟩ := i2 _ _ eu
          have b3 : aRun z ts.tail (10104 :: W) dp 0 cm (E ++ pend.map nI) = aRun z ts1 (p1 ++ 10104 :: W) (dp + p1.count 10105) B1 cm1 (E ++ pend.map nI ++ E1) := b3
          have ec : dp + p1.count 10105 = dp + (p1 ++ [10104]).count 10105 := by rw [List.count_append]; rfl
          rw [ec, show p1 ++ 10104 :: W = (p1 ++ [10104]) ++ W by simp] at b3
          obtain ⟨k1, k2⟩ := (sim_T n dp ts1 W cm1 (E ++ pend.map nI ++ E1) hdp).2.2.2.1 (p1 ++ [10104]) B1 (by omega) hl (fun w hw => by
            rcases List.mem_append.mp hw with hw | hw
            · have := b1 w hw
              omega
            · rw [List.mem_singleton.mp hw]; decide) b2
          cases ep : pT z n 3 dp ts1 with
          | error er =>
            refine ⟨fun e h => ?_, fun o ts' h => ?_⟩
            · simp only [ep] at h
              cases h
              rw [j, b3]
              exact k1 _ ep
            · simp only [ep] at h
              cases h
          | ok pr =>
            obtain ⟨o2, ts2⟩ := pr
            refine ⟨fun e h => ?_, fun o ts' h => ?_⟩
            · simp only [ep] at h
              cases h
            · simp only [ep] at h
              cases h
              obtain ⟨pd, E', B, cm', a1, a2, a3, a4, a5, a6⟩ := k2 _ _ ep
              refine ⟨pd, pend.map nI ++ E1 ++ E', B, cm', a1, a2, ?_, ?_, a5, a6⟩
              · rw [j, b3, a3]
                simp
              · have et : encC (21, (0 : Int32)) = [nI 10104] := rfl
                have b4 : E1 ++ p1.map nI = encs o1 := b4
                rw [List.append_assoc, a4, encs_app, encs_c, et, ← b4, List.map_append]
                simp
      · rw [if_neg z1]
        refine ⟨fun e h => (by cases h), fun o ts' h => ?_⟩
        cases h
        refine ⟨pend, [], B, cm, hpd, hB, by rw [List.append_nil], ?_, fun _ => z1, fun w => by omega⟩
        rw [show encs [] = [] from rfl, List.append_nil, List.nil_append]
    · -- or and what follows
      unfold pT
      rw [if_neg (by decide), if_neg (by decide), if_neg (by decide), if_neg (by decide)]
      by_cases z1 : hc ts = 10103
      · rw [if_pos z1]
        have hlt := hc_len (ts := ts) (by omega)
        have j := sim_j (z := z) (op := dp) (E := E) (cm := cm) (s := 2) (ts := ts) (by rw [z1]; rfl) (by decide) (by decide) (by omega : B = 4 ∨ B = 5) hpd hl
        rw [z1] at j
        obtain ⟨i1, i2⟩ := (sim_T n dp ts.tail (10103 :: W) cm (E ++ pend.map nI) hdp).2.1 (by omega) (by decide : stg 10103 < 3)
        cases eu : pT z n 1 dp ts.tail with
        | error er =>
          refine ⟨fun e h => ?_, fun o ts' h => (by cases h)⟩
          cases h
          rw [j]
          exact i1 _ eu
        | ok pr =>
          obtain ⟨o1, ts1⟩ := pr
          have hl1 := pT_len _ _ _ _ _ _ eu
          obtain ⟨p1, E1, B1, cm1, b1, b2, b3, b4, b5, b6⟩ := i2 _ _ eu
          have b3 : aRun z ts.tail (10103 :: W) dp 0 cm (E ++ pend.map nI) = aRun z ts1 (p1 ++ 10103 :: W) (dp + p1.count 10105) B1 cm1 (E ++ pend.map nI ++ E1) := b3
          have ec : dp + p1.count 10105 = dp + (p1 ++ [10103]).count 10105 := by rw [List.count_append]; rfl
          rw [ec, show p1 ++ 10103 :: W = (p1 ++ [10103]) ++ W by simp] at b3
          obtain ⟨k1, k2⟩ := (sim_T n dp ts1 W cm1 (E ++ pend.map nI ++ E1) hdp).2.2.2.2 (p1 ++ [10103]) B1 (by omega) hl (fun w hw => by
            rcases List.mem_append.mp hw with hw | hw
            · have := b1 w hw
              omega
            · rw [List.mem_singleton.mp hw]; decide) b2 (b5 (by decide))
          cases ep : pT z n 4 dp ts1 with
          | error er =>
            refine ⟨fun e h => ?_, fun o ts' h => ?_⟩
            · simp only [ep] at h
              cases h
              rw [j, b3]
              exact k1 _ ep
            · simp only [ep] at h
              cases h
          | ok pr =>
            obtain ⟨o2, ts2⟩ := pr
            refine ⟨fun e h => ?_, fun o ts' h => ?_⟩
            · simp only [ep] at h
              cases h
            · simp only [ep] at h
              cases h
              obtain ⟨pd, E', B, cm', a1, a2, a3, a4, a5, a6⟩ := k2 _ _ ep
              refine ⟨pd, pend.map nI ++ E1 ++ E', B, cm', a1, a2, ?_, ?_, a5, a6⟩
              · rw [j, b3, a3]
                simp
              · have et : encC (22, (0 : Int32)) = [nI 10103] := rfl
                have b4 : E1 ++ p1.map nI = encs o1 := b4
                rw [List.append_assoc, a4, encs_app, encs_c, et, ← b4, List.map_append]
                simp
      · rw [if_neg z1]
        refine ⟨fun e h => (by cases h), fun o ts' h => ?_⟩
        cases h
        refine ⟨pend, [], B, cm, hpd, hB, by rw [List.append_nil], ?_, fun _ => h4, fun _ => z1⟩
        rw [show encs [] = [] from rfl, List.append_nil, List.nil_append]
/-- a condition up to its ; -/
def pCd (z n : Nat) (ts : List Tk) : PR := match pT z n 2 0 ts with
  | .error e => .error e
  | .ok (o, ts1) => if hc ts1 = 10259 then .ok (o, ts1) else .error (1, hp z ts1)
theorem sim_all {z n : Nat} {ts : List Tk} {cm : Bool} (hn : 3 * ts.length + 3 ≤ n) : (∀ e, pCd z n ts = .error e → aRun z ts [] 0 0 cm [] = .error e) ∧ ∀ o ts', pCd z n ts = .ok (o, ts') → ∃ cm', aRun z ts [] 0 0 cm [] = .ok (([], 0, 6, cm', encs o), ts') := by
  obtain ⟨i1, i2⟩ := (sim_T (z := z) n 0 ts [] cm [] (by decide)).2.2.1 hn trivial
  unfold pCd
  cases eu : pT z n 2 0 ts with
  | error er => exact ⟨fun e h => (by cases h; exact i1 _ eu), fun o ts' h => (by cases h)⟩
  | ok pr =>
    obtain ⟨o1, ts1⟩ := pr
    obtain ⟨pd, E', B, cm', a1, a2, a3, a4, a5, a6⟩ := i2 _ _ eu
    have a3 : aRun z ts [] 0 0 cm [] = aRun z ts1 (pd ++ []) (0 + pd.count 10105) B cm' E' := a3
    simp only
    by_cases z1 : hc ts1 = 10259
    · rw [if_pos z1]
      refine ⟨fun e h => (by cases h), fun o ts' h => ?_⟩
      cases h
      refine ⟨cm', ?_⟩
      have hs1 : stg (hc ts1) = 1 := by rw [z1]; rfl
      obtain ⟨c1, c2⟩ := pop_app (s := 1) (pend := pd) (W := []) (fun w hw => by have := a1 w hw; omega) trivial
      rw [a3, aRun_s (hc_ne (by omega))]
      have e : aStep z (pd ++ []) (0 + pd.count 10105) B cm' E' ts1 = .ok ([], 0, 6, cm', encs o1) := by
        unfold aStep
        rw [if_neg (by omega), if_neg (by omega), if_neg (by omega)]
        unfold aJnt
        rw [if_neg (by
          intro w
          rcases w with w | w
          · omega
          · rw [hs1] at w
            exact w (cJ_lo (by omega) (by decide))), if_pos hs1, c1, c2, if_pos rfl, if_neg (by omega), Nat.add_sub_cancel, a4]
        rfl
      rw [e]
      rfl
    · rw [if_neg z1]
      refine ⟨fun e h => ?_, fun o ts' h => (by cases h)⟩
      cases h
      rw [a3]
      exact sim_no a2 (a5 (by decide)) (a6 (by decide)) a1 (Or.inl ⟨rfl, z1⟩)
