/-! text: sums, comparisons, tests, every, any read alike -/
theorem sim_sl {z : Nat} : ∀ (n : Nat) (ts : List Tk) (pend W : List Nat) (op : Nat) (cm : Bool) (E : List Int32), ts.length < n → (∀ w ∈ pend, 6 ≤ stg w) → low 6 W → hc ts ≠ 10242 → hc ts ≠ 10247 → (∀ e, pSumL z n ts = .error e → aRun z ts (pend ++ W) op (bh cm) cm E = .error e) ∧ ∀ o ts', pSumL z n ts = .ok (o, ts') → ∃ (pd : List Nat) (E' : List Int32), (∀ w ∈ pd, 6 ≤ stg w) ∧ aRun z ts (pend ++ W) op (bh cm) cm E = aRun z ts' (pd ++ W) op (bh cm) cm (E ++ E') ∧ E' ++ pd.map nI = pend.map nI ++ encs o ∧ (hc ts' ≠ 10242 ∧ hc ts' ≠ 10247 ∧ hc ts' ≠ 10243 ∧ hc ts' ≠ 10245)
  | 0, _, _, _, _, _, _, h, _, _, _, _ => absurd h (Nat.not_lt_zero _)
  | n + 1, ts, pend, W, op, cm, E, hn, hpd, hl, q1, q2 => by
    have hc0 := cnt0 hpd (by decide)
    have hcj : cJ (bh cm) 6 := by cases cm <;> decide
    unfold pSumL
    by_cases z1 : hc ts = 10243 ∨ hc ts = 10245
    · have hlt := hc_len (ts := ts) (by omega)
      have hs6 : stg (hc ts) = 6 := by rcases z1 with w | w <;> rw [w] <;> rfl
      have hc7 : ¬ hc ts = 10247 := q2
      rw [if_pos z1]
      have j := aJ (z := z) (op := op) (E := E) (cm := cm) (s := 6) hs6 (by decide) (by omega) hcj (bh_3 cm) hpd hl
      rw [hc0, Nat.add_zero, if_neg hc7] at j
      have j : aRun z ts (pend ++ W) op (bh cm) cm E = aRun z ts.tail (hc ts :: W) op 1 cm (E ++ pend.map nI) := j
      rw [j]
      obtain ⟨u1, u2⟩ := sim_p (z := z) (n := n) (ts := ts.tail) (W := hc ts :: W) (op := op) (aw := 1) (cm := cm) (E := E ++ pend.map nI) (by omega) (show stg (hc ts) < 7 by omega) (fun _ => rfl)
      cases eu : pProd z n ts.tail with
      | error er => exact ⟨fun e h => (by cases h; exact u1 _ eu), fun o ts' h => (by cases h)⟩
      | ok pr =>
        obtain ⟨o1, ts1⟩ := pr
        have hl1 := pProd_len eu
        obtain ⟨p1, E1, b1, b2, b3, b4, b5⟩ := u2 o1 ts1 eu
        rw [b2]
        have epd : p1 ++ hc ts :: W = (p1 ++ [hc ts]) ++ W := by simp
        rw [epd]
        obtain ⟨v1, v2⟩ := sim_sl n ts1 (p1 ++ [hc ts]) W op cm (E ++ pend.map nI ++ E1) (by omega) (fun w hw => by
          rcases List.mem_append.mp hw with hw | hw
          · have := b1 w hw
            omega
          · rw [List.mem_singleton.mp hw]
            omega) hl b4 b5
        cases ep : pSumL z n ts1 with
        | error er =>
          refine ⟨fun e h => ?_, fun o ts' h => ?_⟩
          · simp only [ep] at h
            cases h
            exact v1 _ ep
          · simp only [ep] at h
            cases h
        | ok pr =>
          obtain ⟨o2, ts2⟩ := pr
          refine ⟨fun e h => ?_, fun o ts' h => ?_⟩
          · simp only [ep] at h
            cases h
          · simp only [ep] at h
            cases h
            obtain ⟨pd, E', a1, a2, a3, a4⟩ := v2 _ _ ep
            refine ⟨pd, pend.map nI ++ E1 ++ E', a1, ?_, ?_, a4⟩
            · rw [← List.append_assoc, ← List.append_assoc]
              exact a2
            · have et : encC (if hc ts = 10243 then 13 else 14, (0 : Int32)) = [nI (hc ts)] := by
                rcases z1 with w | w
                · rw [if_pos w, w]; rfl
                · rw [if_neg (by omega), w]; rfl
              rw [List.append_assoc, a3, encs_app, encs_c, et, ← b3, List.map_append]
              simp
    · rw [if_neg z1]
      refine ⟨fun e h => (by cases h), fun o ts' h => ?_⟩
      cases h
      refine ⟨pend, [], hpd, by rw [List.append_nil], ?_, q1, q2, fun w => z1 (Or.inl w), fun w => z1 (Or.inr w)⟩
      rw [show encs [] = [] from rfl, List.append_nil, List.nil_append]
theorem sim_s {z n : Nat} {ts : List Tk} {W : List Nat} {op aw : Nat} {cm : Bool} {E : List Int32} (hn : ts.length ≤ n) (hl : low 6 W) (hst : ts ≠ [] → aStep z W op aw cm E ts = aOpd z W op cm E ts) : (∀ e, pSum z n ts = .error e → aRun z ts W op aw cm E = .error e) ∧ ∀ o ts', pSum z n ts = .ok (o, ts') → ∃ (pd : List Nat) (E' : List Int32), (∀ w ∈ pd, 6 ≤ stg w) ∧ aRun z ts W op aw cm E = aRun z ts' (pd ++ W) op (bh cm) cm (E ++ E') ∧ E' ++ pd.map nI = encs o ∧ (hc ts' ≠ 10242 ∧ hc ts' ≠ 10247 ∧ hc ts' ≠ 10243 ∧ hc ts' ≠ 10245) := by
  obtain ⟨u1, u2⟩ := sim_p (n := n) hn (low_mono hl (by decide)) hst
  unfold pSum
  cases eu : pProd z n ts with
  | error er => exact ⟨fun e h => (by cases h; exact u1 _ eu), fun o ts' h => (by cases h)⟩
  | ok pr =>
    obtain ⟨o1, ts1⟩ := pr
    have hl1 := pProd_len eu
    obtain ⟨p1, E1, b1, b2, b3, b4, b5⟩ := u2 o1 ts1 eu
    rw [b2]
    obtain ⟨v1, v2⟩ := sim_sl (z := z) n ts1 p1 W op cm (E ++ E1) (by omega) (fun w hw => by have := b1 w hw; omega) hl b4 b5
    cases ep : pSumL z n ts1 with
    | error er =>
      refine ⟨fun e h => ?_, fun o ts' h => ?_⟩
      · simp only [ep] at h
        cases h
        exact v1 _ ep
      · simp only [ep] at h
        cases h
    | ok pr =>
      obtain ⟨o2, ts2⟩ := pr
      refine ⟨fun e h => ?_, fun o ts' h => ?_⟩
      · simp only [ep] at h
        cases h
      · simp only [ep] at h
        cases h
        obtain ⟨pd, E', a1, a2, a3, a4⟩ := v2 _ _ ep
        refine ⟨pd, E1 ++ E', a1, ?_, ?_, a4⟩
        · rw [← List.append_assoc]
          exact a2
        · rw [List.append_assoc, a3, encs_app, ← b3, List.append_assoc]
abbrev noAr (t : Nat) : Prop := t ≠ 10242 ∧ t ≠ 10247 ∧ t ≠ 10243 ∧ t ≠ 10245
theorem stg_v (t : Nat) : (stg t = 1 ∧ (t = 10241 ∨ t = 10259)) ∨ (stg t = 2 ∧ t = 10103) ∨ (stg t = 3 ∧ t = 10104) ∨ (stg t = 4 ∧ t = 10105) ∨ (stg t = 5 ∧ (t = 10260 ∨ t = 10261 ∨ t = 10262)) ∨ (stg t = 6 ∧ (t = 10243 ∨ t = 10245)) ∨ (stg t = 7 ∧ (t = 10242 ∨ t = 10247)) ∨ (stg t = 0) := by
  unfold stg
  repeat' split
  all_goals omega
theorem sim_c {z n : Nat} {ts : List Tk} {W : List Nat} {op aw : Nat} {E : List Int32} (hn : ts.length ≤ n) (hl : low 5 W) (hst : ts ≠ [] → aStep z W op aw false E ts = aOpd z W op false E ts) : (∀ e, pCmp z n ts = .error e → aRun z ts W op aw false E = .error e) ∧ ∀ o ts', pCmp z n ts = .ok (o, ts') → ∃ (pd : List Nat) (E' : List Int32), (∀ w ∈ pd, 5 ≤ stg w) ∧ aRun z ts W op aw false E = aRun z ts' (pd ++ W) op 4 true (E ++ E') ∧ E' ++ pd.map nI = encs o ∧ noAr (hc ts') := by
  obtain ⟨u1, u2⟩ := sim_s (n := n) hn (low_mono hl (by decide)) hst
  unfold pCmp
  cases eu : pSum z n ts with
  | error er => exact ⟨fun e h => (by cases h; exact u1 _ eu), fun o ts' h => (by cases h)⟩
  | ok pr =>
    obtain ⟨o1, ts1⟩ := pr
    have hl1 := pSum_len eu
    obtain ⟨p1, E1, b1, b2, b3, b4⟩ := u2 o1 ts1 eu
    rw [b2]
    simp only
    by_cases z1 : hc ts1 = 10260 ∨ hc ts1 = 10261 ∨ hc ts1 = 10262
    · have hlt := hc_len (ts := ts1) (by omega)
      rw [if_pos z1]
      have hs5 : stg (hc ts1) = 5 := by rcases z1 with w | w | w <;> rw [w] <;> rfl
      have hp5 : ∀ w ∈ p1, 5 ≤ stg w := fun w hw => by have := b1 w hw; omega
      have j := aJ (z := z) (ts := ts1) (op := op) (E := E ++ E1) (cm := false) (aw := 3) (s := 5) hs5 (by decide) (by omega) (by decide) (by decide) hp5 hl
      rw [cnt0 hp5 (by decide), Nat.add_zero, if_neg (show ¬ hc ts1 = 10247 by omega)] at j
      have j : aRun z ts1 (p1 ++ W) op 3 false (E ++ E1) = aRun z ts1.tail (hc ts1 :: W) op 1 true (E ++ E1 ++ p1.map nI) := j
      rw [show bh false = 3 from rfl, j]
      obtain ⟨v1, v2⟩ := sim_s (z := z) (n := n) (ts := ts1.tail) (W := hc ts1 :: W) (op := op) (aw := 1) (cm := true) (E := E ++ E1 ++ p1.map nI) (by omega) (show stg (hc ts1) < 6 by omega) (fun _ => rfl)
      cases ep : pSum z n ts1.tail with
      | error er => exact ⟨fun e h => (by cases h; exact v1 _ ep), fun o ts' h => (by cases h)⟩
      | ok pr =>
        obtain ⟨o2, ts2⟩ := pr
        refine ⟨fun e h => (by cases h), fun o ts' h => ?_⟩
        cases h
        obtain ⟨p2, E2, a1, a2, a3, a4⟩ := v2 _ _ ep
        refine ⟨p2 ++ [hc ts1], E1 ++ p1.map nI ++ E2, fun w hw => ?_, ?_, ?_, a4⟩
        · rcases List.mem_append.mp hw with hw | hw
          · have := a1 w hw
            omega
          · rw [List.mem_singleton.mp hw]
            omega
        · rw [a2]
          simp
          rfl
        · have et : encC (hc ts1 - 10243, (0 : Int32)) = [nI (hc ts1)] := by rcases z1 with w | w | w <;> rw [w] <;> rfl
          rw [encs_app, encs_app, encs_c, et, ← b3, ← a3, List.map_append]
          simp [encs]
    · rw [if_neg z1]
      refine ⟨fun e h => ?_, fun o ts' h => (by cases h)⟩
      cases h
      refine aRun_e (fun _ => ?_)
      unfold aStep
      rw [if_neg (by decide), if_neg (by decide), if_neg (by decide)]
      unfold aJnt
      rw [if_pos]
      right
      intro w
      have hv := stg_v (hc ts1)
      have w : cJ 3 (stg (hc ts1)) := w
      omega
/-- the four forms -/
def SimT (z k : Nat) (r : PR) (ts : List Tk) (pend W : List Nat) (op aw : Nat) (cm : Bool) (E : List Int32) (L : Nat) : Prop := (∀ e, r = .error e → aRun z ts (pend ++ W) (op + pend.count 10105) aw cm E = .error e) ∧ ∀ o ts', r = .ok (o, ts') → ∃ (pd : List Nat) (E' : List Int32) (B : Nat) (cm' : Bool), (∀ w ∈ pd, L ≤ stg w) ∧ ((B = 4 ∧ noAr (hc ts')) ∨ B = 5) ∧ aRun z ts (pend ++ W) (op + pend.count 10105) aw cm E = aRun z ts' (pd ++ W) (op + pd.count 10105) B cm' (E ++ E') ∧ E' ++ pd.map nI = pend.map nI ++ encs o ∧ (1 ≤ k → hc ts' ≠ 10104) ∧ (2 ≤ k → hc ts' ≠ 10103)
theorem cJ_lo {B s : Nat} (hB : B = 4 ∨ B = 5) (h : 1 ≤ s ∧ s < 5) : cJ B s := by
  rcases hB with rfl | rfl
  · exact Or.inr (Or.inl ⟨rfl, h.1, by omega⟩)
  · exact Or.inr (Or.inr ⟨by decide, by decide, h.1, h.2⟩)
