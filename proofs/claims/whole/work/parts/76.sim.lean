/-! text: conditions read by strengths, with what waits in a row: it comes to the same -/
def stg (t : Nat) : Nat := if t = 10241 ∨ t = 10259 then 1 else if t = 10103 then 2 else if t = 10104 then 3 else if t = 10105 then 4 else if t = 10260 ∨ t = 10261 ∨ t = 10262 then 5 else if t = 10243 ∨ t = 10245 then 6 else if t = 10242 ∨ t = 10247 then 7 else 0
/-- what waits (the latest first), how many are open, what is awaited, was there a comparison, the steps -/
abbrev Cf : Type := List Nat × Nat × Nat × Bool × List Int32
def aOpd (z : Nat) (W : List Nat) (op : Nat) (cm : Bool) (E : List Int32) (ts : List Tk) : Except (Nat × Nat) Cf := if hc ts = 10002 then .ok (W, op, if cm = true then 4 else 3, cm, E ++ [nI (nv (hd ts) 0)]) else if 10106 ≤ hc ts ∧ hc ts < 10112 then .ok (W, op, if cm = true then 4 else 3, cm, E ++ [nI (hc ts)]) else .error (1, hp z ts)
abbrev cJ (aw s : Nat) : Prop := (aw = 3 ∧ 5 ≤ s) ∨ (aw = 4 ∧ 1 ≤ s ∧ s ≠ 5) ∨ (aw ≠ 3 ∧ aw ≠ 4 ∧ 1 ≤ s ∧ s < 5)
def popP (s : Nat) (W : List Nat) : List Nat := W.takeWhile (fun w => decide (s ≤ stg w))
def popR (s : Nat) (W : List Nat) : List Nat := W.dropWhile (fun w => decide (s ≤ stg w))
def aJnt (z : Nat) (W : List Nat) (op aw : Nat) (cm : Bool) (E : List Int32) (ts : List Tk) : Except (Nat × Nat) Cf :=
  if hc ts = 10105 ∨ ¬ cJ aw (stg (hc ts)) then .error (1, hp z ts)
  else if stg (hc ts) = 1 then (if popR 1 W = [] then (if hc ts = 10241 then .error (1, hp z ts) else .ok ([], op - (popP 1 W).count 10105, 6, cm, E ++ (popP 1 W).map nI)) else (if hc ts = 10241 then .ok ((popR 1 W).tail, op - (popP 1 W).count 10105 - 1, 5, cm, E ++ (popP 1 W).map nI) else .error (1, hp z ts)))
  else .ok (hc ts :: popR (stg (hc ts)) W, op - (popP (stg (hc ts)) W).count 10105, (if stg (hc ts) < 5 then 0 else if hc ts = 10247 then 2 else 1), (if stg (hc ts) = 5 then true else cm), E ++ (popP (stg (hc ts)) W).map nI)
def aStep (z : Nat) (W : List Nat) (op aw : Nat) (cm : Bool) (E : List Int32) (ts : List Tk) : Except (Nat × Nat) Cf :=
  if aw = 0 then (if hc ts = 10105 ∨ hc ts = 10240 then (if 8 ≤ op then .error (3, hp z ts) else .ok (hc ts :: W, op + 1, 0, false, E)) else aOpd z W op false E ts)
  else if aw = 1 then aOpd z W op cm E ts
  else if aw = 2 then (if hc ts ≠ 10002 then .error (1, hp z ts) else if nv (hd ts) 0 = 0 then .error (2, hp z ts) else aOpd z W op cm E ts)
  else aJnt z W op aw cm E ts
def aRun (z : Nat) : List Tk → List Nat → Nat → Nat → Bool → List Int32 → Except (Nat × Nat) (Cf × List Tk)
  | [], _, _, _, _, _ => .error (1, z)
  | t :: r, W, op, aw, cm, E => match aStep z W op aw cm E (t :: r) with
    | .error e => .error e
    | .ok (W', op', aw', cm', E') => if aw' = 6 then .ok ((W', op', aw', cm', E'), t :: r) else aRun z r W' op' aw' cm' E'
theorem hc_ne {ts : List Tk} (h : hc ts ≠ 10000) : ts ≠ [] := fun w => h (by rw [w]; rfl)
theorem aRun_s {z : Nat} {ts : List Tk} (h : ts ≠ []) (W : List Nat) (op aw : Nat) (cm : Bool) (E : List Int32) : aRun z ts W op aw cm E = match aStep z W op aw cm E ts with
    | .error e => .error e
    | .ok (W', op', aw', cm', E') => if aw' = 6 then .ok ((W', op', aw', cm', E'), ts) else aRun z ts.tail W' op' aw' cm' E' := by
  cases ts with
  | nil => exact absurd rfl h
  | cons t r => rfl
/-- what can't stand there -/
theorem aRun_e {z : Nat} {ts : List Tk} {W : List Nat} {op aw : Nat} {cm : Bool} {E : List Int32} (h : ts ≠ [] → aStep z W op aw cm E ts = .error (1, hp z ts)) : aRun z ts W op aw cm E = .error (1, hp z ts) := by
  cases ts with
  | nil => rfl
  | cons t r => rw [aRun_s (by simp), h (by simp)]
def low (s : Nat) (W : List Nat) : Prop := match W with
  | [] => True
  | w :: _ => stg w < s
theorem low_mono {s t : Nat} {W : List Nat} (h : low s W) (hst : s ≤ t) : low t W := by
  cases W with
  | nil => trivial
  | cons w W => exact Nat.lt_of_lt_of_le h hst
theorem pop_app {s : Nat} : ∀ {pend W : List Nat}, (∀ w ∈ pend, s ≤ stg w) → low s W → popP s (pend ++ W) = pend ∧ popR s (pend ++ W) = W
  | [], [], _, _ => ⟨rfl, rfl⟩
  | [], w :: W, _, h => by
    have h : stg w < s := h
    unfold popP popR
    simp only [List.nil_append, List.takeWhile_cons, List.dropWhile_cons, decide_eq_true_eq]
    rw [if_neg (by omega), if_neg (by omega)]
    exact ⟨rfl, rfl⟩
  | p :: pend, W, h1, h2 => by
    have h3 := h1 p List.mem_cons_self
    obtain ⟨a1, a2⟩ := pop_app (pend := pend) (fun w hw => h1 w (List.mem_cons_of_mem _ hw)) h2
    unfold popP popR at *
    simp only [List.cons_append, List.takeWhile_cons, List.dropWhile_cons, decide_eq_true_eq]
    rw [if_pos h3, if_pos h3, a1, a2]
    exact ⟨rfl, rfl⟩
theorem cnt0 {s : Nat} {pend : List Nat} (h : ∀ w ∈ pend, s ≤ stg w) (hs : 4 < s) : pend.count 10105 = 0 := by
  rw [List.count_eq_zero]
  intro hm
  have := h _ hm
  have e : stg 10105 = 4 := rfl
  omega
theorem encs_app (a b : List Op) : encs (a ++ b) = encs a ++ encs b := by
  unfold encs
  rw [List.flatMap_append]
theorem encs_c (o : Op) (b : List Op) : encs (o :: b) = encC o ++ encs b := by
  unfold encs
  rw [List.flatMap_cons]
/-- a joint taken: what waits with as much strength is settled -/
theorem aJ {z : Nat} {ts : List Tk} {pend W : List Nat} {op aw s : Nat} {cm : Bool} {E : List Int32} (hs : stg (hc ts) = s) (h2 : 2 ≤ s) (hn : hc ts ≠ 10105) (hcj : cJ aw s) (haw : 3 ≤ aw) (hp9 : ∀ w ∈ pend, s ≤ stg w) (hl : low s W) : aRun z ts (pend ++ W) (op + pend.count 10105) aw cm E = aRun z ts.tail (hc ts :: W) op (if s < 5 then 0 else if hc ts = 10247 then 2 else 1) (if s = 5 then true else cm) (E ++ pend.map nI) := by
  have hne : hc ts ≠ 10000 := by
    intro w
    rw [w] at hs
    have : stg 10000 = 0 := rfl
    omega
  obtain ⟨a1, a2⟩ := pop_app hp9 hl
  rw [aRun_s (hc_ne hne)]
  have e : aStep z (pend ++ W) (op + pend.count 10105) aw cm E ts = .ok (hc ts :: W, op, (if s < 5 then 0 else if hc ts = 10247 then 2 else 1), (if s = 5 then true else cm), E ++ pend.map nI) := by
    unfold aStep
    rw [if_neg (by omega), if_neg (by omega), if_neg (by omega)]
    unfold aJnt
    rw [hs, if_neg (by intro w; rcases w with w | w; · exact hn w
                       · exact w hcj), if_neg (by omega), a1, a2, Nat.add_sub_cancel]
  rw [e]
  show (if (if s < 5 then 0 else if hc ts = 10247 then 2 else 1) = 6 then _ else _) = _
  rw [if_neg (by split; · decide
                 · split <;> decide)]
abbrev bh (cm : Bool) : Nat := if cm = true then 4 else 3
theorem sim_opd {z : Nat} {ts : List Tk} {W : List Nat} {op : Nat} {cm : Bool} {E : List Int32} : (∀ e, pUnit z ts = .error e → aOpd z W op cm E ts = .error e) ∧ ∀ o ts', pUnit z ts = .ok (o, ts') → aOpd z W op cm E ts = .ok (W, op, bh cm, cm, E ++ encs o) ∧ ts' = ts.tail ∧ hc ts ≠ 10000 := by
  unfold pUnit aOpd
  by_cases z1 : hc ts = 10002
  · rw [if_pos z1, if_pos z1]
    refine ⟨fun e h => (by cases h), fun o ts' h => ?_⟩
    cases h
    exact ⟨rfl, rfl, by omega⟩
  · rw [if_neg z1, if_neg z1]
    by_cases z2 : 10106 ≤ hc ts ∧ hc ts < 10112
    · rw [if_pos z2, if_pos z2]
      refine ⟨fun e h => (by cases h), fun o ts' h => ?_⟩
      cases h
      refine ⟨?_, rfl, by omega⟩
      have e : encs [(hc ts - 10105, (0 : Int32))] = [nI (hc ts)] := by
        rw [encs_c]
        unfold encC
        rw [if_neg (by show ¬ hc ts - 10105 = 0; omega), if_pos (by show hc ts - 10105 < 7; omega)]
        show [nI (10105 + (hc ts - 10105))] ++ [] = _
        rw [show 10105 + (hc ts - 10105) = hc ts by omega]
        rfl
      rw [e]
    · rw [if_neg z2, if_neg z2]
      exact ⟨fun e h => (by cases h; rfl), fun o ts' h => (by cases h)⟩
theorem bh_6 (cm : Bool) : ¬ bh cm = 6 := by cases cm <;> decide
theorem bh_3 (cm : Bool) : 3 ≤ bh cm := by cases cm <;> decide
/-- an operand -/
theorem sim_u {z : Nat} {ts : List Tk} {W : List Nat} {op aw : Nat} {cm : Bool} {E : List Int32} (hst : ts ≠ [] → aStep z W op aw cm E ts = aOpd z W op cm E ts) : (∀ e, pUnit z ts = .error e → aRun z ts W op aw cm E = .error e) ∧ ∀ o ts', pUnit z ts = .ok (o, ts') → aRun z ts W op aw cm E = aRun z ts' W op (bh cm) cm (E ++ encs o) := by
  obtain ⟨h1, h2⟩ := sim_opd (z := z) (ts := ts) (W := W) (op := op) (cm := cm) (E := E)
  by_cases hne : ts = []
  · subst hne
    exact ⟨fun e h => (by cases h; rfl), fun o ts' h => (by cases h)⟩
  · refine ⟨fun e h => ?_, fun o ts' h => ?_⟩
    · rw [aRun_s hne, hst hne, h1 e h]
    · obtain ⟨a1, a2, a3⟩ := h2 o ts' h
      rw [aRun_s hne, hst hne, a1, a2]
      show (if bh cm = 6 then _ else _) = _
      rw [if_neg (bh_6 cm)]
theorem sim_pl {z : Nat} : ∀ (n : Nat) (ts : List Tk) (pend W : List Nat) (op : Nat) (cm : Bool) (E : List Int32), ts.length < n → (∀ w ∈ pend, 7 ≤ stg w) → low 7 W → (∀ e, pProdL z n ts = .error e → aRun z ts (pend ++ W) op (bh cm) cm E = .error e) ∧ ∀ o ts', pProdL z n ts = .ok (o, ts') → ∃ (pd : List Nat) (E' : List Int32), (∀ w ∈ pd, 7 ≤ stg w) ∧ aRun z ts (pend ++ W) op (bh cm) cm E = aRun z ts' (pd ++ W) op (bh cm) cm (E ++ E') ∧ E' ++ pd.map nI = pend.map nI ++ encs o ∧ hc ts' ≠ 10242 ∧ hc ts' ≠ 10247
  | 0, _, _, _, _, _, _, h, _, _ => absurd h (Nat.not_lt_zero _)
  | n + 1, ts, pend, W, op, cm, E, hn, hpd, hl => by
    have hc0 := cnt0 hpd (by decide)
    have hcj : cJ (bh cm) 7 := by cases cm <;> decide
    unfold pProdL
    by_cases z1 : hc ts = 10242
    · have hlt := hc_len (ts := ts) (by omega)
      rw [if_pos z1]
      have j := aJ (z := z) (op := op) (E := E) (cm := cm) (s := 7) (by rw [z1]; rfl) (by decide) (by omega) hcj (bh_3 cm) hpd hl
      rw [hc0, Nat.add_zero, z1] at j
      have j : aRun z ts (pend ++ W) op (bh cm) cm E = aRun z ts.tail (10242 :: W) op 1 cm (E ++ pend.map nI) := j
      rw [j]
      obtain ⟨u1, u2⟩ := sim_u (z := z) (ts := ts.tail) (W := 10242 :: W) (op := op) (aw := 1) (cm := cm) (E := E ++ pend.map nI) (fun _ => rfl)
      cases eu : pUnit z ts.tail with
      | error er => exact ⟨fun e h => (by cases h; exact u1 _ eu), fun o ts' h => (by cases h)⟩
      | ok pr =>
        obtain ⟨o1, ts1⟩ := pr
        have hl1 := pUnit_len eu
        rw [u2 o1 ts1 eu]
        obtain ⟨v1, v2⟩ := sim_pl n ts1 [10242] W op cm (E ++ pend.map nI ++ encs o1) (by omega) (fun w hw => by rw [List.mem_singleton.mp hw]; decide) hl
        cases ep : pProdL z n ts1 with
        | error er =>
          refine ⟨fun e h => ?_, fun o ts' h => ?_⟩
          · simp only [ep] at h
            cases h
            exact v1 _ ep
          · simp only [ep] at h
            cases h
        | ok pr =>
          obtain ⟨o2, ts2⟩ := pr
          refine ⟨fun e h => ?_, fun o ts' h => ?_⟩
          · simp only [ep] at h
            cases h
          · simp only [ep] at h
            cases h
            obtain ⟨pd, E', a1, a2, a3, a4, a5⟩ := v2 _ _ ep
            refine ⟨pd, pend.map nI ++ encs o1 ++ E', a1, ?_, ?_, a4, a5⟩
            · rw [← List.append_assoc, ← List.append_assoc]
              exact a2
            · rw [List.append_assoc, a3, encs_app, encs_c, List.append_assoc]
              rfl
    · rw [if_neg z1]
      by_cases z2 : hc ts = 10247
      · have hlt := hc_len (ts := ts) (by omega)
        rw [if_pos z2]
        have j := aJ (z := z) (op := op) (E := E) (cm := cm) (s := 7) (by rw [z2]; rfl) (by decide) (by omega) hcj (bh_3 cm) hpd hl
        rw [hc0, Nat.add_zero, z2] at j
        have j : aRun z ts (pend ++ W) op (bh cm) cm E = aRun z ts.tail (10247 :: W) op 2 cm (E ++ pend.map nI) := j
        rw [j]
        by_cases z3 : hc ts.tail = 10002
        · have hlt2 := hc_len (ts := ts.tail) (by omega)
          have hne2 := hc_ne (ts := ts.tail) (by omega)
          rw [if_neg (fun w => w z3)]
          by_cases z4 : nv (hd ts.tail) 0 = 0
          · rw [if_pos z4]
            refine ⟨fun e h => ?_, fun o ts' h => (by cases h)⟩
            cases h
            rw [aRun_s hne2]
            unfold aStep
            rw [if_neg (by decide), if_neg (by decide), if_pos rfl, if_neg (fun w => w z3), if_pos z4]
          · rw [if_neg z4]
            have st : aRun z ts.tail (10247 :: W) op 2 cm (E ++ pend.map nI) = aRun z ts.tail.tail ([10247] ++ W) op (bh cm) cm (E ++ pend.map nI ++ [nI (nv (hd ts.tail) 0)]) := by
              rw [aRun_s hne2]
              have e : aStep z (10247 :: W) op 2 cm (E ++ pend.map nI) ts.tail = .ok (10247 :: W, op, bh cm, cm, E ++ pend.map nI ++ [nI (nv (hd ts.tail) 0)]) := by
                unfold aStep
                rw [if_neg (by decide), if_neg (by decide), if_pos rfl, if_neg (fun w => w z3), if_neg z4]
                unfold aOpd
                rw [if_pos z3]
              rw [e]
              show (if bh cm = 6 then _ else _) = _
              rw [if_neg (bh_6 cm)]
              rfl
            rw [st]
            obtain ⟨v1, v2⟩ := sim_pl n ts.tail.tail [10247] W op cm (E ++ pend.map nI ++ [nI (nv (hd ts.tail) 0)]) (by omega) (fun w hw => by rw [List.mem_singleton.mp hw]; decide) hl
            cases ep : pProdL z n ts.tail.tail with
            | error er =>
              refine ⟨fun e h => ?_, fun o ts' h => ?_⟩
              · cases h
                exact v1 _ ep
              · cases h
            | ok pr =>
              obtain ⟨o2, ts2⟩ := pr
              refine ⟨fun e h => ?_, fun o ts' h => ?_⟩
              · cases h
              · cases h
                obtain ⟨pd, E', a1, a2, a3, a4, a5⟩ := v2 _ _ ep
                refine ⟨pd, pend.map nI ++ [nI (nv (hd ts.tail) 0)] ++ E', a1, ?_, ?_, a4, a5⟩
                · rw [← List.append_assoc, ← List.append_assoc]
                  exact a2
                · rw [List.append_assoc, a3, encs_c, List.append_assoc]
                  rfl
        · rw [if_pos z3]
          refine ⟨fun e h => ?_, fun o ts' h => (by cases h)⟩
          cases h
          refine aRun_e (fun _ => ?_)
          unfold aStep
          rw [if_neg (by decide), if_neg (by decide), if_pos rfl, if_pos z3]
      · rw [if_neg z2]
        refine ⟨fun e h => (by cases h), fun o ts' h => ?_⟩
        cases h
        refine ⟨pend, [], hpd, by rw [List.append_nil], ?_, z1, z2⟩
        rw [show encs [] = [] from rfl, List.append_nil, List.nil_append]
theorem sim_p {z n : Nat} {ts : List Tk} {W : List Nat} {op aw : Nat} {cm : Bool} {E : List Int32} (hn : ts.length ≤ n) (hl : low 7 W) (hst : ts ≠ [] → aStep z W op aw cm E ts = aOpd z W op cm E ts) : (∀ e, pProd z n ts = .error e → aRun z ts W op aw cm E = .error e) ∧ ∀ o ts', pProd z n ts = .ok (o, ts') → ∃ (pd : List Nat) (E' : List Int32), (∀ w ∈ pd, 7 ≤ stg w) ∧ aRun z ts W op aw cm E = aRun z ts' (pd ++ W) op (bh cm) cm (E ++ E') ∧ E' ++ pd.map nI = encs o ∧ hc ts' ≠ 10242 ∧ hc ts' ≠ 10247 := by
  obtain ⟨u1, u2⟩ := sim_u hst
  unfold pProd
  cases eu : pUnit z ts with
  | error er => exact ⟨fun e h => (by cases h; exact u1 _ eu), fun o ts' h => (by cases h)⟩
  | ok pr =>
    obtain ⟨o1, ts1⟩ := pr
    have hl1 := pUnit_len eu
    rw [u2 o1 ts1 eu]
    obtain ⟨v1, v2⟩ := sim_pl (z := z) n ts1 [] W op cm (E ++ encs o1) (by omega) (fun w hw => by cases hw) hl
    cases ep : pProdL z n ts1 with
    | error er =>
      refine ⟨fun e h => ?_, fun o ts' h => ?_⟩
      · simp only [ep] at h
        cases h
        exact v1 _ ep
      · simp only [ep] at h
        cases h
    | ok pr =>
      obtain ⟨o2, ts2⟩ := pr
      refine ⟨fun e h => ?_, fun o ts' h => ?_⟩
      · simp only [ep] at h
        cases h
      · simp only [ep] at h
        cases h
        obtain ⟨pd, E', a1, a2, a3, a4, a5⟩ := v2 _ _ ep
        refine ⟨pd, encs o1 ++ E', a1, ?_, ?_, a4, a5⟩
        · rw [← List.append_assoc]
          exact a2
        · rw [List.append_assoc, a3, encs_app]
          rfl
