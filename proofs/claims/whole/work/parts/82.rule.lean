/-! text: lines of rules, by the class -/
abbrev RR : Type := Except (Nat × Nat) (Ru × List Tk)
def pTail (z n : Nat) (dg9 : Nat) (rep : List Nat) (ts : List Tk) : RR := if hc ts = 10102 then (match pCd z n ts.tail with
    | .error e => .error e
    | .ok (o, ts4) => .ok ((dg9, rep, o), ts4.tail))
  else if hc ts = 10259 then .ok ((dg9, rep, []), ts.tail) else .error (1, hp z ts)
def pRule (z n cnt : Nat) (ts : List Tk) : RR :=
  if hc ts ≠ 10002 then .error (1, hp z ts) else if 1 < (hd ts).length then .error (2, hp z ts)
  else if hc ts.tail ≠ 10100 then .error (1, hp z ts.tail) else if cnt = 16 then .error (3, hp z ts.tail)
  else if hc ts.tail.tail = 10002 then pTail z n (nv (hd ts) 0) (hd ts.tail.tail) ts.tail.tail.tail
  else if hc ts.tail.tail = 10101 then pTail z n (nv (hd ts) 0) [] ts.tail.tail.tail
  else .error (1, hp z ts.tail.tail)
def pRls (z n : Nat) : Nat → Nat → List Tk → Except (Nat × Nat) (List Ru)
  | 0, _, _ => .error (9, 9)
  | m + 1, cnt, ts => if hc ts = 10000 then .ok [] else match pRule z n cnt ts with
    | .error e => .error e
    | .ok (u, ts') => match pRls z n m (cnt + 1) ts' with
      | .error e => .error e
      | .ok us => .ok (u :: us)
theorem encs_len : ∀ o : List Op, (encs o).length ≤ 2 * o.length
  | [] => Nat.le_refl _
  | x :: o => by
    have h := encs_len o
    rw [encs_c, List.length_append, List.length_cons]
    have : (encC x).length ≤ 2 := by
      unfold encC
      repeat' split
      all_goals simp
    omega
/-- the class's steps are no more than the tokens -/
theorem aRun_len {z : Nat} : ∀ (ts : List Tk) (W : List Nat) (op aw : Nat) (cm : Bool) (E : List Int32) (c : Cf) (ts' : List Tk), aRun z ts W op aw cm E = .ok (c, ts') → wfC W op aw → tkOk ts → c.2.2.2.2.length + ts'.length ≤ E.length + W.length + ts.length ∧ tkOk ts'
  | [], _, _, _, _, _, _, _, h, _, _ => by cases h
  | t :: r, W, op, aw, cm, E, c, ts', h, hwf, hk => by
    have h9 : aRun z (t :: r) W op aw cm E = match aStep z W op aw cm E (t :: r) with
      | Except.error e => Except.error e
      | Except.ok (W', op', aw', cm', E') => if aw' = 6 then Except.ok ((W', op', aw', cm', E'), t :: r) else aRun z r W' op' aw' cm' E' := rfl
    rw [h9] at h
    have ht : hc (t :: r) < 10500 := by
      have := tkOk_c hk
      omega
    cases er : aStep z W op aw cm E (t :: r) with
    | error e9 => rw [er] at h; cases h
    | ok c9 =>
      obtain ⟨W', op', aw', cm', E'⟩ := c9
      rw [er] at h
      obtain ⟨wf', hb⟩ := aStep_wf hwf ht er
      have h : (if aw' = 6 then Except.ok ((W', op', aw', cm', E'), t :: r) else aRun z r W' op' aw' cm' E') = Except.ok (c, ts') := h
      by_cases z6 : aw' = 6
      · rw [if_pos z6] at h
        cases h
        refine ⟨?_, hk⟩
        show E'.length + (t :: r).length ≤ _
        have hj : E'.length + W'.length ≤ E.length + W.length := by
          rw [z6] at er
          unfold aStep at er
          split at er
          · split at er
            · split at er
              · cases er
              · cases er
            · unfold aOpd at er
              split at er
              · cases er
              · split at er <;> cases er
          · split at er
            · unfold aOpd at er
              split at er
              · injection er with er; injection er with _ er; injection er with _ er; injection er with er _
                split at er <;> cases er
              · split at er
                · injection er with er; injection er with _ er; injection er with _ er; injection er with er _
                  split at er <;> cases er
                · cases er
            · split at er
              · split at er
                · cases er
                · split at er
                  · cases er
                  · unfold aOpd at er
                    split at er
                    · injection er with er; injection er with _ er; injection er with _ er; injection er with er _
                      split at er <;> cases er
                    · split at er
                      · injection er with er; injection er with _ er; injection er with _ er; injection er with er _
                        split at er <;> cases er
                      · cases er
              · unfold aJnt at er
                split at er
                · cases er
                · split at er
                  · split at er
                    · split at er
                      · cases er
                      · cases er
                        have := congrArg List.length (pop_split 1 W)
                        rw [List.length_append] at this
                        simp
                        omega
                    · split at er
                      · cases er
                      · cases er
                  · injection er with er; injection er with _ er; injection er with _ er; injection er with er _
                    split at er
                    · cases er
                    · split at er <;> cases er
        omega
      · rw [if_neg z6] at h
        obtain ⟨a1, a2⟩ := aRun_len r W' op' aw' cm' E' c ts' h wf' (tkOk_tl hk)
        refine ⟨?_, a2⟩
        rw [List.length_cons]
        omega
theorem pCd_len {z n : Nat} {ts : List Tk} {o : List Op} {ts' : List Tk} (hn : 3 * ts.length + 3 ≤ n) (hk : tkOk ts) (h : pCd z n ts = .ok (o, ts')) : (encs o).length + ts'.length ≤ ts.length ∧ tkOk ts' ∧ hc ts' = 10259 ∧ wfO o ∧ o.length + ts'.length ≤ ts.length := by
  obtain ⟨cm', e1⟩ := (sim_all (cm := false) hn).2 o ts' h
  obtain ⟨a1, a2⟩ := aRun_len _ _ _ _ _ _ _ _ e1 ⟨trivial, rfl, by decide, fun _ => trivial, fun x hx => by cases hx⟩ hk
  have a1 : (encs o).length + ts'.length ≤ 0 + 0 + ts.length := a1
  unfold pCd at h
  cases eu : pT z n 2 0 ts with
  | error er => rw [eu] at h; cases h
  | ok pr =>
    obtain ⟨o1, ts1⟩ := pr
    rw [eu] at h
    simp only at h
    have hl := pT_len _ _ _ _ _ _ eu
    have hty := (pT_ty n 2 0 ts o1 ts1 [] hk (by decide) eu).1.2.2.1 rfl (Nat.le_refl _)
    split at h
    · rename_i q
      cases h
      exact ⟨by omega, a2, q, hty, by omega⟩
    · cases h
