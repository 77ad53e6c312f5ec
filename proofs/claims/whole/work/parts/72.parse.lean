/-! text: conditions, as a descent over tokens -/
abbrev Op : Type := Nat × Int32
abbrev PR : Type := Except (Nat × Nat) (List Op × List Tk)
def pUnit (z : Nat) (ts : List Tk) : PR := if hc ts = 10002 then .ok ([(0, nI (nv (hd ts) 0))], ts.tail) else if 10106 ≤ hc ts ∧ hc ts < 10112 then .ok ([(hc ts - 10105, 0)], ts.tail) else .error (1, hp z ts)
def pProdL (z : Nat) : Nat → List Tk → PR
  | 0, _ => .error (9, 9)
  | n + 1, ts => if hc ts = 10242 then (match pUnit z ts.tail with
      | .error e => .error e
      | .ok (o, ts1) => match pProdL z n ts1 with
        | .error e => .error e
        | .ok (o2, ts2) => .ok (o ++ (15, 0) :: o2, ts2))
    else if hc ts = 10247 then (if hc ts.tail ≠ 10002 then .error (1, hp z ts.tail) else if nv (hd ts.tail) 0 = 0 then .error (2, hp z ts.tail) else match pProdL z n ts.tail.tail with
        | .error e => .error e
        | .ok (o2, ts2) => .ok ((16, nI (nv (hd ts.tail) 0)) :: o2, ts2))
    else .ok ([], ts)
def pProd (z n : Nat) (ts : List Tk) : PR := match pUnit z ts with
  | .error e => .error e
  | .ok (o, ts1) => match pProdL z n ts1 with
    | .error e => .error e
    | .ok (o2, ts2) => .ok (o ++ o2, ts2)
def pSumL (z : Nat) : Nat → List Tk → PR
  | 0, _ => .error (9, 9)
  | n + 1, ts => if hc ts = 10243 ∨ hc ts = 10245 then (match pProd z n ts.tail with
      | .error e => .error e
      | .ok (o, ts1) => match pSumL z n ts1 with
        | .error e => .error e
        | .ok (o2, ts2) => .ok (o ++ (if hc ts = 10243 then 13 else 14, 0) :: o2, ts2))
    else .ok ([], ts)
def pSum (z n : Nat) (ts : List Tk) : PR := match pProd z n ts with
  | .error e => .error e
  | .ok (o, ts1) => match pSumL z n ts1 with
    | .error e => .error e
    | .ok (o2, ts2) => .ok (o ++ o2, ts2)
def pCmp (z n : Nat) (ts : List Tk) : PR := match pSum z n ts with
  | .error e => .error e
  | .ok (o, ts1) => if hc ts1 = 10260 ∨ hc ts1 = 10261 ∨ hc ts1 = 10262 then (match pSum z n ts1.tail with
      | .error e => .error e
      | .ok (o2, ts2) => .ok (o ++ (o2 ++ [(hc ts1 - 10243, 0)]), ts2))
    else .error (1, hp z ts1)
/-- k: 0 one test, 1 every, 2 any, 3 and what follows and, 4 or -/
def pT (z : Nat) : Nat → Nat → Nat → List Tk → PR
  | 0, _, _, _ => .error (9, 9)
  | n + 1, k, dp, ts =>
    if k = 0 then
      if hc ts = 10105 then (if dp = 8 then .error (3, hp z ts) else match pT z n 0 (dp + 1) ts.tail with
        | .error e => .error e
        | .ok (o, ts1) => .ok (o ++ [(20, 0)], ts1))
      else if hc ts = 10240 then (if dp = 8 then .error (3, hp z ts) else match pT z n 2 (dp + 1) ts.tail with
        | .error e => .error e
        | .ok (o, ts1) => if hc ts1 = 10241 then .ok (o, ts1.tail) else .error (1, hp z ts1))
      else pCmp z n ts
    else if k = 1 then (match pT z n 0 dp ts with
      | .error e => .error e
      | .ok (o, ts1) => match pT z n 3 dp ts1 with
        | .error e => .error e
        | .ok (o2, ts2) => .ok (o ++ o2, ts2))
    else if k = 2 then (match pT z n 1 dp ts with
      | .error e => .error e
      | .ok (o, ts1) => match pT z n 4 dp ts1 with
        | .error e => .error e
        | .ok (o2, ts2) => .ok (o ++ o2, ts2))
    else if k = 3 then (if hc ts = 10104 then (match pT z n 0 dp ts.tail with
        | .error e => .error e
        | .ok (o, ts1) => match pT z n 3 dp ts1 with
          | .error e => .error e
          | .ok (o2, ts2) => .ok (o ++ (21, 0) :: o2, ts2))
      else .ok ([], ts))
    else (if hc ts = 10103 then (match pT z n 1 dp ts.tail with
        | .error e => .error e
        | .ok (o, ts1) => match pT z n 4 dp ts1 with
          | .error e => .error e
          | .ok (o2, ts2) => .ok (o ++ (22, 0) :: o2, ts2))
      else .ok ([], ts))
theorem hc_len {ts : List Tk} (h : hc ts ≠ 10000) : ts.tail.length + 1 = ts.length := by
  cases ts with
  | nil => exact absurd rfl h
  | cons t r => rfl
/-- lengths: what is left, how much was laid -/
theorem pUnit_len {z : Nat} {ts : List Tk} {o : List Op} {ts' : List Tk} (h : pUnit z ts = .ok (o, ts')) : ts'.length + o.length ≤ ts.length ∧ ts'.length < ts.length := by
  unfold pUnit at h
  split at h
  · rename_i q
    cases h
    have := hc_len (ts := ts) (by omega)
    exact ⟨by simp; omega, by omega⟩
  · split at h
    · rename_i q
      cases h
      have := hc_len (ts := ts) (by omega)
      exact ⟨by simp; omega, by omega⟩
    · cases h
theorem pProdL_len {z : Nat} : ∀ (n : Nat) (ts : List Tk) (o : List Op) (ts' : List Tk), pProdL z n ts = .ok (o, ts') → ts'.length + o.length ≤ ts.length
  | 0, _, _, _, h => by cases h
  | n + 1, ts, o, ts', h => by
    unfold pProdL at h
    split at h
    · rename_i q
      have h0 := hc_len (ts := ts) (by omega)
      split at h
      · cases h
      · rename_i o1 ts1 e1
        have h1 := pUnit_len e1
        split at h
        · cases h
        · rename_i o2 ts2 e2
          have h2 := pProdL_len n _ _ _ e2
          cases h
          simp
          omega
    · split at h
      · rename_i q
        have h0 := hc_len (ts := ts) (by omega)
        split at h
        · cases h
        · rename_i q2
          have h9 := hc_len (ts := ts.tail) (by omega)
          split at h
          · cases h
          · split at h
            · cases h
            · rename_i o2 ts2 e2
              have h2 := pProdL_len n _ _ _ e2
              cases h
              simp at h2 ⊢
              omega
      · cases h
        simp
theorem pProd_len {z n : Nat} {ts : List Tk} {o : List Op} {ts' : List Tk} (h : pProd z n ts = .ok (o, ts')) : ts'.length + o.length ≤ ts.length ∧ ts'.length < ts.length := by
  unfold pProd at h
  split at h
  · cases h
  · rename_i o1 ts1 e1
    have h1 := pUnit_len e1
    split at h
    · cases h
    · rename_i o2 ts2 e2
      have h2 := pProdL_len n _ _ _ e2
      cases h
      rw [List.length_append]
      omega
theorem pSumL_len {z : Nat} : ∀ (n : Nat) (ts : List Tk) (o : List Op) (ts' : List Tk), pSumL z n ts = .ok (o, ts') → ts'.length + o.length ≤ ts.length
  | 0, _, _, _, h => by cases h
  | n + 1, ts, o, ts', h => by
    unfold pSumL at h
    split at h
    · rename_i q
      have h0 := hc_len (ts := ts) (by omega)
      split at h
      · cases h
      · rename_i o1 ts1 e1
        have h1 := pProd_len e1
        split at h
        · cases h
        · rename_i o2 ts2 e2
          have h2 := pSumL_len n _ _ _ e2
          cases h
          simp
          omega
    · cases h
      simp
theorem pSum_len {z n : Nat} {ts : List Tk} {o : List Op} {ts' : List Tk} (h : pSum z n ts = .ok (o, ts')) : ts'.length + o.length ≤ ts.length ∧ ts'.length < ts.length := by
  unfold pSum at h
  split at h
  · cases h
  · rename_i o1 ts1 e1
    have h1 := pProd_len e1
    split at h
    · cases h
    · rename_i o2 ts2 e2
      have h2 := pSumL_len n _ _ _ e2
      cases h
      rw [List.length_append]
      omega
theorem pCmp_len {z n : Nat} {ts : List Tk} {o : List Op} {ts' : List Tk} (h : pCmp z n ts = .ok (o, ts')) : ts'.length + o.length ≤ ts.length ∧ ts'.length < ts.length := by
  unfold pCmp at h
  split at h
  · cases h
  · rename_i o1 ts1 e1
    have h1 := pSum_len e1
    split at h
    · rename_i q
      have h0 := hc_len (ts := ts1) (by omega)
      split at h
      · cases h
      · rename_i o2 ts2 e2
        have h2 := pSum_len e2
        cases h
        simp
        omega
    · cases h
theorem pT_len {z : Nat} : ∀ (n k dp : Nat) (ts : List Tk) (o : List Op) (ts' : List Tk), pT z n k dp ts = .ok (o, ts') → ts'.length + o.length ≤ ts.length ∧ (k < 3 → ts'.length < ts.length)
  | 0, _, _, _, _, _, h => by cases h
  | n + 1, k, dp, ts, o, ts', h => by
    unfold pT at h
    split at h
    · split at h
      · rename_i q
        have h0 := hc_len (ts := ts) (by omega)
        split at h
        · cases h
        · split at h
          · cases h
          · rename_i o1 ts1 e1
            have h1 := pT_len n _ _ _ _ _ e1
            cases h
            simp
            omega
      · split at h
        · rename_i q
          have h0 := hc_len (ts := ts) (by omega)
          split at h
          · cases h
          · split at h
            · cases h
            · rename_i o1 ts1 e1
              have h1 := pT_len n _ _ _ _ _ e1
              split at h
              · rename_i q1
                have h9 := hc_len (ts := ts1) (by omega)
                cases h
                omega
              · cases h
        · have := pCmp_len h
          omega
    · split at h
      · split at h
        · cases h
        · rename_i o1 ts1 e1
          have h1 := pT_len n _ _ _ _ _ e1
          split at h
          · cases h
          · rename_i o2 ts2 e2
            have h2 := pT_len n _ _ _ _ _ e2
            cases h
            rw [List.length_append]
            omega
      · split at h
        · split at h
          · cases h
          · rename_i o1 ts1 e1
            have h1 := pT_len n _ _ _ _ _ e1
            split at h
            · cases h
            · rename_i o2 ts2 e2
              have h2 := pT_len n _ _ _ _ _ e2
              cases h
              rw [List.length_append]
              omega
        · split at h
          · split at h
            · rename_i q
              have h0 := hc_len (ts := ts) (by omega)
              split at h
              · cases h
              · rename_i o1 ts1 e1
                have h1 := pT_len n _ _ _ _ _ e1
                split at h
                · cases h
                · rename_i o2 ts2 e2
                  have h2 := pT_len n _ _ _ _ _ e2
                  cases h
                  simp
                  omega
            · cases h
              simp
              omega
          · split at h
            · rename_i q
              have h0 := hc_len (ts := ts) (by omega)
              split at h
              · cases h
              · rename_i o1 ts1 e1
                have h1 := pT_len n _ _ _ _ _ e1
                split at h
                · cases h
                · rename_i o2 ts2 e2
                  have h2 := pT_len n _ _ _ _ _ e2
                  cases h
                  simp
                  omega
            · cases h
              simp
              omega
