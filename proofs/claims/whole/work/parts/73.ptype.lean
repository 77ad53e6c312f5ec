/-! text: what the descent lays can be worked out -/
abbrev tcOk (t : Nat) : Prop := t = 10000 ∨ t = 10001 ∨ t = 10002 ∨ (10100 ≤ t ∧ t < 10112) ∨ (10200 ≤ t ∧ t < 10456)
def tkOk (ts : List Tk) : Prop := ∀ t ∈ ts, tcOk t.1 ∧ (t.1 = 10002 → 1 ≤ t.2.2.length ∧ t.2.2.length ≤ 4 ∧ ∀ x ∈ t.2.2, x < 10)
theorem tkOk_tl {ts : List Tk} (h : tkOk ts) : tkOk ts.tail := fun t ht => h t (List.mem_of_mem_tail ht)
theorem tkOk_hd {ts : List Tk} (h : tkOk ts) (q : hc ts = 10002) : 1 ≤ (hd ts).length ∧ (hd ts).length ≤ 4 ∧ ∀ x ∈ hd ts, x < 10 := by
  cases ts with
  | nil => cases q
  | cons t r => exact (h t List.mem_cons_self).2 q
theorem tkOk_c {ts : List Tk} (h : tkOk ts) : tcOk (hc ts) := by
  cases ts with
  | nil => exact Or.inl rfl
  | cons t r => exact (h t List.mem_cons_self).1
theorem kwT_c (w : List Nat) : kwT w = 10001 ∨ 10100 ≤ kwT w := by
  generalize h : kwT w = v
  unfold kwT at h
  repeat' split at h
  all_goals omega
theorem lx_c {tp : List Nat} {p : Nat} (hp9 : p ≤ tp.length) (hb : ∀ x ∈ tp, x < 256) : tcOk (lx tp p).2.2 := by
  have h1 := rune_le (f := isBlk) hp9
  have hkw : tcOk (kwT ((tp.drop (rune isBlk tp p)).takeWhile isLet)) := by
    have a1 := kwT_lt ((tp.drop (rune isBlk tp p)).takeWhile isLet)
    have a2 := kwT_c ((tp.drop (rune isBlk tp p)).takeWhile isLet)
    omega
  unfold lx
  generalize rune isBlk tp p = q at *
  split
  · exact Or.inl rfl
  · split
    · exact hkw
    · split
      · show tcOk (if rune isDig tp q - q ≤ 4 then 10002 else 10001)
        split <;> decide
      · have hb1 := hb _ (gDm (show q < tp.length by omega))
        show tcOk (if isSgn (tp.getD q 0) = true then 10200 + tp.getD q 0 else 10001)
        split
        · exact Or.inr (Or.inr (Or.inr (Or.inr ⟨by omega, by omega⟩)))
        · decide
theorem tkOk_TS {tp : List Nat} (hb : ∀ x ∈ tp, x < 256) : ∀ (n p : Nat), p ≤ tp.length → tkOk (tkl tp n p)
  | 0, _, _ => fun t ht => by cases ht
  | n + 1, p, hp9 => by
    obtain ⟨a1, a2, a3, a4, a5, a6⟩ := lx_ok hp9 hb
    unfold tkl
    split
    · exact fun t ht => by cases ht
    · rename_i z
      intro t ht
      rcases List.mem_cons.mp ht with e | ht
      · subst e
        refine ⟨lx_c hp9 hb, fun q => ?_⟩
        have q : (lx tp p).2.2 = 10002 := q
        obtain ⟨b1, b2⟩ := a6 q
        have a4 := a4 z
        refine ⟨?_, ?_, dgt_lt a2 b2⟩
        · show 1 ≤ (dgt tp _ _).length
          rw [dgt_len a2]
          omega
        · show (dgt tp _ _).length ≤ 4
          rw [dgt_len a2]
          exact b1
      · exact tkOk_TS hb n _ a2 t ht
theorem opTs_app : ∀ (a b : List Op) (t : List Bool), opTs t (a ++ b) = (opTs t a).bind (fun t' => opTs t' b)
  | [], b, t => rfl
  | o :: a, b, t => by
    show (opT t o).bind (fun t' => opTs t' (a ++ b)) = ((opT t o).bind (fun t' => opTs t' a)).bind (fun t' => opTs t' b)
    cases opT t o with
    | none => rfl
    | some t2 => exact opTs_app a b t2
theorem opTs_ap {a b : List Op} {t t1 t2 : List Bool} (h1 : opTs t a = some t1) (h2 : opTs t1 b = some t2) : opTs t (a ++ b) = some t2 := by
  rw [opTs_app, h1]
  exact h2
theorem opTs_1 {o : Op} {t t1 : List Bool} (h : opT t o = some t1) : opTs t [o] = some t1 := by
  show (opT t o).bind (fun t' => opTs t' []) = some t1
  rw [h]
  rfl
theorem opT_num {t : List Bool} {v : Nat} (ht : t.length < 31) (hv : v < 10000) : opT t (0, nI v) = some (false :: t) := by
  unfold opT
  rw [if_pos rfl, if_pos ⟨ht, nI_pos' (by omega), nI_lt (b := 10000) hv (by decide)⟩]
theorem opT_kn {t : List Bool} {c : Nat} {v : Int32} (ht : t.length < 31) (h1 : 0 < c) (h2 : c < 7) : opT t (c, v) = some (false :: t) := by
  unfold opT
  rw [if_neg (by show ¬ c = 0; omega), if_pos h2, if_pos ht]
theorem opT_pt {t : List Bool} {v : Nat} (ht : t.length < 30) (h0 : 0 < v) (hv : v < 10000) : opT (false :: t) (16, nI v) = some (false :: t) := by
  unfold opT
  rw [if_neg (show ¬ (16 : Nat) = 0 by decide), if_neg (show ¬ (16 : Nat) < 7 by decide), if_pos rfl]
  show (if t.length < 30 ∧ (0 : Int32) < nI v ∧ nI v < 10000 then some (false :: t) else none) = _
  rw [if_pos ⟨ht, nI_lt (a := 0) h0 (by omega), nI_lt (b := 10000) hv (by decide)⟩]
theorem opT_ar {t : List Bool} {c : Nat} (h : c = 13 ∨ c = 14 ∨ c = 15) : opT (false :: false :: t) (c, 0) = some (false :: t) := by
  rcases h with rfl | rfl | rfl <;> rfl
theorem opT_cm {t : List Bool} {c : Nat} (h : c = 17 ∨ c = 18 ∨ c = 19) : opT (false :: false :: t) (c, 0) = some (true :: t) := by
  rcases h with rfl | rfl | rfl <;> rfl
theorem opT_bo {t : List Bool} {c : Nat} (h : c = 21 ∨ c = 22) : opT (true :: true :: t) (c, 0) = some (true :: t) := by
  rcases h with rfl | rfl <;> rfl
theorem opT_nt {t : List Bool} : opT (true :: t) (20, 0) = some (true :: t) := rfl
theorem pUnit_ty {z : Nat} {ts : List Tk} {o : List Op} {ts' : List Tk} {t : List Bool} (hk : tkOk ts) (h : pUnit z ts = .ok (o, ts')) (ht : t.length < 31) : opTs t o = some (false :: t) ∧ tkOk ts' := by
  unfold pUnit at h
  split at h
  · rename_i q
    cases h
    obtain ⟨a1, a2, a3⟩ := tkOk_hd hk q
    exact ⟨opTs_1 (opT_num ht (nv_4 a3 a2)), tkOk_tl hk⟩
  · split at h
    · rename_i q
      cases h
      exact ⟨opTs_1 (opT_kn ht (by omega) (by omega)), tkOk_tl hk⟩
    · cases h
theorem pProdL_ty {z : Nat} : ∀ (n : Nat) (ts : List Tk) (o : List Op) (ts' : List Tk) (t : List Bool), tkOk ts → pProdL z n ts = .ok (o, ts') → t.length < 30 → opTs (false :: t) o = some (false :: t) ∧ tkOk ts'
  | 0, _, _, _, _, _, h, _ => by cases h
  | n + 1, ts, o, ts', t, hk, h, ht => by
    unfold pProdL at h
    split at h
    · split at h
      · cases h
      · rename_i o1 ts1 e1
        obtain ⟨h1, k1⟩ := pUnit_ty (t := false :: t) (tkOk_tl hk) e1 (by simp; omega)
        split at h
        · cases h
        · rename_i o2 ts2 e2
          obtain ⟨h2, k2⟩ := pProdL_ty n _ _ _ t k1 e2 ht
          cases h
          refine ⟨opTs_ap h1 ?_, k2⟩
          show opTs _ ([(15, 0)] ++ o2) = _
          exact opTs_ap (opTs_1 (opT_ar (by omega))) h2
    · split at h
      · split at h
        · cases h
        · rename_i q2
          obtain ⟨a1, a2, a3⟩ := tkOk_hd (tkOk_tl hk) (by omega)
          split at h
          · cases h
          · rename_i q3
            split at h
            · cases h
            · rename_i o2 ts2 e2
              obtain ⟨h2, k2⟩ := pProdL_ty n _ _ _ t (tkOk_tl (tkOk_tl hk)) e2 ht
              cases h
              refine ⟨?_, k2⟩
              show opTs _ ([(16, _)] ++ o2) = _
              exact opTs_ap (opTs_1 (opT_pt ht (by omega) (nv_4 a3 a2))) h2
      · cases h
        exact ⟨rfl, hk⟩
theorem pProd_ty {z n : Nat} {ts : List Tk} {o : List Op} {ts' : List Tk} {t : List Bool} (hk : tkOk ts) (h : pProd z n ts = .ok (o, ts')) (ht : t.length < 30) : opTs t o = some (false :: t) ∧ tkOk ts' := by
  unfold pProd at h
  split at h
  · cases h
  · rename_i o1 ts1 e1
    obtain ⟨h1, k1⟩ := pUnit_ty (t := t) hk e1 (by omega)
    split at h
    · cases h
    · rename_i o2 ts2 e2
      obtain ⟨h2, k2⟩ := pProdL_ty n _ _ _ t k1 e2 ht
      cases h
      exact ⟨opTs_ap h1 h2, k2⟩
theorem pSumL_ty {z : Nat} : ∀ (n : Nat) (ts : List Tk) (o : List Op) (ts' : List Tk) (t : List Bool), tkOk ts → pSumL z n ts = .ok (o, ts') → t.length < 29 → opTs (false :: t) o = some (false :: t) ∧ tkOk ts'
  | 0, _, _, _, _, _, h, _ => by cases h
  | n + 1, ts, o, ts', t, hk, h, ht => by
    unfold pSumL at h
    split at h
    · split at h
      · cases h
      · rename_i o1 ts1 e1
        obtain ⟨h1, k1⟩ := pProd_ty (t := false :: t) (tkOk_tl hk) e1 (by simp; omega)
        split at h
        · cases h
        · rename_i o2 ts2 e2
          obtain ⟨h2, k2⟩ := pSumL_ty n _ _ _ t k1 e2 ht
          cases h
          refine ⟨opTs_ap h1 ?_, k2⟩
          show opTs _ ([(_, 0)] ++ o2) = _
          refine opTs_ap (opTs_1 (opT_ar ?_)) h2
          split <;> omega
    · cases h
      exact ⟨rfl, hk⟩
theorem pSum_ty {z n : Nat} {ts : List Tk} {o : List Op} {ts' : List Tk} {t : List Bool} (hk : tkOk ts) (h : pSum z n ts = .ok (o, ts')) (ht : t.length < 29) : opTs t o = some (false :: t) ∧ tkOk ts' := by
  unfold pSum at h
  split at h
  · cases h
  · rename_i o1 ts1 e1
    obtain ⟨h1, k1⟩ := pProd_ty (t := t) hk e1 (by omega)
    split at h
    · cases h
    · rename_i o2 ts2 e2
      obtain ⟨h2, k2⟩ := pSumL_ty n _ _ _ t k1 e2 ht
      cases h
      exact ⟨opTs_ap h1 h2, k2⟩
theorem pCmp_ty {z n : Nat} {ts : List Tk} {o : List Op} {ts' : List Tk} {t : List Bool} (hk : tkOk ts) (h : pCmp z n ts = .ok (o, ts')) (ht : t.length < 28) : opTs t o = some (true :: t) ∧ tkOk ts' := by
  unfold pCmp at h
  split at h
  · cases h
  · rename_i o1 ts1 e1
    obtain ⟨h1, k1⟩ := pSum_ty (t := t) hk e1 (by omega)
    split at h
    · rename_i q
      split at h
      · cases h
      · rename_i o2 ts2 e2
        obtain ⟨h2, k2⟩ := pSum_ty (t := false :: t) (tkOk_tl k1) e2 (by simp; omega)
        cases h
        exact ⟨opTs_ap h1 (opTs_ap h2 (opTs_1 (opT_cm (by omega)))), k2⟩
    · cases h
theorem pT_ty {z : Nat} : ∀ (n k dp : Nat) (ts : List Tk) (o : List Op) (ts' : List Tk) (t : List Bool), tkOk ts → dp ≤ 8 → pT z n k dp ts = .ok (o, ts') → ((k = 0 → t.length ≤ 2 * dp + 2 → opTs t o = some (true :: t)) ∧ (k = 1 → t.length ≤ 2 * dp + 1 → opTs t o = some (true :: t)) ∧ (k = 2 → t.length ≤ 2 * dp → opTs t o = some (true :: t)) ∧ (k = 3 → t.length ≤ 2 * dp + 1 → opTs (true :: t) o = some (true :: t)) ∧ (4 ≤ k → t.length ≤ 2 * dp → opTs (true :: t) o = some (true :: t))) ∧ tkOk ts'
  | 0, _, _, _, _, _, _, _, _, h => by cases h
  | n + 1, k, dp, ts, o, ts', t, hk, hdp, h => by
    unfold pT at h
    split at h
    · rename_i k0
      suffices hh : (t.length ≤ 2 * dp + 2 → opTs t o = some (true :: t)) ∧ tkOk ts' from ⟨⟨fun _ => hh.1, fun e => by omega, fun e => by omega, fun e => by omega, fun e => by omega⟩, hh.2⟩
      split at h
      · split at h
        · cases h
        · split at h
          · cases h
          · rename_i o1 ts1 e1
            obtain ⟨⟨a0, -⟩, a5⟩ := pT_ty n 0 (dp + 1) _ _ _ t (tkOk_tl hk) (by omega) e1
            cases h
            exact ⟨fun w => opTs_ap (a0 rfl (by omega)) (opTs_1 opT_nt), a5⟩
      · split at h
        · split at h
          · cases h
          · split at h
            · cases h
            · rename_i o1 ts1 e1
              obtain ⟨⟨-, -, a2, -⟩, a5⟩ := pT_ty n 2 (dp + 1) _ _ _ t (tkOk_tl hk) (by omega) e1
              split at h
              · cases h
                exact ⟨fun w => a2 rfl (by omega), tkOk_tl a5⟩
              · cases h
        · have h9 := pCmp_ty (t := t) hk h
          refine ⟨fun w => (h9 (by omega)).1, (pCmp_ty (t := []) hk h (by decide)).2⟩
    · rename_i k0
      split at h
      · rename_i k1
        suffices hh : (t.length ≤ 2 * dp + 1 → opTs t o = some (true :: t)) ∧ tkOk ts' from ⟨⟨fun e => by omega, fun _ => hh.1, fun e => by omega, fun e => by omega, fun e => by omega⟩, hh.2⟩
        split at h
        · cases h
        · rename_i o1 ts1 e1
          obtain ⟨⟨a0, -⟩, a5⟩ := pT_ty n 0 dp _ _ _ t hk hdp e1
          split at h
          · cases h
          · rename_i o2 ts2 e2
            obtain ⟨⟨-, -, -, b3, -⟩, b5⟩ := pT_ty n 3 dp _ _ _ t a5 hdp e2
            cases h
            exact ⟨fun w => opTs_ap (a0 rfl (by omega)) (b3 rfl w), b5⟩
      · rename_i k1
        split at h
        · rename_i k2
          suffices hh : (t.length ≤ 2 * dp → opTs t o = some (true :: t)) ∧ tkOk ts' from ⟨⟨fun e => by omega, fun e => by omega, fun _ => hh.1, fun e => by omega, fun e => by omega⟩, hh.2⟩
          split at h
          · cases h
          · rename_i o1 ts1 e1
            obtain ⟨⟨-, a1, -⟩, a5⟩ := pT_ty n 1 dp _ _ _ t hk hdp e1
            split at h
            · cases h
            · rename_i o2 ts2 e2
              obtain ⟨⟨-, -, -, -, b4⟩, b5⟩ := pT_ty n 4 dp _ _ _ t a5 hdp e2
              cases h
              exact ⟨fun w => opTs_ap (a1 rfl (by omega)) (b4 (by decide) w), b5⟩
        · rename_i k2
          split at h
          · rename_i k3
            suffices hh : (t.length ≤ 2 * dp + 1 → opTs (true :: t) o = some (true :: t)) ∧ tkOk ts' from ⟨⟨fun e => by omega, fun e => by omega, fun e => by omega, fun _ => hh.1, fun e => by omega⟩, hh.2⟩
            split at h
            · split at h
              · cases h
              · rename_i o1 ts1 e1
                obtain ⟨⟨a0, -⟩, a5⟩ := pT_ty n 0 dp _ _ _ (true :: t) (tkOk_tl hk) hdp e1
                split at h
                · cases h
                · rename_i o2 ts2 e2
                  obtain ⟨⟨-, -, -, b3, -⟩, b5⟩ := pT_ty n 3 dp _ _ _ t a5 hdp e2
                  cases h
                  refine ⟨fun w => opTs_ap (a0 rfl (by simp; omega)) ?_, b5⟩
                  show opTs _ ([(21, 0)] ++ o2) = _
                  exact opTs_ap (opTs_1 (opT_bo (by omega))) (b3 rfl w)
            · cases h
              exact ⟨fun _ => rfl, hk⟩
          · rename_i k3
            suffices hh : (t.length ≤ 2 * dp → opTs (true :: t) o = some (true :: t)) ∧ tkOk ts' from ⟨⟨fun e => by omega, fun e => by omega, fun e => by omega, fun e => by omega, fun _ => hh.1⟩, hh.2⟩
            split at h
            · split at h
              · cases h
              · rename_i o1 ts1 e1
                obtain ⟨⟨-, a1, -⟩, a5⟩ := pT_ty n 1 dp _ _ _ (true :: t) (tkOk_tl hk) hdp e1
                split at h
                · cases h
                · rename_i o2 ts2 e2
                  obtain ⟨⟨-, -, -, -, b4⟩, b5⟩ := pT_ty n 4 dp _ _ _ t a5 hdp e2
                  cases h
                  refine ⟨fun w => opTs_ap (a1 rfl (by simp; omega)) ?_, b5⟩
                  show opTs _ ([(22, 0)] ++ o2) = _
                  exact opTs_ap (opTs_1 (opT_bo (by omega))) (b4 (by decide) w)
            · cases h
              exact ⟨fun _ => rfl, hk⟩
