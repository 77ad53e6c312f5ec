/-! best: ways and how much is lost on them -/
def bsT (dy : Nat) (lf : Nat → Nat → Nat) (rl : Nat → List Ru) (l : Nat) (m : List Nat) : List Nat := trans (nI dy) (nI (lf l 6)) (rl (lf l 2)) m
def bsK (dy : Nat) (lf : Nat → Nat → Nat) (rl : Nat → List Ru) (l : Nat) (m : List Nat) : List Nat := kept (gn (lf l 3) (lf l 4) (nI (lf l 6))) (bsT dy lf rl l m)
abbrev BB : Type := Option (Nat × List Nat)
def btr (B : BB) (lost lines : Nat) : Bool := match B with
  | none => true
  | some p => decide (lost < p.1) || (decide (lost = p.1) && decide (lines < p.2.length))
def bsS (dy ln : Nat) (lf : Nat → Nat → Nat) (rl : Nat → List Ru) (to : Nat) : Nat → Nat → Nat → List Nat → Nat → List Nat → BB → BB
  | 0, _, _, _, _, _, B => B
  | n + 1, s, been, way, lost, m, B => if s = to then (if btr B lost way.length = true then some (lost, way) else B) else (List.range ln).foldl (fun B l => match oend (lf l) s with
    | none => B
    | some t => if been.testBit t = true then B else bsS dy ln lf rl to n t (been ||| 2 ^ t) (way ++ [l]) (lost + ((bsT dy lf rl l m).length - (bsK dy lf rl l m).length)) (bsK dy lf rl l m) B) B
def bsF (dy ln : Nat) (lf : Nat → Nat → Nat) (rl : Nat → List Ru) (to n s been : Nat) (way : List Nat) (lost : Nat) (m : List Nat) (B : BB) (l : Nat) : BB := match oend (lf l) s with
  | none => B
  | some t => if been.testBit t = true then B else bsS dy ln lf rl to n t (been ||| 2 ^ t) (way ++ [l]) (lost + ((bsT dy lf rl l m).length - (bsK dy lf rl l m).length)) (bsK dy lf rl l m) B
theorem bsS_s (dy ln : Nat) (lf : Nat → Nat → Nat) (rl : Nat → List Ru) (to n s been : Nat) (way : List Nat) (lost : Nat) (m : List Nat) (B : BB) : bsS dy ln lf rl to (n + 1) s been way lost m B = if s = to then (if btr B lost way.length = true then some (lost, way) else B) else (List.range ln).foldl (bsF dy ln lf rl to n s been way lost m) B := rfl
theorem fold_fix {α β : Type} {f : β → α → β} {b : β} : ∀ (ls : List α), (∀ x ∈ ls, f b x = b) → ls.foldl f b = b
  | [], _ => rfl
  | x :: r, h => by
    rw [List.foldl_cons, h x List.mem_cons_self]
    exact fold_fix r (fun y hy => h y (List.mem_cons_of_mem _ hy))
theorem btr_mono {B : BB} {a b c e : Nat} (h : btr B a b = false) (h1 : a ≤ c) (h2 : b ≤ e) : btr B c e = false := by
  unfold btr at h ⊢
  split at h
  · cases h
  · rename_i p
    simp only [Bool.or_eq_false_iff, Bool.and_eq_false_iff, decide_eq_false_iff_not] at h ⊢
    omega
theorem bs_cut {dy ln : Nat} {lf : Nat → Nat → Nat} {rl : Nat → List Ru} {to : Nat} : ∀ (n s been : Nat) (way : List Nat) (lost : Nat) (m : List Nat) (B : BB), btr B lost way.length = false → bsS dy ln lf rl to n s been way lost m B = B
  | 0, _, _, _, _, _, _, _ => rfl
  | n + 1, s, been, way, lost, m, B, h => by
    rw [bsS_s]
    split
    · rw [if_neg (by rw [h]; decide)]
    · apply fold_fix
      intro l _
      unfold bsF
      split
      · rfl
      · split
        · rfl
        · exact bs_cut n _ _ _ _ _ _ (btr_mono h (by omega) (by simp))
theorem pcw_no {x t : Nat} (h : ¬ x.testBit t = true) : ∀ w, t < w → pcw x w < w
  | 0, q => absurd q (Nat.not_lt_zero _)
  | w + 1, q => by
    rw [pcw_s]
    by_cases e : t = w
    · subst e
      rw [if_neg h]
      have := pcw_le x t
      omega
    · have := pcw_no h w (by omega)
      split <;> omega
theorem pcw_or {x t : Nat} (h : ¬ x.testBit t = true) : ∀ w, pcw (x ||| 2 ^ t) w = pcw x w + if t < w then 1 else 0
  | 0 => by rw [if_neg (Nat.not_lt_zero _)]; rfl
  | w + 1 => by
    rw [pcw_s, pcw_s, pcw_or h w, Nat.testBit_or, Nat.testBit_two_pow]
    by_cases e : t = w
    · subst e
      simp only [decide_true, Bool.or_true, if_true]
      rw [if_neg h, if_neg (Nat.lt_irrefl _), if_pos (by omega)]
    · simp only [e, decide_false, Bool.or_false]
      by_cases q : t < w
      · rw [if_pos q, if_pos (show t < w + 1 by omega)]
        omega
      · rw [if_neg q, if_neg (show ¬ t < w + 1 by omega), Nat.add_zero, Nat.add_zero]
theorem oend_lt {f : Nat → Nat} {s t : Nat} (b0 : f 0 < 8) (b1 : f 1 < 8) (h : oend f s = some t) : t < 8 := by
  unfold oend at h
  split at h
  · cases h; exact b1
  · split at h
    · cases h; exact b0
    · cases h
theorem bs_full {dy ln : Nat} {lf : Nat → Nat → Nat} {rl : Nat → List Ru} {to n s been : Nat} {way : List Nat} {lost : Nat} {m : List Nat} {B : BB} (hB : ∀ l, l < ln → lfB (lf l)) (h : pcw been 8 = 8) : (List.range ln).foldl (bsF dy ln lf rl to n s been way lost m) B = B := by
  apply fold_fix
  intro l hl
  obtain ⟨b0, b1, -⟩ := hB l (List.mem_range.mp hl)
  unfold bsF
  split
  · rfl
  · rename_i t e
    have ht := oend_lt b0 b1 e
    by_cases q : been.testBit t = true
    · rw [if_pos q]
    · have := pcw_no q 8 ht
      omega
theorem bsK_dg {dy : Nat} {lf : Nat → Nat → Nat} {rl : Nat → List Ru} {l : Nat} {m : List Nat} (hW : ruW (rl (lf l 2))) (hm : dg 36 m) : dg 36 (bsK dy lf rl l m) := kept_dg ⟨trans_len _ _ _ _, trans_mem hW hm.2⟩
theorem bsT_len {dy : Nat} {lf : Nat → Nat → Nat} {rl : Nat → List Ru} {l : Nat} {m : List Nat} : (bsT dy lf rl l m).length ≤ 36 := trans_len _ _ _ _
/-! the class's router -/
def bsQ (B : BB) : Prop := match B with
  | none => True
  | some p => p.1 ≤ 1000 ∧ p.2.length ≤ 7 ∧ ∀ x ∈ p.2, x < 12
def bsC (I : mj_I) (B : BB) : Prop := bsQ B ∧ match B with
  | none => I 116 5 = -1
  | some p => I 116 4 = nI p.1 ∧ I 116 5 = nI p.2.length ∧ ∀ j, j < p.2.length → I 119 j = nI (p.2.getD j 0)
theorem bsC_congr {I I' : mj_I} {B : BB} (h : bsC I B) (h1 : I' 116 4 = I 116 4) (h2 : I' 116 5 = I 116 5) (h3 : I' 119 = I 119) : bsC I' B := by
  unfold bsC
  rw [h1, h2, h3]
  exact h
theorem Rt_isBetter {d : Nat} {e : mj_S} {P : mj_P} {r0 r1 r2 r3 rs : Nat} {kp : Option Nat} {I : mj_I} {J : mj_J} {Q : mj_Q} {B : BB} {lost k : Nat} (hB : bsC I B) (hl : lost ≤ 1000) (hk : k ≤ 8) (h1 : btr B lost k = true → Q (some (.int 1)) (sh0 ++ e) (cp P r0 r1 r2 r3 rs kp) I J) (h0 : btr B lost k = false → Q (some (.int 0)) (sh0 ++ e) (cp P r0 r1 r2 r3 rs kp) I J) : mj_ret mj_pr (d + 1) n_Router_isBetter [.ref 116, .int (nI lost), .int (nI k)] (0, 0) (sh0 ++ e) (cp P r0 r1 r2 r3 rs kp) I J Q := by
  refine mj_in2 3 t_Router_isBetter rfl rfl (fun X cr C F => ?_)
  cases B with
  | none =>
    have e5 : I 116 5 = -1 := hB.2
    (repeat (first | (apply F; conv => whnf) | (refine ⟨rfl, ?_⟩) | (refine ⟨vpk (by decide) ?_, ?_⟩; rfl) | (refine ⟨by assumption, ?_⟩) | (refine ⟨by decide, ?_⟩) | (refine ⟨fun h => absurd h (by decide), fun _ => ?_⟩) | (refine ⟨fun _ => ?_, fun h => absurd (by decide) h⟩) | (refine ⟨fun h => absurd (by decide) h, fun _ => ?_⟩) | (refine ⟨fun _ => ?_, fun h => absurd h (by decide)⟩) | (refine ⟨⟨Nat.le_of_ble_eq_true rfl, Nat.le_of_ble_eq_true rfl⟩, ?_⟩) | (simp (disch := omega) only [nI_clamp, clL, nI_1, nI_add, pk_mul, ni_aL, ni_aR, ni_mL, ni_mR, ni_sR, ni_sb, ni_m1, ni_dv, mj_u_eq, mj_u_ne1, mj_u_ne2, e5]; try (conv => whnf)) | (refine ⟨vpq _ rfl (by omega) (by omega), ?_⟩) | (refine ⟨fun h => absurd h (by (simp (disch := omega) only [nI_1, nI_add, nI_leI, nI_ltI, nI_eq, ni_ltR, ni_ltL, ni_leR, ni_leL, ni_eqR, ni_eqL, ni_nm, ni_nm2, not_false_eq_true]; first | done | omega)), fun _ => ?_⟩) | (refine ⟨fun _ => ?_, fun h => absurd (by (simp (disch := omega) only [nI_1, nI_add, nI_leI, nI_ltI, nI_eq, ni_ltR, ni_ltL, ni_leR, ni_leL, ni_eqR, ni_eqL, ni_nm, ni_nm2, not_false_eq_true]; first | done | omega)) h⟩) | (refine ⟨fun h => absurd (by (simp (disch := omega) only [nI_1, nI_add, nI_leI, nI_ltI, nI_eq, ni_ltR, ni_ltL, ni_leR, ni_leL, ni_eqR, ni_eqL, ni_nm, ni_nm2, not_false_eq_true]; first | done | omega)) h, fun _ => ?_⟩) | (refine ⟨fun _ => ?_, fun h => absurd h (by (simp (disch := omega) only [nI_1, nI_add, nI_leI, nI_ltI, nI_eq, ni_ltR, ni_ltL, ni_leR, ni_leL, ni_eqR, ni_eqL, ni_nm, ni_nm2, not_false_eq_true]; first | done | omega))⟩) | fail))
    exact h1 rfl
  | some p =>
    obtain ⟨⟨q1, q2, q3⟩, e4, e5, -⟩ := hB
    (repeat (first | (apply F; conv => whnf) | (refine ⟨rfl, ?_⟩) | (refine ⟨vpk (by decide) ?_, ?_⟩; rfl) | (refine ⟨by assumption, ?_⟩) | (refine ⟨by decide, ?_⟩) | (refine ⟨fun h => absurd h (by decide), fun _ => ?_⟩) | (refine ⟨fun _ => ?_, fun h => absurd (by decide) h⟩) | (refine ⟨fun h => absurd (by decide) h, fun _ => ?_⟩) | (refine ⟨fun _ => ?_, fun h => absurd h (by decide)⟩) | (refine ⟨⟨Nat.le_of_ble_eq_true rfl, Nat.le_of_ble_eq_true rfl⟩, ?_⟩) | (simp (disch := omega) only [nI_clamp, clL, nI_1, nI_add, pk_mul, ni_aL, ni_aR, ni_mL, ni_mR, ni_sR, ni_sb, ni_m1, ni_dv, mj_u_eq, mj_u_ne1, mj_u_ne2, e5]; try (conv => whnf)) | (refine ⟨vpq _ rfl (by omega) (by omega), ?_⟩) | (refine ⟨fun h => absurd h (by (simp (disch := omega) only [nI_1, nI_add, nI_leI, nI_ltI, nI_eq, ni_ltR, ni_ltL, ni_leR, ni_leL, ni_eqR, ni_eqL, ni_nm, ni_nm2, not_false_eq_true]; first | done | omega)), fun _ => ?_⟩) | (refine ⟨fun _ => ?_, fun h => absurd (by (simp (disch := omega) only [nI_1, nI_add, nI_leI, nI_ltI, nI_eq, ni_ltR, ni_ltL, ni_leR, ni_leL, ni_eqR, ni_eqL, ni_nm, ni_nm2, not_false_eq_true]; first | done | omega)) h⟩) | (refine ⟨fun h => absurd (by (simp (disch := omega) only [nI_1, nI_add, nI_leI, nI_ltI, nI_eq, ni_ltR, ni_ltL, ni_leR, ni_leL, ni_eqR, ni_eqL, ni_nm, ni_nm2, not_false_eq_true]; first | done | omega)) h, fun _ => ?_⟩) | (refine ⟨fun _ => ?_, fun h => absurd h (by (simp (disch := omega) only [nI_1, nI_add, nI_leI, nI_ltI, nI_eq, ni_ltR, ni_ltL, ni_leR, ni_leL, ni_eqR, ni_eqL, ni_nm, ni_nm2, not_false_eq_true]; first | done | omega))⟩) | fail))
    (repeat (first | (apply F; conv => whnf) | (refine ⟨rfl, ?_⟩) | (refine ⟨vpk (by decide) ?_, ?_⟩; rfl) | (refine ⟨by assumption, ?_⟩) | (refine ⟨by decide, ?_⟩) | (refine ⟨fun h => absurd h (by decide), fun _ => ?_⟩) | (refine ⟨fun _ => ?_, fun h => absurd (by decide) h⟩) | (refine ⟨fun h => absurd (by decide) h, fun _ => ?_⟩) | (refine ⟨fun _ => ?_, fun h => absurd h (by decide)⟩) | (refine ⟨⟨Nat.le_of_ble_eq_true rfl, Nat.le_of_ble_eq_true rfl⟩, ?_⟩) | (simp (disch := omega) only [nI_clamp, clL, nI_1, nI_add, pk_mul, ni_aL, ni_aR, ni_mL, ni_mR, ni_sR, ni_sb, ni_m1, ni_dv, mj_u_eq, mj_u_ne1, mj_u_ne2, e4]; try (conv => whnf)) | (refine ⟨vpq _ rfl (by omega) (by omega), ?_⟩) | (refine ⟨fun h => absurd h (by (simp (disch := omega) only [nI_1, nI_add, nI_leI, nI_ltI, nI_eq, ni_ltR, ni_ltL, ni_leR, ni_leL, ni_eqR, ni_eqL, ni_nm, ni_nm2, not_false_eq_true]; first | done | omega)), fun _ => ?_⟩) | (refine ⟨fun _ => ?_, fun h => absurd (by (simp (disch := omega) only [nI_1, nI_add, nI_leI, nI_ltI, nI_eq, ni_ltR, ni_ltL, ni_leR, ni_leL, ni_eqR, ni_eqL, ni_nm, ni_nm2, not_false_eq_true]; first | done | omega)) h⟩) | (refine ⟨fun h => absurd (by (simp (disch := omega) only [nI_1, nI_add, nI_leI, nI_ltI, nI_eq, ni_ltR, ni_ltL, ni_leR, ni_leL, ni_eqR, ni_eqL, ni_nm, ni_nm2, not_false_eq_true]; first | done | omega)) h, fun _ => ?_⟩) | (refine ⟨fun _ => ?_, fun h => absurd h (by (simp (disch := omega) only [nI_1, nI_add, nI_leI, nI_ltI, nI_eq, ni_ltR, ni_ltL, ni_leR, ni_leL, ni_eqR, ni_eqL, ni_nm, ni_nm2, not_false_eq_true]; first | done | omega))⟩) | fail))
    by_cases w1 : lost < p.1
    · (repeat (first | (apply F; conv => whnf) | (refine ⟨rfl, ?_⟩) | (refine ⟨vpk (by decide) ?_, ?_⟩; rfl) | (refine ⟨by assumption, ?_⟩) | (refine ⟨by decide, ?_⟩) | (refine ⟨fun h => absurd h (by decide), fun _ => ?_⟩) | (refine ⟨fun _ => ?_, fun h => absurd (by decide) h⟩) | (refine ⟨fun h => absurd (by decide) h, fun _ => ?_⟩) | (refine ⟨fun _ => ?_, fun h => absurd h (by decide)⟩) | (refine ⟨⟨Nat.le_of_ble_eq_true rfl, Nat.le_of_ble_eq_true rfl⟩, ?_⟩) | (simp (disch := omega) only [nI_clamp, clL, nI_1, nI_add, pk_mul, ni_aL, ni_aR, ni_mL, ni_mR, ni_sR, ni_sb, ni_m1, ni_dv, mj_u_eq, mj_u_ne1, mj_u_ne2, e4, e5]; try (conv => whnf)) | (refine ⟨vpq _ rfl (by omega) (by omega), ?_⟩) | (refine ⟨fun h => absurd h (by (simp (disch := omega) only [nI_1, nI_add, nI_leI, nI_ltI, nI_eq, ni_ltR, ni_ltL, ni_leR, ni_leL, ni_eqR, ni_eqL, ni_nm, ni_nm2, not_false_eq_true]; first | done | omega)), fun _ => ?_⟩) | (refine ⟨fun _ => ?_, fun h => absurd (by (simp (disch := omega) only [nI_1, nI_add, nI_leI, nI_ltI, nI_eq, ni_ltR, ni_ltL, ni_leR, ni_leL, ni_eqR, ni_eqL, ni_nm, ni_nm2, not_false_eq_true]; first | done | omega)) h⟩) | (refine ⟨fun h => absurd (by (simp (disch := omega) only [nI_1, nI_add, nI_leI, nI_ltI, nI_eq, ni_ltR, ni_ltL, ni_leR, ni_leL, ni_eqR, ni_eqL, ni_nm, ni_nm2, not_false_eq_true]; first | done | omega)) h, fun _ => ?_⟩) | (refine ⟨fun _ => ?_, fun h => absurd h (by (simp (disch := omega) only [nI_1, nI_add, nI_leI, nI_ltI, nI_eq, ni_ltR, ni_ltL, ni_leR, ni_leL, ni_eqR, ni_eqL, ni_nm, ni_nm2, not_false_eq_true]; first | done | omega))⟩) | fail))
      exact h1 (by unfold btr; simp [w1])
    · (repeat (first | (apply F; conv => whnf) | (refine ⟨rfl, ?_⟩) | (refine ⟨vpk (by decide) ?_, ?_⟩; rfl) | (refine ⟨by assumption, ?_⟩) | (refine ⟨by decide, ?_⟩) | (refine ⟨fun h => absurd h (by decide), fun _ => ?_⟩) | (refine ⟨fun _ => ?_, fun h => absurd (by decide) h⟩) | (refine ⟨fun h => absurd (by decide) h, fun _ => ?_⟩) | (refine ⟨fun _ => ?_, fun h => absurd h (by decide)⟩) | (refine ⟨⟨Nat.le_of_ble_eq_true rfl, Nat.le_of_ble_eq_true rfl⟩, ?_⟩) | (simp (disch := omega) only [nI_clamp, clL, nI_1, nI_add, pk_mul, ni_aL, ni_aR, ni_mL, ni_mR, ni_sR, ni_sb, ni_m1, ni_dv, mj_u_eq, mj_u_ne1, mj_u_ne2, e4, e5]; try (conv => whnf)) | (refine ⟨vpq _ rfl (by omega) (by omega), ?_⟩) | (refine ⟨fun h => absurd h (by (simp (disch := omega) only [nI_1, nI_add, nI_leI, nI_ltI, nI_eq, ni_ltR, ni_ltL, ni_leR, ni_leL, ni_eqR, ni_eqL, ni_nm, ni_nm2, not_false_eq_true]; first | done | omega)), fun _ => ?_⟩) | (refine ⟨fun _ => ?_, fun h => absurd (by (simp (disch := omega) only [nI_1, nI_add, nI_leI, nI_ltI, nI_eq, ni_ltR, ni_ltL, ni_leR, ni_leL, ni_eqR, ni_eqL, ni_nm, ni_nm2, not_false_eq_true]; first | done | omega)) h⟩) | (refine ⟨fun h => absurd (by (simp (disch := omega) only [nI_1, nI_add, nI_leI, nI_ltI, nI_eq, ni_ltR, ni_ltL, ni_leR, ni_leL, ni_eqR, ni_eqL, ni_nm, ni_nm2, not_false_eq_true]; first | done | omega)) h, fun _ => ?_⟩) | (refine ⟨fun _ => ?_, fun h => absurd h (by (simp (disch := omega) only [nI_1, nI_add, nI_leI, nI_ltI, nI_eq, ni_ltR, ni_ltL, ni_leR, ni_leL, ni_eqR, ni_eqL, ni_nm, ni_nm2, not_false_eq_true]; first | done | omega))⟩) | fail))
      by_cases w2 : lost = p.1
      · subst w2
        (repeat (first | (apply F; conv => whnf) | (refine ⟨rfl, ?_⟩) | (refine ⟨vpk (by decide) ?_, ?_⟩; rfl) | (refine ⟨by assumption, ?_⟩) | (refine ⟨by decide, ?_⟩) | (refine ⟨fun h => absurd h (by decide), fun _ => ?_⟩) | (refine ⟨fun _ => ?_, fun h => absurd (by decide) h⟩) | (refine ⟨fun h => absurd (by decide) h, fun _ => ?_⟩) | (refine ⟨fun _ => ?_, fun h => absurd h (by decide)⟩) | (refine ⟨⟨Nat.le_of_ble_eq_true rfl, Nat.le_of_ble_eq_true rfl⟩, ?_⟩) | (simp (disch := omega) only [nI_clamp, clL, nI_1, nI_add, pk_mul, ni_aL, ni_aR, ni_mL, ni_mR, ni_sR, ni_sb, ni_m1, ni_dv, mj_u_eq, mj_u_ne1, mj_u_ne2, e4, e5]; try (conv => whnf)) | (refine ⟨vpq _ rfl (by omega) (by omega), ?_⟩) | (refine ⟨fun h => absurd h (by (simp (disch := omega) only [nI_1, nI_add, nI_leI, nI_ltI, nI_eq, ni_ltR, ni_ltL, ni_leR, ni_leL, ni_eqR, ni_eqL, ni_nm, ni_nm2, not_false_eq_true]; first | done | omega)), fun _ => ?_⟩) | (refine ⟨fun _ => ?_, fun h => absurd (by (simp (disch := omega) only [nI_1, nI_add, nI_leI, nI_ltI, nI_eq, ni_ltR, ni_ltL, ni_leR, ni_leL, ni_eqR, ni_eqL, ni_nm, ni_nm2, not_false_eq_true]; first | done | omega)) h⟩) | (refine ⟨fun h => absurd (by (simp (disch := omega) only [nI_1, nI_add, nI_leI, nI_ltI, nI_eq, ni_ltR, ni_ltL, ni_leR, ni_leL, ni_eqR, ni_eqL, ni_nm, ni_nm2, not_false_eq_true]; first | done | omega)) h, fun _ => ?_⟩) | (refine ⟨fun _ => ?_, fun h => absurd h (by (simp (disch := omega) only [nI_1, nI_add, nI_leI, nI_ltI, nI_eq, ni_ltR, ni_ltL, ni_leR, ni_leL, ni_eqR, ni_eqL, ni_nm, ni_nm2, not_false_eq_true]; first | done | omega))⟩) | fail))
        by_cases w3 : k < p.2.length
        · (repeat (first | (apply F; conv => whnf) | (refine ⟨rfl, ?_⟩) | (refine ⟨vpk (by decide) ?_, ?_⟩; rfl) | (refine ⟨by assumption, ?_⟩) | (refine ⟨by decide, ?_⟩) | (refine ⟨fun h => absurd h (by decide), fun _ => ?_⟩) | (refine ⟨fun _ => ?_, fun h => absurd (by decide) h⟩) | (refine ⟨fun h => absurd (by decide) h, fun _ => ?_⟩) | (refine ⟨fun _ => ?_, fun h => absurd h (by decide)⟩) | (refine ⟨⟨Nat.le_of_ble_eq_true rfl, Nat.le_of_ble_eq_true rfl⟩, ?_⟩) | (simp (disch := omega) only [nI_clamp, clL, nI_1, nI_add, pk_mul, ni_aL, ni_aR, ni_mL, ni_mR, ni_sR, ni_sb, ni_m1, ni_dv, mj_u_eq, mj_u_ne1, mj_u_ne2]; try (conv => whnf)) | (refine ⟨vpq _ rfl (by omega) (by omega), ?_⟩) | (refine ⟨fun h => absurd h (by (simp (disch := omega) only [nI_1, nI_add, nI_leI, nI_ltI, nI_eq, ni_ltR, ni_ltL, ni_leR, ni_leL, ni_eqR, ni_eqL, ni_nm, ni_nm2, not_false_eq_true]; first | done | omega)), fun _ => ?_⟩) | (refine ⟨fun _ => ?_, fun h => absurd (by (simp (disch := omega) only [nI_1, nI_add, nI_leI, nI_ltI, nI_eq, ni_ltR, ni_ltL, ni_leR, ni_leL, ni_eqR, ni_eqL, ni_nm, ni_nm2, not_false_eq_true]; first | done | omega)) h⟩) | (refine ⟨fun h => absurd (by (simp (disch := omega) only [nI_1, nI_add, nI_leI, nI_ltI, nI_eq, ni_ltR, ni_ltL, ni_leR, ni_leL, ni_eqR, ni_eqL, ni_nm, ni_nm2, not_false_eq_true]; first | done | omega)) h, fun _ => ?_⟩) | (refine ⟨fun _ => ?_, fun h => absurd h (by (simp (disch := omega) only [nI_1, nI_add, nI_leI, nI_ltI, nI_eq, ni_ltR, ni_ltL, ni_leR, ni_leL, ni_eqR, ni_eqL, ni_nm, ni_nm2, not_false_eq_true]; first | done | omega))⟩) | fail))
          exact h1 (by unfold btr; simp [w3])
        · (repeat (first | (apply F; conv => whnf) | (refine ⟨rfl, ?_⟩) | (refine ⟨vpk (by decide) ?_, ?_⟩; rfl) | (refine ⟨by assumption, ?_⟩) | (refine ⟨by decide, ?_⟩) | (refine ⟨fun h => absurd h (by decide), fun _ => ?_⟩) | (refine ⟨fun _ => ?_, fun h => absurd (by decide) h⟩) | (refine ⟨fun h => absurd (by decide) h, fun _ => ?_⟩) | (refine ⟨fun _ => ?_, fun h => absurd h (by decide)⟩) | (refine ⟨⟨Nat.le_of_ble_eq_true rfl, Nat.le_of_ble_eq_true rfl⟩, ?_⟩) | (simp (disch := omega) only [nI_clamp, clL, nI_1, nI_add, pk_mul, ni_aL, ni_aR, ni_mL, ni_mR, ni_sR, ni_sb, ni_m1, ni_dv, mj_u_eq, mj_u_ne1, mj_u_ne2]; try (conv => whnf)) | (refine ⟨vpq _ rfl (by omega) (by omega), ?_⟩) | (refine ⟨fun h => absurd h (by (simp (disch := omega) only [nI_1, nI_add, nI_leI, nI_ltI, nI_eq, ni_ltR, ni_ltL, ni_leR, ni_leL, ni_eqR, ni_eqL, ni_nm, ni_nm2, not_false_eq_true]; first | done | omega)), fun _ => ?_⟩) | (refine ⟨fun _ => ?_, fun h => absurd (by (simp (disch := omega) only [nI_1, nI_add, nI_leI, nI_ltI, nI_eq, ni_ltR, ni_ltL, ni_leR, ni_leL, ni_eqR, ni_eqL, ni_nm, ni_nm2, not_false_eq_true]; first | done | omega)) h⟩) | (refine ⟨fun h => absurd (by (simp (disch := omega) only [nI_1, nI_add, nI_leI, nI_ltI, nI_eq, ni_ltR, ni_ltL, ni_leR, ni_leL, ni_eqR, ni_eqL, ni_nm, ni_nm2, not_false_eq_true]; first | done | omega)) h, fun _ => ?_⟩) | (refine ⟨fun _ => ?_, fun h => absurd h (by (simp (disch := omega) only [nI_1, nI_add, nI_leI, nI_ltI, nI_eq, ni_ltR, ni_ltL, ni_leR, ni_leL, ni_eqR, ni_eqL, ni_nm, ni_nm2, not_false_eq_true]; first | done | omega))⟩) | fail))
          exact h0 (by unfold btr; simp; omega)
      · (repeat (first | (apply F; conv => whnf) | (refine ⟨rfl, ?_⟩) | (refine ⟨vpk (by decide) ?_, ?_⟩; rfl) | (refine ⟨by assumption, ?_⟩) | (refine ⟨by decide, ?_⟩) | (refine ⟨fun h => absurd h (by decide), fun _ => ?_⟩) | (refine ⟨fun _ => ?_, fun h => absurd (by decide) h⟩) | (refine ⟨fun h => absurd (by decide) h, fun _ => ?_⟩) | (refine ⟨fun _ => ?_, fun h => absurd h (by decide)⟩) | (refine ⟨⟨Nat.le_of_ble_eq_true rfl, Nat.le_of_ble_eq_true rfl⟩, ?_⟩) | (simp (disch := omega) only [nI_clamp, clL, nI_1, nI_add, pk_mul, ni_aL, ni_aR, ni_mL, ni_mR, ni_sR, ni_sb, ni_m1, ni_dv, mj_u_eq, mj_u_ne1, mj_u_ne2, e4, e5]; try (conv => whnf)) | (refine ⟨vpq _ rfl (by omega) (by omega), ?_⟩) | (refine ⟨fun h => absurd h (by (simp (disch := omega) only [nI_1, nI_add, nI_leI, nI_ltI, nI_eq, ni_ltR, ni_ltL, ni_leR, ni_leL, ni_eqR, ni_eqL, ni_nm, ni_nm2, not_false_eq_true]; first | done | omega)), fun _ => ?_⟩) | (refine ⟨fun _ => ?_, fun h => absurd (by (simp (disch := omega) only [nI_1, nI_add, nI_leI, nI_ltI, nI_eq, ni_ltR, ni_ltL, ni_leR, ni_leL, ni_eqR, ni_eqL, ni_nm, ni_nm2, not_false_eq_true]; first | done | omega)) h⟩) | (refine ⟨fun h => absurd (by (simp (disch := omega) only [nI_1, nI_add, nI_leI, nI_ltI, nI_eq, ni_ltR, ni_ltL, ni_leR, ni_leL, ni_eqR, ni_eqL, ni_nm, ni_nm2, not_false_eq_true]; first | done | omega)) h, fun _ => ?_⟩) | (refine ⟨fun _ => ?_, fun h => absurd h (by (simp (disch := omega) only [nI_1, nI_add, nI_leI, nI_ltI, nI_eq, ni_ltR, ni_ltL, ni_leR, ni_leL, ni_eqR, ni_eqL, ni_nm, ni_nm2, not_false_eq_true]; first | done | omega))⟩) | fail))
        exact h0 (by unfold btr; simp; omega)
def BsX (I : mj_I) (r0 r1 r2 r3 dy ln : Nat) (lf : Nat → Nat → Nat) (rl : Nat → List Ru) : Prop := I 1 10 = nI ln ∧ (∀ l, l < ln → ∀ k, k < 7 → I (15 + l) k = nI (lf l k)) ∧ (∀ k, k < 4 → ruC I (ra r0 r1 r2 r3 k) (rl k)) ∧ I 1 13 = nI dy
theorem BsX_congr {I I' : mj_I} {r0 r1 r2 r3 rs dy ln : Nat} {lf : Nat → Nat → Nat} {rl : Nat → List Ru} (h : BsX I r0 r1 r2 r3 dy ln lf rl) (a3 : RD r0 r1 r2 r3 rs) (hl : ln ≤ 12) (h1 : ∀ b, b < 97 → I' b = I b) : BsX I' r0 r1 r2 r3 dy ln lf rl := by
  obtain ⟨x1, x2, x3, x4⟩ := h
  exact ⟨by rw [h1 1 (by decide)]; exact x1, fun l hl2 k hk => by rw [h1 _ (by omega)]; exact x2 l hl2 k hk, fun k hk => ruC_congr (x3 k hk) (fun b b1 b2 => h1 b (by have := RD_ra a3 hk; omega)), by rw [h1 1 (by decide)]; exact x4⟩
def BsF (k : Nat) (I I' : mj_I) : Prop := (∀ b, b < 97 ∨ (100 < b ∧ b < 116) ∨ b = 117 ∨ (120 ≤ b ∧ b < 122 + 2 * k) ∨ 135 < b → I' b = I b) ∧ (∀ j, j < k → I' 118 j = I 118 j) ∧ I' 116 6 = I 116 6
theorem BsF_rfl (k : Nat) (I : mj_I) : BsF k I I := ⟨fun _ _ => rfl, fun _ _ => rfl, rfl⟩
theorem BsF_tr {k : Nat} {I I' I'' : mj_I} (h : BsF k I I') (h2 : BsF k I' I'') : BsF k I I'' := ⟨fun b hb => by rw [h2.1 b hb, h.1 b hb], fun j hj => by rw [h2.2.1 j hj, h.2.1 j hj], by rw [h2.2.2, h.2.2]⟩
theorem BsF_up {k : Nat} {I I' : mj_I} (h : BsF (k + 1) I I') : BsF k I I' := ⟨fun b hb => h.1 b (by omega), fun j hj => h.2.1 j (by omega), h.2.2⟩
def RtO (e : mj_S) (P : mj_P) (r0 r1 r2 r3 rs : Nat) (kp : Option Nat) (J : mj_J) (dy ln : Nat) (lf : Nat → Nat → Nat) (rl : Nat → List Ru) (to D n : Nat) : Prop :=
  ∀ (s been : Nat) (way : List Nat) (lost : Nat) (m : List Nat) (B : BB) (I : mj_I) (Q : mj_Q), s < 8 → s ≠ to → way.length + n = 7 → been < 256 → pcw been 8 = way.length + 1 → dg 36 m → lost ≤ 36 * way.length → (∀ x ∈ way, x < 12) → mg I (120 + 2 * way.length) m → (∀ j, j < way.length → I 118 j = nI (way.getD j 0)) → I 116 6 = nI to → bsC I B → BsX I r0 r1 r2 r3 dy ln lf rl →
    (∀ I', BsF way.length I I' → bsC I' ((List.range ln).foldl (bsF dy ln lf rl to n s been way lost m) B) → Q none (sh0 ++ e) (cp P r0 r1 r2 r3 rs kp) I' J) → mj_ret mj_pr D n_Router_goOn [.ref 116, .ref 1, .int (nI s), .int (nI way.length), .int (nI lost), .int (nI been)] (0, 0) (sh0 ++ e) (cp P r0 r1 r2 r3 rs kp) I J Q
def RtT (e : mj_S) (P : mj_P) (r0 r1 r2 r3 rs : Nat) (kp : Option Nat) (J : mj_J) (dy ln : Nat) (lf : Nat → Nat → Nat) (rl : Nat → List Ru) (to D n : Nat) : Prop :=
  ∀ (s been l : Nat) (way : List Nat) (lost : Nat) (m : List Nat) (B : BB) (I : mj_I) (Q : mj_Q), s < 8 → l < ln → way.length + n = 7 → been < 256 → pcw been 8 = way.length + 2 → dg 36 m → lost ≤ 36 * way.length → (∀ x ∈ way, x < 12) → mg I (120 + 2 * way.length) m → (∀ j, j < way.length → I 118 j = nI (way.getD j 0)) → I 118 way.length = nI l → I 116 6 = nI to → bsC I B → BsX I r0 r1 r2 r3 dy ln lf rl →
    (∀ I', BsF way.length I I' → bsC I' (bsS dy ln lf rl to n s been (way ++ [l]) (lost + ((bsT dy lf rl l m).length - (bsK dy lf rl l m).length)) (bsK dy lf rl l m) B) → Q none (sh0 ++ e) (cp P r0 r1 r2 r3 rs kp) I' J) → mj_ret mj_pr D n_Router_goTo [.ref 116, .ref 1, .int (nI s), .int (nI way.length), .int (nI lost), .int (nI been)] (0, 0) (sh0 ++ e) (cp P r0 r1 r2 r3 rs kp) I J Q
theorem cp_117 {P : mj_P} {r0 r1 r2 r3 rs : Nat} {kp : Option Nat} {z : Nat} (h : z < 8) : cp P r0 r1 r2 r3 rs kp 117 z = some (120 + 2 * z) := by
  rcases (show z = 0 ∨ z = 1 ∨ z = 2 ∨ z = 3 ∨ z = 4 ∨ z = 5 ∨ z = 6 ∨ z = 7 by omega) with rfl | rfl | rfl | rfl | rfl | rfl | rfl | rfl <;> rfl
theorem isM_120 {e : mj_S} {P : mj_P} {r0 r1 r2 r3 rs : Nat} {kp : Option Nat} {z : Nat} (h : z < 8) : isM (sh0 ++ e) (cp P r0 r1 r2 r3 rs kp) (120 + 2 * z) := by
  rcases (show z = 0 ∨ z = 1 ∨ z = 2 ∨ z = 3 ∨ z = 4 ∨ z = 5 ∨ z = 6 ∨ z = 7 by omega) with rfl | rfl | rfl | rfl | rfl | rfl | rfl | rfl <;> exact ⟨rfl, rfl, rfl, rfl⟩
set_option maxHeartbeats 4000000 in
theorem Rt_goTo {d n : Nat} {e : mj_S} {P : mj_P} {r0 r1 r2 r3 rs : Nat} {kp : Option Nat} {J : mj_J} {dy ln : Nat} {lf : Nat → Nat → Nat} {rl : Nat → List Ru} {to : Nat} (a3 : RD r0 r1 r2 r3 rs) (hln : ln ≤ 12) (hto : to < 8) (hlf : ∀ l, l < ln → lfB (lf l)) (hW : ∀ k, k < 4 → ruW (rl k)) (hO : RtO e P r0 r1 r2 r3 rs kp J dy ln lf rl to (d + 5) n) : RtT e P r0 r1 r2 r3 rs kp J dy ln lf rl to (d + 6) (n + 1) := by
  intro s been l way lost m B I Q hs hl hn hbn hpc hm hlo hwx hg hrow hrl h6 hB hX hQ
  obtain ⟨x1, x2, x3, x4⟩ := id hX
  obtain ⟨b0, b1, b2, b3, b4, b5, b6⟩ := hlf l hl
  have hrr := RD_ra a3 b2
  have hk2 := kd_15 (e := e) (show l < 12 by omega)
  have hp2 := cp_2 (P := P) (r0 := r0) (r1 := r1) (r2 := r2) (r3 := r3) (rs := rs) (kp := kp) (show l < 12 by omega)
  have hq1 := cp_117 (P := P) (r0 := r0) (r1 := r1) (r2 := r2) (r3 := r3) (rs := rs) (kp := kp) (show way.length < 8 by omega)
  have hq2 := cp_117 (P := P) (r0 := r0) (r1 := r1) (r2 := r2) (r3 := r3) (rs := rs) (kp := kp) (show way.length + 1 < 8 by omega)
  have e6 := x2 l hl 6 (by decide)
  have hTl := bsT_len (dy := dy) (lf := lf) (rl := rl) (l := l) (m := m)
  have e2 := x2 l hl 2 (by decide)
  have hp3 := cp_3 (P := P) (r0 := r0) (r1 := r1) (r2 := r2) (r3 := r3) (rs := rs) (kp := kp) b2
  have hN := isM_120 (e := e) (P := P) (r0 := r0) (r1 := r1) (r2 := r2) (r3 := r3) (rs := rs) (kp := kp) (show way.length + 1 < 8 by omega)
  refine mj_in2 9 t_Router_goTo rfl rfl (fun X cr C F => ?_)
  (repeat (first | (apply F; conv => whnf) | (refine ⟨rfl, ?_⟩) | (refine ⟨vpk (by decide) ?_, ?_⟩; rfl) | (refine ⟨by assumption, ?_⟩) | (refine ⟨by decide, ?_⟩) | (refine ⟨fun h => absurd h (by decide), fun _ => ?_⟩) | (refine ⟨fun _ => ?_, fun h => absurd (by decide) h⟩) | (refine ⟨fun h => absurd (by decide) h, fun _ => ?_⟩) | (refine ⟨fun _ => ?_, fun h => absurd h (by decide)⟩) | (refine ⟨⟨Nat.le_of_ble_eq_true rfl, Nat.le_of_ble_eq_true rfl⟩, ?_⟩) | (simp (disch := omega) only [nI_clamp, clL, nI_1, nI_add, pk_mul, ni_aL, ni_aR, ni_mL, ni_mR, ni_sR, ni_sb, ni_m1, ni_dv, mj_u_eq, mj_u_ne1, mj_u_ne2, ln_118, hrl, hp2, ln_2, e2, e6, ln_3, hp3, x4, ln_117, hq1]; try (conv => whnf)) | (refine ⟨vpq _ rfl (by omega) (by omega), ?_⟩) | (refine ⟨fun h => absurd h (by (simp (disch := omega) only [nI_1, nI_add, nI_leI, nI_ltI, nI_eq, ni_ltR, ni_ltL, ni_leR, ni_leL, ni_eqR, ni_eqL, ni_nm, ni_nm2, not_false_eq_true]; first | done | omega)), fun _ => ?_⟩) | (refine ⟨fun _ => ?_, fun h => absurd (by (simp (disch := omega) only [nI_1, nI_add, nI_leI, nI_ltI, nI_eq, ni_ltR, ni_ltL, ni_leR, ni_leL, ni_eqR, ni_eqL, ni_nm, ni_nm2, not_false_eq_true]; first | done | omega)) h⟩) | (refine ⟨fun h => absurd (by (simp (disch := omega) only [nI_1, nI_add, nI_leI, nI_ltI, nI_eq, ni_ltR, ni_ltL, ni_leR, ni_leL, ni_eqR, ni_eqL, ni_nm, ni_nm2, not_false_eq_true]; first | done | omega)) h, fun _ => ?_⟩) | (refine ⟨fun _ => ?_, fun h => absurd h (by (simp (disch := omega) only [nI_1, nI_add, nI_leI, nI_ltI, nI_eq, ni_ltR, ni_ltL, ni_leR, ni_leL, ni_eqR, ni_eqL, ni_nm, ni_nm2, not_false_eq_true]; first | done | omega))⟩) | fail))
  refine C (Ck_translate (isR_of hrr) (by omega) (isM_120 (z := way.length) (by omega)) (by omega) (x3 _ b2) (hW _ b2) hg (fun I0 w1 f1 => ?_))
  have h15 : I0 (15 + l) = I (15 + l) := f1 _ (by omega) (by omega) (by omega) (by omega)
  have e6' : I0 (15 + l) 6 = nI (lf l 6) := by rw [h15]; exact e6
  (repeat (first | (apply F; conv => whnf) | (refine ⟨rfl, ?_⟩) | (refine ⟨vpk (by decide) ?_, ?_⟩; rfl) | (refine ⟨by assumption, ?_⟩) | (refine ⟨by decide, ?_⟩) | (refine ⟨fun h => absurd h (by decide), fun _ => ?_⟩) | (refine ⟨fun _ => ?_, fun h => absurd (by decide) h⟩) | (refine ⟨fun h => absurd (by decide) h, fun _ => ?_⟩) | (refine ⟨fun _ => ?_, fun h => absurd h (by decide)⟩) | (refine ⟨⟨Nat.le_of_ble_eq_true rfl, Nat.le_of_ble_eq_true rfl⟩, ?_⟩) | (simp (disch := omega) only [nI_clamp, clL, nI_1, nI_add, pk_mul, ni_aL, ni_aR, ni_mL, ni_mR, ni_sR, ni_sb, ni_m1, ni_dv, mj_u_eq, mj_u_ne1, mj_u_ne2, ln_117, hq2, e6']; try (conv => whnf)) | (refine ⟨vpq _ rfl (by omega) (by omega), ?_⟩) | (refine ⟨fun h => absurd h (by (simp (disch := omega) only [nI_1, nI_add, nI_leI, nI_ltI, nI_eq, ni_ltR, ni_ltL, ni_leR, ni_leL, ni_eqR, ni_eqL, ni_nm, ni_nm2, not_false_eq_true]; first | done | omega)), fun _ => ?_⟩) | (refine ⟨fun _ => ?_, fun h => absurd (by (simp (disch := omega) only [nI_1, nI_add, nI_leI, nI_ltI, nI_eq, ni_ltR, ni_ltL, ni_leR, ni_leL, ni_eqR, ni_eqL, ni_nm, ni_nm2, not_false_eq_true]; first | done | omega)) h⟩) | (refine ⟨fun h => absurd (by (simp (disch := omega) only [nI_1, nI_add, nI_leI, nI_ltI, nI_eq, ni_ltR, ni_ltL, ni_leR, ni_leL, ni_eqR, ni_eqL, ni_nm, ni_nm2, not_false_eq_true]; first | done | omega)) h, fun _ => ?_⟩) | (refine ⟨fun _ => ?_, fun h => absurd h (by (simp (disch := omega) only [nI_1, nI_add, nI_leI, nI_ltI, nI_eq, ni_ltR, ni_ltL, ni_leR, ni_leL, ni_eqR, ni_eqL, ni_nm, ni_nm2, not_false_eq_true]; first | done | omega))⟩) | fail))
  refine C (L_lostDigits (fr := nI (lf l 6)) hk2 (by rw [h15]; exact x2 l hl 3 (by decide)) (by rw [h15]; exact x2 l hl 4 (by decide)) ?_)
  (repeat (first | (apply F; conv => whnf) | (refine ⟨rfl, ?_⟩) | (refine ⟨vpk (by decide) ?_, ?_⟩; rfl) | (refine ⟨by assumption, ?_⟩) | (refine ⟨by decide, ?_⟩) | (refine ⟨fun h => absurd h (by decide), fun _ => ?_⟩) | (refine ⟨fun _ => ?_, fun h => absurd (by decide) h⟩) | (refine ⟨fun h => absurd (by decide) h, fun _ => ?_⟩) | (refine ⟨fun _ => ?_, fun h => absurd h (by decide)⟩) | (refine ⟨⟨Nat.le_of_ble_eq_true rfl, Nat.le_of_ble_eq_true rfl⟩, ?_⟩) | (simp (disch := omega) only [nI_clamp, clL, nI_1, nI_add, pk_mul, ni_aL, ni_aR, ni_mL, ni_mR, ni_sR, ni_sb, ni_m1, ni_dv, mj_u_eq, mj_u_ne1, mj_u_ne2]; try (conv => whnf)) | (refine ⟨vpq _ rfl (by omega) (by omega), ?_⟩) | (refine ⟨fun h => absurd h (by (simp (disch := omega) only [nI_1, nI_add, nI_leI, nI_ltI, nI_eq, ni_ltR, ni_ltL, ni_leR, ni_leL, ni_eqR, ni_eqL, ni_nm, ni_nm2, not_false_eq_true]; first | done | omega)), fun _ => ?_⟩) | (refine ⟨fun _ => ?_, fun h => absurd (by (simp (disch := omega) only [nI_1, nI_add, nI_leI, nI_ltI, nI_eq, ni_ltR, ni_ltL, ni_leR, ni_leL, ni_eqR, ni_eqL, ni_nm, ni_nm2, not_false_eq_true]; first | done | omega)) h⟩) | (refine ⟨fun h => absurd (by (simp (disch := omega) only [nI_1, nI_add, nI_leI, nI_ltI, nI_eq, ni_ltR, ni_ltL, ni_leR, ni_leL, ni_eqR, ni_eqL, ni_nm, ni_nm2, not_false_eq_true]; first | done | omega)) h, fun _ => ?_⟩) | (refine ⟨fun _ => ?_, fun h => absurd h (by (simp (disch := omega) only [nI_1, nI_add, nI_leI, nI_ltI, nI_eq, ni_ltR, ni_ltL, ni_leR, ni_leL, ni_eqR, ni_eqL, ni_nm, ni_nm2, not_false_eq_true]; first | done | omega))⟩) | fail))
  refine ⟨hN.1, ?_⟩
  have hgn := gn_lt (fr := nI (lf l 6)) b3 b4
  refine C (M_keepFrom hN ⟨rfl, rfl, rfl, rfl⟩ w1 (by omega) (by omega) (by omega) (fun I1 u2 f2 => ?_))
  have u3 : ∀ b, b ≠ 97 → b ≠ 98 → b ≠ 99 → b ≠ 100 → b ≠ 120 + 2 * (way.length + 1) → b ≠ 120 + 2 * (way.length + 1) + 1 → I1 b = I b := fun b y1 y2 y3 y4 y5 y6 => by rw [f2 b y5 y6]; exact f1 b y1 y2 y3 y4
  have eT : trans (nI dy) (nI (lf l 6)) (rl (lf l 2)) m = bsT dy lf rl l m := rfl
  rw [eT] at u2 ⊢
  have eK : kept (gn (lf l 3) (lf l 4) (nI (lf l 6))) (bsT dy lf rl l m) = bsK dy lf rl l m := rfl
  rw [eK] at u2 ⊢
  have F1 : BsF (way.length) I I1 := ⟨fun b hb => u3 b (by omega) (by omega) (by omega) (by omega) (by omega) (by omega), fun j _ => by rw [u3 118 (by omega) (by omega) (by omega) (by omega) (by omega) (by omega)], by rw [u3 116 (by omega) (by omega) (by omega) (by omega) (by omega) (by omega)]⟩
  have h118 : I1 118 = I 118 := u3 118 (by omega) (by omega) (by omega) (by omega) (by omega) (by omega)
  have h116 : I1 116 = I 116 := u3 116 (by omega) (by omega) (by omega) (by omega) (by omega) (by omega)
  have h119 : I1 119 = I 119 := u3 119 (by omega) (by omega) (by omega) (by omega) (by omega) (by omega)
  have hKd := bsK_dg (dy := dy) (hW _ b2) hm
  have hB1 : bsC I1 B := bsC_congr hB (by rw [h116]) (by rw [h116]) h119
  generalize hL : lost + ((bsT dy lf rl l m).length - (bsK dy lf rl l m).length) = L at hQ
  have hLl : L ≤ 36 * (way.length + 1) := by omega
  have hwl : (way ++ [l]).length = way.length + 1 := by simp
  (repeat (first | (apply F; conv => whnf) | (refine ⟨rfl, ?_⟩) | (refine ⟨vpk (by decide) ?_, ?_⟩; rfl) | (refine ⟨by assumption, ?_⟩) | (refine ⟨by decide, ?_⟩) | (refine ⟨fun h => absurd h (by decide), fun _ => ?_⟩) | (refine ⟨fun _ => ?_, fun h => absurd (by decide) h⟩) | (refine ⟨fun h => absurd (by decide) h, fun _ => ?_⟩) | (refine ⟨fun _ => ?_, fun h => absurd h (by decide)⟩) | (refine ⟨⟨Nat.le_of_ble_eq_true rfl, Nat.le_of_ble_eq_true rfl⟩, ?_⟩) | (simp (disch := omega) only [nI_clamp, clL, nI_1, nI_add, pk_mul, ni_aL, ni_aR, ni_mL, ni_mR, ni_sR, ni_sb, ni_m1, ni_dv, mj_u_eq, mj_u_ne1, mj_u_ne2]; try (conv => whnf)) | (refine ⟨vpq _ rfl (by omega) (by omega), ?_⟩) | (refine ⟨fun h => absurd h (by (simp (disch := omega) only [nI_1, nI_add, nI_leI, nI_ltI, nI_eq, ni_ltR, ni_ltL, ni_leR, ni_leL, ni_eqR, ni_eqL, ni_nm, ni_nm2, not_false_eq_true]; first | done | omega)), fun _ => ?_⟩) | (refine ⟨fun _ => ?_, fun h => absurd (by (simp (disch := omega) only [nI_1, nI_add, nI_leI, nI_ltI, nI_eq, ni_ltR, ni_ltL, ni_leR, ni_leL, ni_eqR, ni_eqL, ni_nm, ni_nm2, not_false_eq_true]; first | done | omega)) h⟩) | (refine ⟨fun h => absurd (by (simp (disch := omega) only [nI_1, nI_add, nI_leI, nI_ltI, nI_eq, ni_ltR, ni_ltL, ni_leR, ni_leL, ni_eqR, ni_eqL, ni_nm, ni_nm2, not_false_eq_true]; first | done | omega)) h, fun _ => ?_⟩) | (refine ⟨fun _ => ?_, fun h => absurd h (by (simp (disch := omega) only [nI_1, nI_add, nI_leI, nI_ltI, nI_eq, ni_ltR, ni_ltL, ni_leR, ni_leL, ni_eqR, ni_eqL, ni_nm, ni_nm2, not_false_eq_true]; first | done | omega))⟩) | fail))
  rw [hL]
  refine C (Rt_isBetter hB1 (by omega) (by omega) (fun q => ?_) (fun q => ?_))
  · (repeat (first | (apply F; conv => whnf) | (refine ⟨rfl, ?_⟩) | (refine ⟨vpk (by decide) ?_, ?_⟩; rfl) | (refine ⟨by assumption, ?_⟩) | (refine ⟨by decide, ?_⟩) | (refine ⟨fun h => absurd h (by decide), fun _ => ?_⟩) | (refine ⟨fun _ => ?_, fun h => absurd (by decide) h⟩) | (refine ⟨fun h => absurd (by decide) h, fun _ => ?_⟩) | (refine ⟨fun _ => ?_, fun h => absurd h (by decide)⟩) | (refine ⟨⟨Nat.le_of_ble_eq_true rfl, Nat.le_of_ble_eq_true rfl⟩, ?_⟩) | (simp (disch := omega) only [nI_clamp, clL, nI_1, nI_add, pk_mul, ni_aL, ni_aR, ni_mL, ni_mR, ni_sR, ni_sb, ni_m1, ni_dv, mj_u_eq, mj_u_ne1, mj_u_ne2, h116, h6]; try (conv => whnf)) | (refine ⟨vpq _ rfl (by omega) (by omega), ?_⟩) | (refine ⟨fun h => absurd h (by (simp (disch := omega) only [nI_1, nI_add, nI_leI, nI_ltI, nI_eq, ni_ltR, ni_ltL, ni_leR, ni_leL, ni_eqR, ni_eqL, ni_nm, ni_nm2, not_false_eq_true]; first | done | omega)), fun _ => ?_⟩) | (refine ⟨fun _ => ?_, fun h => absurd (by (simp (disch := omega) only [nI_1, nI_add, nI_leI, nI_ltI, nI_eq, ni_ltR, ni_ltL, ni_leR, ni_leL, ni_eqR, ni_eqL, ni_nm, ni_nm2, not_false_eq_true]; first | done | omega)) h⟩) | (refine ⟨fun h => absurd (by (simp (disch := omega) only [nI_1, nI_add, nI_leI, nI_ltI, nI_eq, ni_ltR, ni_ltL, ni_leR, ni_leL, ni_eqR, ni_eqL, ni_nm, ni_nm2, not_false_eq_true]; first | done | omega)) h, fun _ => ?_⟩) | (refine ⟨fun _ => ?_, fun h => absurd h (by (simp (disch := omega) only [nI_1, nI_add, nI_leI, nI_ltI, nI_eq, ni_ltR, ni_ltL, ni_leR, ni_leL, ni_eqR, ni_eqL, ni_nm, ni_nm2, not_false_eq_true]; first | done | omega))⟩) | fail))
    rw [bsS_s] at hQ
    by_cases hst : s = to
    · rw [if_pos hst, hwl, if_pos q] at hQ
      subst hst
      (repeat (first | (apply F; conv => whnf) | (refine ⟨rfl, ?_⟩) | (refine ⟨vpk (by decide) ?_, ?_⟩; rfl) | (refine ⟨by assumption, ?_⟩) | (refine ⟨by decide, ?_⟩) | (refine ⟨fun h => absurd h (by decide), fun _ => ?_⟩) | (refine ⟨fun _ => ?_, fun h => absurd (by decide) h⟩) | (refine ⟨fun h => absurd (by decide) h, fun _ => ?_⟩) | (refine ⟨fun _ => ?_, fun h => absurd h (by decide)⟩) | (refine ⟨⟨Nat.le_of_ble_eq_true rfl, Nat.le_of_ble_eq_true rfl⟩, ?_⟩) | (simp (disch := omega) only [nI_clamp, clL, nI_1, nI_add, pk_mul, ni_aL, ni_aR, ni_mL, ni_mR, ni_sR, ni_sb, ni_m1, ni_dv, mj_u_eq, mj_u_ne1, mj_u_ne2]; try (conv => whnf)) | (refine ⟨vpq _ rfl (by omega) (by omega), ?_⟩) | (refine ⟨fun h => absurd h (by (simp (disch := omega) only [nI_1, nI_add, nI_leI, nI_ltI, nI_eq, ni_ltR, ni_ltL, ni_leR, ni_leL, ni_eqR, ni_eqL, ni_nm, ni_nm2, not_false_eq_true]; first | done | omega)), fun _ => ?_⟩) | (refine ⟨fun _ => ?_, fun h => absurd (by (simp (disch := omega) only [nI_1, nI_add, nI_leI, nI_ltI, nI_eq, ni_ltR, ni_ltL, ni_leR, ni_leL, ni_eqR, ni_eqL, ni_nm, ni_nm2, not_false_eq_true]; first | done | omega)) h⟩) | (refine ⟨fun h => absurd (by (simp (disch := omega) only [nI_1, nI_add, nI_leI, nI_ltI, nI_eq, ni_ltR, ni_ltL, ni_leR, ni_leL, ni_eqR, ni_eqL, ni_nm, ni_nm2, not_false_eq_true]; first | done | omega)) h, fun _ => ?_⟩) | (refine ⟨fun _ => ?_, fun h => absurd h (by (simp (disch := omega) only [nI_1, nI_add, nI_leI, nI_ltI, nI_eq, ni_ltR, ni_ltL, ni_leR, ni_leL, ni_eqR, ni_eqL, ni_nm, ni_nm2, not_false_eq_true]; first | done | omega))⟩) | fail))
      refine ⟨⟨rfl, rfl⟩, by decide, ⟨Nat.le_refl 8, Nat.le_refl 8⟩, ?_⟩
      (repeat (first | (apply F; conv => whnf) | (refine ⟨rfl, ?_⟩) | (refine ⟨vpk (by decide) ?_, ?_⟩; rfl) | (refine ⟨by assumption, ?_⟩) | (refine ⟨by decide, ?_⟩) | (refine ⟨fun h => absurd h (by decide), fun _ => ?_⟩) | (refine ⟨fun _ => ?_, fun h => absurd (by decide) h⟩) | (refine ⟨fun h => absurd (by decide) h, fun _ => ?_⟩) | (refine ⟨fun _ => ?_, fun h => absurd h (by decide)⟩) | (refine ⟨⟨Nat.le_of_ble_eq_true rfl, Nat.le_of_ble_eq_true rfl⟩, ?_⟩) | (simp (disch := omega) only [nI_clamp, clL, nI_1, nI_add, pk_mul, ni_aL, ni_aR, ni_mL, ni_mR, ni_sR, ni_sb, ni_m1, ni_dv, mj_u_eq, mj_u_ne1, mj_u_ne2]; try (conv => whnf)) | (refine ⟨vpq _ rfl (by omega) (by omega), ?_⟩) | (refine ⟨fun h => absurd h (by (simp (disch := omega) only [nI_1, nI_add, nI_leI, nI_ltI, nI_eq, ni_ltR, ni_ltL, ni_leR, ni_leL, ni_eqR, ni_eqL, ni_nm, ni_nm2, not_false_eq_true]; first | done | omega)), fun _ => ?_⟩) | (refine ⟨fun _ => ?_, fun h => absurd (by (simp (disch := omega) only [nI_1, nI_add, nI_leI, nI_ltI, nI_eq, ni_ltR, ni_ltL, ni_leR, ni_leL, ni_eqR, ni_eqL, ni_nm, ni_nm2, not_false_eq_true]; first | done | omega)) h⟩) | (refine ⟨fun h => absurd (by (simp (disch := omega) only [nI_1, nI_add, nI_leI, nI_ltI, nI_eq, ni_ltR, ni_ltL, ni_leR, ni_leL, ni_eqR, ni_eqL, ni_nm, ni_nm2, not_false_eq_true]; first | done | omega)) h, fun _ => ?_⟩) | (refine ⟨fun _ => ?_, fun h => absurd h (by (simp (disch := omega) only [nI_1, nI_add, nI_leI, nI_ltI, nI_eq, ni_ltR, ni_ltL, ni_leR, ni_leL, ni_eqR, ni_eqL, ni_nm, ni_nm2, not_false_eq_true]; first | done | omega))⟩) | fail))
      generalize hI2 : mj_u (mj_u I1 116 4 (nI L)) 116 5 (nI (way.length + 1)) = I2
      have g2 : ∀ b, b ≠ 116 → I2 b = I1 b := fun b hb => by rw [← hI2, mj_u_row _ _ _ _ hb, mj_u_row _ _ _ _ hb]
      have g4 : I2 116 4 = nI L := by rw [← hI2]; rfl
      have g5 : I2 116 5 = nI (way.length + 1) := by rw [← hI2]; rfl
      have g6 : I2 116 6 = I1 116 6 := by rw [← hI2]; rfl
      clear hI2
      refine hQ _ ⟨fun b hb => ?_, fun j hj => ?_, ?_⟩ ⟨⟨by show L ≤ 1000; omega, by show (way ++ [l]).length ≤ 7; omega, ?_⟩, ?_, ?_, ?_⟩
      · rw [mj_w_row _ _ _ (by omega), g2 b (by omega)]
        exact F1.1 b hb
      · rw [mj_w_row _ _ _ (by decide), g2 118 (by decide)]
        exact F1.2.1 j hj
      · rw [mj_w_row _ _ _ (by decide), g6]
        exact F1.2.2
      · intro z hz
        rcases List.mem_append.mp hz with hz | hz
        · exact hwx z hz
        · rw [List.mem_singleton.mp hz]; omega
      · rw [mj_w_row _ _ _ (by decide)]
        exact g4
      · rw [mj_w_row _ _ _ (by decide), hwl]
        exact g5
      · intro j hj
        have hj : j < (way ++ [l]).length := hj
        rw [hwl] at hj
        show _ = nI ((way ++ [l]).getD j 0)
        rw [mj_w_eq]
        have e2 : va_cpy (I2 118) (I2 119) 0 0 8 j = I2 118 j := va_cpy_all (by have hj : j < way.length + 1 := hj; omega)
        rw [e2, g2 118 (by decide), h118]
        by_cases w : j = way.length
        · rw [w, snoc_end]; exact hrl
        · rw [snoc_at (by omega)]; exact hrow j (by omega)
    · rw [if_neg hst] at hQ
      have ns : ¬ nI s = nI to := fun z => hst ((nI_eq (by omega) (by omega)).mp z)
      (repeat (first | (apply F; conv => whnf) | (refine ⟨rfl, ?_⟩) | (refine ⟨vpk (by decide) ?_, ?_⟩; rfl) | (refine ⟨by assumption, ?_⟩) | (refine ⟨by decide, ?_⟩) | (refine ⟨fun h => absurd h (by decide), fun _ => ?_⟩) | (refine ⟨fun _ => ?_, fun h => absurd (by decide) h⟩) | (refine ⟨fun h => absurd (by decide) h, fun _ => ?_⟩) | (refine ⟨fun _ => ?_, fun h => absurd h (by decide)⟩) | (refine ⟨⟨Nat.le_of_ble_eq_true rfl, Nat.le_of_ble_eq_true rfl⟩, ?_⟩) | (simp (disch := omega) only [nI_clamp, clL, nI_1, nI_add, pk_mul, ni_aL, ni_aR, ni_mL, ni_mR, ni_sR, ni_sb, ni_m1, ni_dv, mj_u_eq, mj_u_ne1, mj_u_ne2]; try (conv => whnf)) | (refine ⟨vpq _ rfl (by omega) (by omega), ?_⟩) | (refine ⟨fun h => absurd h (by (simp (disch := omega) only [nI_1, nI_add, nI_leI, nI_ltI, nI_eq, ni_ltR, ni_ltL, ni_leR, ni_leL, ni_eqR, ni_eqL, ni_nm, ni_nm2, not_false_eq_true]; first | done | omega)), fun _ => ?_⟩) | (refine ⟨fun _ => ?_, fun h => absurd (by (simp (disch := omega) only [nI_1, nI_add, nI_leI, nI_ltI, nI_eq, ni_ltR, ni_ltL, ni_leR, ni_leL, ni_eqR, ni_eqL, ni_nm, ni_nm2, not_false_eq_true]; first | done | omega)) h⟩) | (refine ⟨fun h => absurd (by (simp (disch := omega) only [nI_1, nI_add, nI_leI, nI_ltI, nI_eq, ni_ltR, ni_ltL, ni_leR, ni_leL, ni_eqR, ni_eqL, ni_nm, ni_nm2, not_false_eq_true]; first | done | omega)) h, fun _ => ?_⟩) | (refine ⟨fun _ => ?_, fun h => absurd h (by (simp (disch := omega) only [nI_1, nI_add, nI_leI, nI_ltI, nI_eq, ni_ltR, ni_ltL, ni_leR, ni_leL, ni_eqR, ni_eqL, ni_nm, ni_nm2, not_false_eq_true]; first | done | omega))⟩) | (refine ⟨nb_bz, ?_⟩) | (refine ⟨fun _ => ?_, fun h => absurd (by assumption) h⟩) | (refine ⟨fun h => absurd h (by assumption), fun _ => ?_⟩) | (refine ⟨fun h => absurd (by assumption) h, fun _ => ?_⟩) | (refine ⟨fun _ => ?_, fun h => absurd h (by assumption)⟩) | fail))
      have hO := hO s been (way ++ [l]) L (bsK dy lf rl l m) B I1
      rw [hwl] at hO
      refine C (hO _ hs hst (by omega) hbn (by omega) hKd hLl (fun z hz => ?_) u2 (fun j hj => ?_) (by rw [h116]; exact h6) hB1 (BsX_congr hX a3 hln (fun b hb => u3 b (by omega) (by omega) (by omega) (by omega) (by omega) (by omega))) (fun I2 v1 v2 => ?_))
      · rcases List.mem_append.mp hz with hz | hz
        · exact hwx z hz
        · rw [List.mem_singleton.mp hz]; omega
      · rw [h118]
        by_cases w : j = way.length
        · rw [w, snoc_end]; exact hrl
        · rw [snoc_at (by omega)]; exact hrow j (by omega)
      · (repeat (first | (apply F; conv => whnf) | (refine ⟨rfl, ?_⟩) | (refine ⟨vpk (by decide) ?_, ?_⟩; rfl) | (refine ⟨by assumption, ?_⟩) | (refine ⟨by decide, ?_⟩) | (refine ⟨fun h => absurd h (by decide), fun _ => ?_⟩) | (refine ⟨fun _ => ?_, fun h => absurd (by decide) h⟩) | (refine ⟨fun h => absurd (by decide) h, fun _ => ?_⟩) | (refine ⟨fun _ => ?_, fun h => absurd h (by decide)⟩) | (refine ⟨⟨Nat.le_of_ble_eq_true rfl, Nat.le_of_ble_eq_true rfl⟩, ?_⟩) | (simp (disch := omega) only [nI_clamp, clL, nI_1, nI_add, pk_mul, ni_aL, ni_aR, ni_mL, ni_mR, ni_sR, ni_sb, ni_m1, ni_dv, mj_u_eq, mj_u_ne1, mj_u_ne2]; try (conv => whnf)) | (refine ⟨vpq _ rfl (by omega) (by omega), ?_⟩) | (refine ⟨fun h => absurd h (by (simp (disch := omega) only [nI_1, nI_add, nI_leI, nI_ltI, nI_eq, ni_ltR, ni_ltL, ni_leR, ni_leL, ni_eqR, ni_eqL, ni_nm, ni_nm2, not_false_eq_true]; first | done | omega)), fun _ => ?_⟩) | (refine ⟨fun _ => ?_, fun h => absurd (by (simp (disch := omega) only [nI_1, nI_add, nI_leI, nI_ltI, nI_eq, ni_ltR, ni_ltL, ni_leR, ni_leL, ni_eqR, ni_eqL, ni_nm, ni_nm2, not_false_eq_true]; first | done | omega)) h⟩) | (refine ⟨fun h => absurd (by (simp (disch := omega) only [nI_1, nI_add, nI_leI, nI_ltI, nI_eq, ni_ltR, ni_ltL, ni_leR, ni_leL, ni_eqR, ni_eqL, ni_nm, ni_nm2, not_false_eq_true]; first | done | omega)) h, fun _ => ?_⟩) | (refine ⟨fun _ => ?_, fun h => absurd h (by (simp (disch := omega) only [nI_1, nI_add, nI_leI, nI_ltI, nI_eq, ni_ltR, ni_ltL, ni_leR, ni_leL, ni_eqR, ni_eqL, ni_nm, ni_nm2, not_false_eq_true]; first | done | omega))⟩) | fail))
        exact hQ I2 (BsF_tr F1 (BsF_up v1)) v2
  · (repeat (first | (apply F; conv => whnf) | (refine ⟨rfl, ?_⟩) | (refine ⟨vpk (by decide) ?_, ?_⟩; rfl) | (refine ⟨by assumption, ?_⟩) | (refine ⟨by decide, ?_⟩) | (refine ⟨fun h => absurd h (by decide), fun _ => ?_⟩) | (refine ⟨fun _ => ?_, fun h => absurd (by decide) h⟩) | (refine ⟨fun h => absurd (by decide) h, fun _ => ?_⟩) | (refine ⟨fun _ => ?_, fun h => absurd h (by decide)⟩) | (refine ⟨⟨Nat.le_of_ble_eq_true rfl, Nat.le_of_ble_eq_true rfl⟩, ?_⟩) | (simp (disch := omega) only [nI_clamp, clL, nI_1, nI_add, pk_mul, ni_aL, ni_aR, ni_mL, ni_mR, ni_sR, ni_sb, ni_m1, ni_dv, mj_u_eq, mj_u_ne1, mj_u_ne2]; try (conv => whnf)) | (refine ⟨vpq _ rfl (by omega) (by omega), ?_⟩) | (refine ⟨fun h => absurd h (by (simp (disch := omega) only [nI_1, nI_add, nI_leI, nI_ltI, nI_eq, ni_ltR, ni_ltL, ni_leR, ni_leL, ni_eqR, ni_eqL, ni_nm, ni_nm2, not_false_eq_true]; first | done | omega)), fun _ => ?_⟩) | (refine ⟨fun _ => ?_, fun h => absurd (by (simp (disch := omega) only [nI_1, nI_add, nI_leI, nI_ltI, nI_eq, ni_ltR, ni_ltL, ni_leR, ni_leL, ni_eqR, ni_eqL, ni_nm, ni_nm2, not_false_eq_true]; first | done | omega)) h⟩) | (refine ⟨fun h => absurd (by (simp (disch := omega) only [nI_1, nI_add, nI_leI, nI_ltI, nI_eq, ni_ltR, ni_ltL, ni_leR, ni_leL, ni_eqR, ni_eqL, ni_nm, ni_nm2, not_false_eq_true]; first | done | omega)) h, fun _ => ?_⟩) | (refine ⟨fun _ => ?_, fun h => absurd h (by (simp (disch := omega) only [nI_1, nI_add, nI_leI, nI_ltI, nI_eq, ni_ltR, ni_ltL, ni_leR, ni_leL, ni_eqR, ni_eqL, ni_nm, ni_nm2, not_false_eq_true]; first | done | omega))⟩) | fail))
    refine hQ I1 F1 ?_
    rw [bs_cut _ _ _ _ _ _ _ (by rw [hwl]; exact q)]
    exact hB1
