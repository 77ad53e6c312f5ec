/-! cure: what sets explain all looks -/
theorem kept_cong {a b : Nat} {l : List Nat} (h : ∀ x ∈ l, a.testBit x = b.testBit x) : kept a l = kept b l := by
  unfold kept
  exact List.filter_congr (fun x hx => by rw [h x hx])
theorem tb1023 {i : Nat} (h : i < 10) : Nat.testBit 1023 i = true := by
  rcases (show i = 0 ∨ i = 1 ∨ i = 2 ∨ i = 3 ∨ i = 4 ∨ i = 5 ∨ i = 6 ∨ i = 7 ∨ i = 8 ∨ i = 9 by omega) with rfl | rfl | rfl | rfl | rfl | rfl | rfl | rfl | rfl | rfl <;> decide
def okL (L H n : Nat) : Prop := ∀ i, i < 10 → (L.testBit i = true → n.testBit i = true) ∧ (H.testBit i = true → n.testBit i = false)
theorem lk_ok {p s : List Nat} {n : Nat} (hp : ∀ x ∈ p, x < 10) (hs : ∀ x ∈ s, x < 10) : kept n p = s ↔ okL (lkX p s).1 (lkX p s).2 n := by
  have bL : ∀ i, i < 10 → ((dset p &&& (1023 ^^^ dset s)).testBit i = true ↔ (i ∈ p ∧ ¬ i ∈ s)) := by
    intro i hi
    rw [Nat.testBit_and, Nat.testBit_xor, tb1023 hi, Bool.and_eq_true, dset_bit]
    constructor
    · intro ⟨h1, h2⟩
      refine ⟨h1, fun h3 => ?_⟩
      rw [(dset_bit s i).mpr h3] at h2
      cases h2
    · intro ⟨h1, h2⟩
      refine ⟨h1, ?_⟩
      cases h : (dset s).testBit i with
      | true => exact absurd ((dset_bit s i).mp h) h2
      | false => rfl
  have key : kept n p = s → kept (dset p &&& (1023 ^^^ dset s)) p = s ∧ okL (dset p &&& (1023 ^^^ dset s)) (dset s) n := by
    intro h
    have hin : ∀ x, x ∈ p → (n.testBit x = false ↔ x ∈ s) := by
      intro x hx
      rw [← h]
      unfold kept
      rw [List.mem_filter]
      constructor
      · intro q; exact ⟨hx, by rw [q]; rfl⟩
      · intro q
        cases hb : n.testBit x with
        | true => rw [hb] at q; exact absurd q.2 (by decide)
        | false => rfl
    have hsp : ∀ x, x ∈ s → x ∈ p := by
      intro x hx
      rw [← h] at hx
      exact (List.mem_filter.mp hx).1
    refine ⟨?_, fun i hi => ⟨fun q => ?_, fun q => ?_⟩⟩
    · refine Eq.trans (kept_cong (b := n) (fun x hx => ?_)) h
      have hx10 := hp x hx
      cases hb : n.testBit x with
      | true =>
        apply (bL x hx10).mpr
        refine ⟨hx, fun y => ?_⟩
        rw [(hin x hx).mpr y] at hb
        cases hb
      | false =>
        cases hc : (dset p &&& (1023 ^^^ dset s)).testBit x with
        | true => exact absurd ((hin x hx).mp hb) ((bL x hx10).mp hc).2
        | false => rfl
    · have q := (bL i hi).mp q
      cases hb : n.testBit i with
      | true => rfl
      | false => exact absurd ((hin i q.1).mp hb) q.2
    · have q := (dset_bit s i).mp q
      exact (hin i (hsp i q)).mpr q
  by_cases e : kept (dset p &&& (1023 ^^^ dset s)) p = s
  · have eX : lkX p s = (dset p &&& (1023 ^^^ dset s), dset s) := if_pos e
    rw [eX]
    constructor
    · intro h; exact (key h).2
    · intro h
      refine Eq.trans (kept_cong (fun x hx => ?_)) e
      have hx10 := hp x hx
      obtain ⟨h1, h2⟩ := h x hx10
      cases hc : (dset p &&& (1023 ^^^ dset s)).testBit x with
      | true => exact h1 hc
      | false =>
        apply h2
        apply (dset_bit s x).mpr
        by_cases y : x ∈ s
        · exact y
        · rw [(bL x hx10).mpr ⟨hx, y⟩] at hc
          cases hc
  · have eX : lkX p s = (1023, 1023) := if_neg e
    rw [eX]
    constructor
    · intro h; exact absurd (key h).1 e
    · intro h
      obtain ⟨h1, h2⟩ := h 0 (by decide)
      have a1 := h1 (by decide)
      have a2 := h2 (by decide)
      rw [a1] at a2
      cases a2
def orS (g : Lk → Nat) (l : Nat) (lk : List Lk) : Nat := lk.foldl (fun a e => if e.1 = l then a ||| g e else a) 0
theorem orS_bit0 (g : Lk → Nat) (l i : Nat) : ∀ (lk : List Lk) (a : Nat), (lk.foldl (fun a e => if e.1 = l then a ||| g e else a) a).testBit i = true ↔ a.testBit i = true ∨ ∃ e ∈ lk, e.1 = l ∧ (g e).testBit i = true
  | [], a => by simp
  | e :: r, a => by
    rw [List.foldl_cons, orS_bit0 g l i r]
    by_cases h : e.1 = l
    · rw [if_pos h, Nat.testBit_or, Bool.or_eq_true]
      constructor
      · rintro ((q | q) | ⟨x, hx, q⟩)
        · exact Or.inl q
        · exact Or.inr ⟨e, List.mem_cons_self, h, q⟩
        · exact Or.inr ⟨x, List.mem_cons_of_mem _ hx, q⟩
      · rintro (q | ⟨x, hx, q1, q2⟩)
        · exact Or.inl (Or.inl q)
        · rcases List.mem_cons.mp hx with rfl | hx
          · exact Or.inl (Or.inr q2)
          · exact Or.inr ⟨x, hx, q1, q2⟩
    · rw [if_neg h]
      constructor
      · rintro (q | ⟨x, hx, q⟩)
        · exact Or.inl q
        · exact Or.inr ⟨x, List.mem_cons_of_mem _ hx, q⟩
      · rintro (q | ⟨x, hx, q1, q2⟩)
        · exact Or.inl q
        · rcases List.mem_cons.mp hx with rfl | hx
          · exact absurd q1 h
          · exact Or.inr ⟨x, hx, q1, q2⟩
theorem orS_bit (g : Lk → Nat) (l i : Nat) (lk : List Lk) : (orS g l lk).testBit i = true ↔ ∃ e ∈ lk, e.1 = l ∧ (g e).testBit i = true := by
  unfold orS
  rw [orS_bit0]
  simp
theorem orS_lt {g : Lk → Nat} {l : Nat} : ∀ (lk : List Lk) (a : Nat), a < 1024 → (∀ e ∈ lk, g e < 1024) → lk.foldl (fun a e => if e.1 = l then a ||| g e else a) a < 1024
  | [], a, ha, _ => ha
  | e :: r, a, ha, h => by
    rw [List.foldl_cons]
    refine orS_lt r _ ?_ (fun x hx => h x (List.mem_cons_of_mem _ hx))
    split
    · exact Nat.or_lt_two_pow (n := 10) ha (h e List.mem_cons_self)
    · exact ha
/-- a set explains all looks at a line -/
def okA (lk : List Lk) (l n : Nat) : Prop := ∀ e ∈ lk, e.1 = l → kept n e.2.1 = e.2.2
theorem okA_L {lk : List Lk} {l n : Nat} (hd : ∀ e ∈ lk, dg 12 e.2.1 ∧ dg 12 e.2.2 ∧ e.1 < 12) : okA lk l n ↔ okL (orS (fun e => (lkX e.2.1 e.2.2).1) l lk) (orS (fun e => (lkX e.2.1 e.2.2).2) l lk) n := by
  constructor
  · intro h i hi
    constructor
    · intro q
      obtain ⟨e, he, q1, q2⟩ := (orS_bit _ l i lk).mp q
      exact (((lk_ok (hd e he).1.2 (hd e he).2.1.2).mp (h e he q1)) i hi).1 q2
    · intro q
      obtain ⟨e, he, q1, q2⟩ := (orS_bit _ l i lk).mp q
      exact (((lk_ok (hd e he).1.2 (hd e he).2.1.2).mp (h e he q1)) i hi).2 q2
  · intro h e he q1
    apply (lk_ok (hd e he).1.2 (hd e he).2.1.2).mpr
    intro i hi
    exact ⟨fun q => (h i hi).1 ((orS_bit _ l i lk).mpr ⟨e, he, q1, q⟩), fun q => (h i hi).2 ((orS_bit _ l i lk).mpr ⟨e, he, q1, q⟩)⟩
/-! how many sets there are -/
def okb (L H : Nat) : Nat → Nat → Bool
  | 0, _ => true
  | w + 1, n => okb L H w n && ((!L.testBit w || n.testBit w) && (!H.testBit w || !n.testBit w))
theorem okb_s (L H w n : Nat) : okb L H (w + 1) n = (okb L H w n && ((!L.testBit w || n.testBit w) && (!H.testBit w || !n.testBit w))) := rfl
theorem okb_iff (L H : Nat) : ∀ (w n : Nat), okb L H w n = true ↔ ∀ i, i < w → (L.testBit i = true → n.testBit i = true) ∧ (H.testBit i = true → n.testBit i = false)
  | 0, n => by simp [okb]
  | w + 1, n => by
    unfold okb
    rw [Bool.and_eq_true, okb_iff L H w n]
    constructor
    · rintro ⟨h1, h2⟩ i hi
      rcases Nat.lt_or_ge i w with z | z
      · exact h1 i z
      · have : i = w := by omega
        subst this
        revert h2
        cases L.testBit i <;> cases H.testBit i <;> cases n.testBit i <;> simp
    · intro h
      refine ⟨fun i hi => h i (by omega), ?_⟩
      have := h w (by omega)
      revert this
      cases L.testBit w <;> cases H.testBit w <;> cases n.testBit w <;> simp
def cw (L H w : Nat) : Nat := (List.range (2 ^ w)).countP (okb L H w)
theorem okb_low (L H : Nat) : ∀ (w v n : Nat), w ≤ v → okb L H w (2 ^ v + n) = okb L H w n
  | 0, _, _, _ => rfl
  | w + 1, v, n, h => by
    rw [okb_s, okb_s, okb_low L H w v n (by omega), Nat.testBit_two_pow_add_gt (by omega)]
theorem cw_succ (L H w : Nat) : cw L H (w + 1) = (if L.testBit w = true then 0 else cw L H w) + (if H.testBit w = true then 0 else cw L H w) := by
  unfold cw
  rw [Nat.pow_succ, Nat.mul_two, List.range_add, List.countP_append, List.countP_map]
  congr 1
  · by_cases h : L.testBit w = true
    · rw [if_pos h]
      apply List.countP_eq_zero.mpr
      intro n hn
      rw [okb_s, h, Nat.testBit_lt_two_pow (List.mem_range.mp hn)]
      simp
    · rw [if_neg h]
      apply List.countP_congr
      intro n hn
      rw [okb_s, Nat.testBit_lt_two_pow (List.mem_range.mp hn)]
      cases hL : L.testBit w with
      | true => exact absurd hL h
      | false => simp
  · by_cases h : H.testBit w = true
    · rw [if_pos h]
      apply List.countP_eq_zero.mpr
      intro n hn
      show ¬ okb L H (w + 1) (2 ^ w + n) = true
      rw [okb_s, h, Nat.testBit_two_pow_add_eq, Nat.testBit_lt_two_pow (List.mem_range.mp hn)]
      simp
    · rw [if_neg h]
      apply List.countP_congr
      intro n hn
      show okb L H (w + 1) (2 ^ w + n) = true ↔ _
      rw [okb_s, okb_low L H w w n (Nat.le_refl w), Nat.testBit_two_pow_add_eq, Nat.testBit_lt_two_pow (List.mem_range.mp hn)]
      cases hH : H.testBit w with
      | true => exact absurd hH h
      | false => simp
def pcw (x : Nat) : Nat → Nat
  | 0 => 0
  | w + 1 => pcw x w + (if x.testBit w = true then 1 else 0)
theorem pcw_s (x w : Nat) : pcw x (w + 1) = pcw x w + (if x.testBit w = true then 1 else 0) := rfl
theorem pcw_le (x : Nat) : ∀ w, pcw x w ≤ w
  | 0 => Nat.le_refl 0
  | w + 1 => by
    have := pcw_le x w
    unfold pcw
    split <;> omega
theorem cw_val {L H : Nat} (h : ∀ i, ¬ (L.testBit i = true ∧ H.testBit i = true)) : ∀ w, cw L H w = 2 ^ (w - pcw (L ||| H) w)
  | 0 => rfl
  | w + 1 => by
    rw [cw_succ, cw_val h w]
    have hp := pcw_le (L ||| H) w
    have hw := h w
    rw [pcw_s, Nat.testBit_or]
    cases hL : L.testBit w <;> cases hH : H.testBit w
    · simp only [Bool.false_or, if_false, Bool.false_eq_true, Nat.add_zero]
      rw [show w + 1 - pcw (L ||| H) w = (w - pcw (L ||| H) w) + 1 by omega, Nat.pow_succ]
      omega
    · simp
    · simp
    · exact absurd ⟨hL, hH⟩ hw
/-! the reference's count, its first and its last -/
def cuN (p : Nat → Prop) [DecidablePred p] : Nat → Nat
  | 0 => 0
  | i + 1 => if p i then cuN p i + 1 else cuN p i
def cuF (p : Nat → Prop) [DecidablePred p] : Nat → Int32
  | 0 => -1
  | i + 1 => if p i then (if cuN p i = 0 then nI i else cuF p i) else cuF p i
def cuL (p : Nat → Prop) [DecidablePred p] : Nat → Int32
  | 0 => -1
  | i + 1 => if p i then nI i else cuL p i
theorem cuN_s (p : Nat → Prop) [DecidablePred p] (i : Nat) : cuN p (i + 1) = if p i then cuN p i + 1 else cuN p i := rfl
theorem cuN_le (p : Nat → Prop) [DecidablePred p] : ∀ i, cuN p i ≤ i
  | 0 => Nat.le_refl 0
  | i + 1 => by
    have := cuN_le p i
    unfold cuN
    split <;> omega
theorem cuN_cnt {p : Nat → Prop} [DecidablePred p] {q : Nat → Bool} {N : Nat} (h : ∀ i, i < N → (p i ↔ q i = true)) : ∀ i, i ≤ N → cuN p i = (List.range i).countP q
  | 0, _ => rfl
  | i + 1, hi => by
    rw [List.range_succ, List.countP_append, ← cuN_cnt h i (by omega), cuN_s]
    by_cases z : p i
    · rw [if_pos z]
      simp [(h i (by omega)).mp z]
    · rw [if_neg z]
      have : q i = false := by
        cases hq : q i with
        | true => exact absurd ((h i (by omega)).mpr hq) z
        | false => rfl
      simp [this]
theorem cu_no {p : Nat → Prop} [DecidablePred p] {N : Nat} (h : ∀ i, i < N → ¬ p i) : ∀ i, i ≤ N → cuN p i = 0 ∧ cuF p i = -1 ∧ cuL p i = -1
  | 0, _ => ⟨rfl, rfl, rfl⟩
  | i + 1, hi => by
    obtain ⟨h1, h2, h3⟩ := cu_no h i (by omega)
    have z := h i (by omega)
    unfold cuN cuF cuL
    rw [if_neg z, if_neg z, if_neg z]
    exact ⟨h1, h2, h3⟩
theorem cuF_val {p : Nat → Prop} [DecidablePred p] {L : Nat} (h1 : p L) (h2 : ∀ i, i < L → ¬ p i) : ∀ m, cuF p (L + 1 + m) = nI L ∧ 0 < cuN p (L + 1 + m)
  | 0 => by
    obtain ⟨a1, a2, a3⟩ := cu_no h2 L (Nat.le_refl L)
    show (if p L then (if cuN p L = 0 then nI L else cuF p L) else cuF p L) = nI L ∧ 0 < (if p L then cuN p L + 1 else cuN p L)
    rw [if_pos h1, if_pos a1, if_pos h1]
    exact ⟨rfl, by omega⟩
  | m + 1 => by
    obtain ⟨b1, b2⟩ := cuF_val h1 h2 m
    show (if p (L + 1 + m) then (if cuN p (L + 1 + m) = 0 then nI (L + 1 + m) else cuF p (L + 1 + m)) else cuF p (L + 1 + m)) = nI L ∧ 0 < (if p (L + 1 + m) then cuN p (L + 1 + m) + 1 else cuN p (L + 1 + m))
    rw [if_neg (show ¬ cuN p (L + 1 + m) = 0 by omega), b1]
    constructor
    · split <;> rfl
    · split <;> omega
theorem cuL_val {p : Nat → Prop} [DecidablePred p] {L : Nat} (h1 : p L) : ∀ m, (∀ i, L < i → i < L + 1 + m → ¬ p i) → cuL p (L + 1 + m) = nI L
  | 0, _ => if_pos h1
  | m + 1, h2 => by
    show (if p (L + 1 + m) then nI (L + 1 + m) else cuL p (L + 1 + m)) = nI L
    rw [if_neg (h2 _ (by omega) (by omega))]
    exact cuL_val h1 m (fun i i1 i2 => h2 i i1 (by omega))
