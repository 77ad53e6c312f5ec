/-! text: tokens -/
def isLet (b : Nat) : Bool := (decide (97 ≤ b) && decide (b ≤ 122)) || (decide (65 ≤ b) && decide (b ≤ 90))
def isDig (b : Nat) : Bool := decide (48 ≤ b) && decide (b ≤ 57)
def isBlk (b : Nat) : Bool := decide (b = 32) || decide (b = 10)
def isSgn (b : Nat) : Bool := [59, 43, 45, 42, 47, 40, 41, 60, 61, 62].contains b
/-- the end of what stands together from p on -/
def rune (f : Nat → Bool) (tp : List Nat) (p : Nat) : Nat := p + ((tp.drop p).takeWhile f).length
theorem drop_n {l : List Nat} {p : Nat} (h : p < l.length) : l.drop p = l.getD p 0 :: l.drop (p + 1) := by
  rw [gD h, List.drop_eq_getElem_cons h]
theorem rune_y {f : Nat → Bool} {tp : List Nat} {p : Nat} (h : p < tp.length) (hf : f (tp.getD p 0) = true) : rune f tp p = rune f tp (p + 1) := by
  unfold rune
  rw [drop_n h, List.takeWhile_cons, hf]
  simp
  omega
theorem rune_n {f : Nat → Bool} {tp : List Nat} {p : Nat} (h : p < tp.length) (hf : f (tp.getD p 0) = false) : rune f tp p = p := by
  unfold rune
  rw [drop_n h, List.takeWhile_cons, hf]
  simp
theorem rune_e {f : Nat → Bool} {tp : List Nat} {p : Nat} (h : tp.length ≤ p) : rune f tp p = p := by
  unfold rune
  rw [List.drop_eq_nil_of_le h]
  simp
theorem rune_le {f : Nat → Bool} {tp : List Nat} {p : Nat} (h : p ≤ tp.length) : rune f tp p ≤ tp.length := by
  unfold rune
  have : ((tp.drop p).takeWhile f).length ≤ (tp.drop p).length := (List.takeWhile_sublist f).length_le
  rw [List.length_drop] at this
  omega
theorem rune_ge (f : Nat → Bool) (tp : List Nat) (p : Nat) : p ≤ rune f tp p := Nat.le_add_right _ _
theorem rune_take (f : Nat → Bool) (tp : List Nat) (p : Nat) : (tp.drop p).take (rune f tp p - p) = (tp.drop p).takeWhile f := by
  unfold rune
  rw [Nat.add_sub_cancel_left]
  exact (List.prefix_iff_eq_take.mp (List.takeWhile_prefix f)).symm
theorem rune_all {f : Nat → Bool} {tp : List Nat} {p j : Nat} (h1 : p ≤ j) (h2 : j < rune f tp p) : f (tp.getD j 0) = true ∧ j < tp.length := by
  unfold rune at h2
  have hs : ((tp.drop p).takeWhile f).length ≤ (tp.drop p).length := (List.takeWhile_sublist f).length_le
  rw [List.length_drop] at hs
  have hj : j < tp.length := by omega
  refine ⟨?_, hj⟩
  have hm : ((tp.drop p).takeWhile f)[j - p]'(by omega) ∈ (tp.drop p).takeWhile f := List.getElem_mem _
  have hp := (List.takeWhile_prefix (l := tp.drop p) f).getElem (i := j - p) (by omega)
  have hk : f (((tp.drop p).takeWhile f)[j - p]'(by omega)) = true := by
    have := List.all_takeWhile (p := f) (l := tp.drop p)
    rw [List.all_eq_true] at this
    exact this _ hm
  rw [hp, List.getElem_drop] at hk
  rw [gD hj]
  have e : p + (j - p) = j := by omega
  simp only [e] at hk
  exact hk
def kw0 : List Nat := [116, 111]
def kw1 : List Nat := [110, 111, 110, 101]
def kw2 : List Nat := [119, 104, 101, 110]
def kw3 : List Nat := [111, 114]
def kw4 : List Nat := [97, 110, 100]
def kw5 : List Nat := [110, 111, 116]
def kw6 : List Nat := [100, 97, 121]
def kw7 : List Nat := [102, 114, 111, 115, 116]
def kw8 : List Nat := [112, 108, 97, 99, 101]
def kw9 : List Nat := [108, 101, 110, 103, 116, 104]
def kw10 : List Nat := [108, 101, 102, 116]
def kw11 : List Nat := [114, 105, 103, 104, 116]
def kwT (w : List Nat) : Nat := if w = kw0 then 10100 else if w = kw1 then 10101 else if w = kw2 then 10102 else if w = kw3 then 10103 else if w = kw4 then 10104 else if w = kw5 then 10105 else if w = kw6 then 10106 else if w = kw7 then 10107 else if w = kw8 then 10108 else if w = kw9 then 10109 else if w = kw10 then 10110 else if w = kw11 then 10111 else 10001
theorem kwT_lt (w : List Nat) : 10001 ≤ kwT w ∧ kwT w < 10112 ∧ kwT w ≠ 10002 := by
  unfold kwT
  repeat' split
  all_goals decide
abbrev Tk : Type := Nat × Nat × List Nat
/-- the token from p on: its place, its end, its code -/
def lx (tp : List Nat) (p : Nat) : Nat × Nat × Nat :=
  if tp.length ≤ rune isBlk tp p then (rune isBlk tp p, rune isBlk tp p, 10000)
  else if isLet (tp.getD (rune isBlk tp p) 0) = true then (rune isBlk tp p, rune isLet tp (rune isBlk tp p), kwT ((tp.drop (rune isBlk tp p)).takeWhile isLet))
  else if isDig (tp.getD (rune isBlk tp p) 0) = true then (rune isBlk tp p, rune isDig tp (rune isBlk tp p), if rune isDig tp (rune isBlk tp p) - rune isBlk tp p ≤ 4 then 10002 else 10001)
  else (rune isBlk tp p, rune isBlk tp p + 1, if isSgn (tp.getD (rune isBlk tp p) 0) = true then 10200 + tp.getD (rune isBlk tp p) 0 else 10001)
def dgt (tp : List Nat) (q r : Nat) : List Nat := ((tp.drop q).take (r - q)).map (fun b => b - 48)
def tkl (tp : List Nat) : Nat → Nat → List Tk
  | 0, _ => []
  | n + 1, p => if (lx tp p).2.2 = 10000 then [] else ((lx tp p).2.2, (lx tp p).1, dgt tp (lx tp p).1 (lx tp p).2.1) :: tkl tp n (lx tp p).2.1
theorem lx_1 (tp : List Nat) (p : Nat) : (lx tp p).1 = rune isBlk tp p := by
  unfold lx
  repeat' split
  all_goals rfl
/-- what a token's numbers say -/
theorem lx_ok {tp : List Nat} {p : Nat} (hp : p ≤ tp.length) (hb : ∀ x ∈ tp, x < 256) : (lx tp p).1 ≤ (lx tp p).2.1 ∧ (lx tp p).2.1 ≤ tp.length ∧ ((lx tp p).2.2 = 10000 → (lx tp p).1 = tp.length ∧ (lx tp p).2.1 = tp.length) ∧ ((lx tp p).2.2 ≠ 10000 → (lx tp p).1 < (lx tp p).2.1) ∧ (lx tp p).2.2 < 10500 ∧ ((lx tp p).2.2 = 10002 → (lx tp p).2.1 - (lx tp p).1 ≤ 4 ∧ ∀ j, (lx tp p).1 ≤ j → j < (lx tp p).2.1 → isDig (tp.getD j 0) = true) := by
  have h1 := rune_le (f := isBlk) hp
  have hkw := kwT_lt ((tp.drop (rune isBlk tp p)).takeWhile isLet)
  unfold lx
  generalize rune isBlk tp p = q at *
  split
  · rename_i h
    exact ⟨Nat.le_refl _, h1, fun _ => ⟨by show q = tp.length; omega, by show q = tp.length; omega⟩, fun z => absurd rfl z, by show 10000 < 10500; decide, fun z => absurd z (show ¬ (10000 : Nat) = 10002 by decide)⟩
  · rename_i h
    have hq : q < tp.length := by omega
    split
    · rename_i hl
      have h2 := rune_le (f := isLet) h1
      have h3 := rune_ge isLet tp (q + 1)
      rw [← rune_y hq hl] at h3
      refine ⟨by show q ≤ rune isLet tp q; omega, h2, fun z => ?_, fun _ => by show q < rune isLet tp q; omega, by show kwT _ < 10500; omega, fun z => ?_⟩
      · have z : kwT _ = 10000 := z
        omega
      · have z : kwT _ = 10002 := z
        omega
    · split
      · rename_i hl hd
        have h2 := rune_le (f := isDig) h1
        have h3 := rune_ge isDig tp (q + 1)
        rw [← rune_y hq hd] at h3
        refine ⟨by show q ≤ rune isDig tp q; omega, h2, fun z => ?_, fun _ => by show q < rune isDig tp q; omega, ?_, fun z => ?_⟩
        · exfalso
          have z : (if rune isDig tp q - q ≤ 4 then 10002 else 10001) = 10000 := z
          split at z <;> cases z
        · show (if rune isDig tp q - q ≤ 4 then 10002 else 10001) < 10500
          split <;> decide
        · have z : (if rune isDig tp q - q ≤ 4 then 10002 else 10001) = 10002 := z
          split at z
          · rename_i h4
            exact ⟨h4, fun j j1 j2 => (rune_all j1 j2).1⟩
          · cases z
      · have hb1 := hb _ (gDm hq)
        have hn : ∀ c, c < 256 → ¬ (if isSgn c = true then 10200 + c else 10001) = 10000 ∧ ¬ (if isSgn c = true then 10200 + c else 10001) = 10002 ∧ (if isSgn c = true then 10200 + c else 10001) < 10500 := by
          intro c hc
          split <;> omega
        obtain ⟨n1, n2, n3⟩ := hn _ hb1
        refine ⟨by show q ≤ q + 1; omega, by show q + 1 ≤ tp.length; omega, fun z => absurd z n1, fun _ => by show q < q + 1; omega, n3, fun z => absurd z n2⟩
theorem tkl_f {tp : List Nat} (hb : ∀ x ∈ tp, x < 256) : ∀ (n m p : Nat), p ≤ tp.length → tp.length - p < n → tp.length - p < m → tkl tp n p = tkl tp m p
  | 0, _, _, _, h, _ => absurd h (Nat.not_lt_zero _)
  | _, 0, _, _, _, h => absurd h (Nat.not_lt_zero _)
  | n + 1, m + 1, p, hp, h1, h2 => by
    obtain ⟨a1, a2, a3, a4, a5, a6⟩ := lx_ok hp hb
    unfold tkl
    by_cases z : (lx tp p).2.2 = 10000
    · rw [if_pos z, if_pos z]
    · rw [if_neg z, if_neg z]
      have a4 := a4 z
      have a7 := rune_ge isBlk tp p
      rw [← lx_1] at a7
      rw [tkl_f hb n m _ a2 (by omega) (by omega)]
/-- the tokens from p on -/
def TS (tp : List Nat) (p : Nat) : List Tk := tkl tp (tp.length + 1) p
theorem TS_e {tp : List Nat} {p : Nat} (z : (lx tp p).2.2 = 10000) : TS tp p = [] := by
  unfold TS tkl
  rw [if_pos z]
theorem TS_s {tp : List Nat} {p : Nat} (hp : p ≤ tp.length) (hb : ∀ x ∈ tp, x < 256) (z : (lx tp p).2.2 ≠ 10000) : TS tp p = ((lx tp p).2.2, (lx tp p).1, dgt tp (lx tp p).1 (lx tp p).2.1) :: TS tp (lx tp p).2.1 := by
  obtain ⟨a1, a2, a3, a4, a5, a6⟩ := lx_ok hp hb
  have a4 := a4 z
  have a7 := rune_ge isBlk tp p
  rw [← lx_1] at a7
  show tkl tp (tp.length + 1) p = _ :: tkl tp (tp.length + 1) _
  rw [tkl_f hb (tp.length + 1) tp.length (lx tp p).2.1 a2 (by omega) (by omega)]
  conv => lhs; unfold tkl
  rw [if_neg z]
theorem TS_len {tp : List Nat} (hb : ∀ x ∈ tp, x < 256) : ∀ (n p : Nat), p ≤ tp.length → (tkl tp n p).length ≤ tp.length - p
  | 0, _, _ => Nat.zero_le _
  | n + 1, p, hp => by
    obtain ⟨a1, a2, a3, a4, a5, a6⟩ := lx_ok hp hb
    unfold tkl
    split
    · exact Nat.zero_le _
    · rename_i z
      have a4 := a4 z
      have a7 := rune_ge isBlk tp p
      rw [← lx_1] at a7
      have := TS_len hb n _ a2
      rw [List.length_cons]
      omega
/-- the first token: code, place, digits -/
def hc (ts : List Tk) : Nat := match ts with
  | [] => 10000
  | t :: _ => t.1
def hp (z : Nat) (ts : List Tk) : Nat := match ts with
  | [] => z
  | t :: _ => t.2.1
def hd (ts : List Tk) : List Nat := match ts with
  | [] => []
  | t :: _ => t.2.2
/-- where a side stands: place q, end r -/
def tAt (tp : List Nat) (ts : List Tk) (q r : Nat) : Prop := q = hp tp.length ts ∧ q ≤ r ∧ r ≤ tp.length ∧ ts.tail = TS tp r ∧ hc ts < 10500 ∧ (hc ts = 10002 → hd ts = dgt tp q r ∧ r - q = (hd ts).length ∧ 1 ≤ r - q ∧ r - q ≤ 4 ∧ ∀ j, q ≤ j → j < r → isDig (tp.getD j 0) = true)
theorem dgt_len {tp : List Nat} {q r : Nat} (h : r ≤ tp.length) : (dgt tp q r).length = r - q := by
  unfold dgt
  rw [List.length_map, List.length_take, List.length_drop]
  omega
theorem dgt_at {tp : List Nat} {q r j : Nat} (h : r ≤ tp.length) (hj : j < r - q) : (dgt tp q r).getD j 0 = tp.getD (q + j) 0 - 48 := by
  unfold dgt
  rw [List.getD_eq_getElem?_getD, List.getElem?_map, List.getElem?_take_of_lt hj, List.getElem?_drop, List.getD_eq_getElem?_getD, List.getElem?_eq_getElem (by omega)]
  rfl
theorem tAt_lx {tp : List Nat} {p : Nat} (hp9 : p ≤ tp.length) (hb : ∀ x ∈ tp, x < 256) : tAt tp (TS tp p) (lx tp p).1 (lx tp p).2.1 ∧ hc (TS tp p) = (lx tp p).2.2 := by
  obtain ⟨a1, a2, a3, a4, a5, a6⟩ := lx_ok hp9 hb
  by_cases z : (lx tp p).2.2 = 10000
  · have hT : TS tp p = [] := TS_e z
    obtain ⟨z1, z2⟩ := a3 z
    rw [hT]
    refine ⟨⟨z1, a1, a2, ?_, by show 10000 < 10500; decide, fun w => absurd w (by show ¬ 10000 = 10002; decide)⟩, by rw [z]; rfl⟩
    have := TS_len hb (tp.length + 1) (lx tp p).2.1 a2
    rw [z2, Nat.sub_self] at this
    rw [z2]
    exact (List.length_eq_zero_iff.mp (Nat.le_zero.mp this)).symm
  · have hT := TS_s hp9 hb z
    rw [hT]
    refine ⟨⟨rfl, a1, a2, rfl, a5, fun w => ?_⟩, rfl⟩
    have w : (lx tp p).2.2 = 10002 := w
    obtain ⟨w1, w2⟩ := a6 w
    have a4 := a4 z
    refine ⟨rfl, ?_, by omega, w1, w2⟩
    show _ = (dgt tp (lx tp p).1 (lx tp p).2.1).length
    rw [dgt_len a2]
theorem dgt_lt {tp : List Nat} {q r : Nat} (h : r ≤ tp.length) (hd : ∀ j, q ≤ j → j < r → isDig (tp.getD j 0) = true) : ∀ x ∈ dgt tp q r, x < 10 := by
  intro x hx
  obtain ⟨i, hi, rfl⟩ := List.mem_iff_getElem.mp hx
  rw [dgt_len h] at hi
  have e := dgt_at h hi
  rw [gD (by rw [dgt_len h]; exact hi)] at e
  rw [e]
  have := hd (q + i) (by omega) (by omega)
  unfold isDig at this
  rw [Bool.and_eq_true, decide_eq_true_eq, decide_eq_true_eq] at this
  omega
