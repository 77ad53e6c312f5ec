/-! meant, twin: all messages in their order, what is met of what is wanted -/
theorem dgs_snoc {i v x : Nat} (hx : x < 10) : dgs (i + 1) (v * 10 + x) = dgs i v ++ [x] := by
  unfold dgs
  rw [List.range_succ, List.map_append]
  congr 1
  · apply List.map_congr_left
    intro j hj
    have hj := List.mem_range.mp hj
    rw [show i + 1 - 1 - j = (i - 1 - j) + 1 by omega, Nat.pow_succ, Nat.mul_comm (10 ^ _) 10, ← Nat.div_div_eq_div_mul, show (v * 10 + x) / 10 = v by omega]
  · simp only [List.map_cons, List.map_nil]
    rw [show i + 1 - 1 - i = 0 by omega, Nat.pow_zero, Nat.div_one, show (v * 10 + x) % 10 = x by omega]
def exs : Nat → List Nat → List (List Nat)
  | 0, p => [p]
  | r + 1, p => (List.range 10).flatMap (fun x => exs r (p ++ [x]))
theorem exs_s (r : Nat) (p : List Nat) : exs (r + 1) p = (List.range 10).flatMap (fun x => exs r (p ++ [x])) := rfl
theorem rg_split {α : Type} (f : Nat → α) (N : Nat) : ∀ a, (List.range a).flatMap (fun x => (List.range N).map (fun u => f (x * N + u))) = (List.range (a * N)).map f
  | 0 => by simp
  | a + 1 => by
    rw [List.range_succ, List.flatMap_append, rg_split f N a, Nat.succ_mul, List.range_add, List.map_append]
    congr 1
    simp [List.map_map, Function.comp_def]
theorem flatMap_cg {α β : Type} {f g : α → List β} : ∀ {l : List α}, (∀ x ∈ l, f x = g x) → l.flatMap f = l.flatMap g
  | [], _ => rfl
  | x :: l, h => by
    rw [List.flatMap_cons, List.flatMap_cons, h x List.mem_cons_self, flatMap_cg (fun y hy => h y (List.mem_cons_of_mem _ hy))]
theorem exs_dgs : ∀ (r i v : Nat), exs r (dgs i v) = (List.range (10 ^ r)).map (fun u => dgs (i + r) (v * 10 ^ r + u))
  | 0, i, v => by simp [exs]
  | r + 1, i, v => by
    rw [exs_s, flatMap_cg (g := fun x => (List.range (10 ^ r)).map (fun u => dgs (i + (r + 1)) (v * 10 ^ (r + 1) + (x * 10 ^ r + u)))) (fun x hx => ?_)]
    · rw [rg_split (fun z => dgs (i + (r + 1)) (v * 10 ^ (r + 1) + z)), Nat.pow_succ, Nat.mul_comm 10]
    · rw [← dgs_snoc (List.mem_range.mp hx), exs_dgs r (i + 1) (v * 10 + x)]
      apply List.map_congr_left
      intro u hu
      rw [show i + 1 + r = i + (r + 1) by omega, Nat.add_mul, Nat.mul_assoc, Nat.mul_comm 10 (10 ^ r), ← Nat.pow_succ, Nat.add_assoc]
theorem exs_all (d : Nat) : exs d [] = (List.range (10 ^ d)).map (dgs d) := by
  have h := exs_dgs d 0 0
  rw [show dgs 0 0 = [] from rfl] at h
  rw [h]
  apply List.map_congr_left
  intro u _
  rw [Nat.zero_mul, Nat.zero_add, Nat.zero_add]
theorem exs_len : ∀ (r : Nat) (p : List Nat), (exs r p).length = 10 ^ r
  | 0, p => rfl
  | r + 1, p => by
    have : ∀ a, ((List.range a).flatMap (fun x => exs r (p ++ [x]))).length = a * 10 ^ r := by
      intro a
      induction a with
      | zero => simp
      | succ a ih => rw [List.range_succ, List.flatMap_append, List.length_append, ih]; simp [exs_len r, Nat.succ_mul]
    rw [exs_s, this, Nat.pow_succ, Nat.mul_comm]
theorem exs_mem : ∀ (r : Nat) (p l : List Nat), l ∈ exs r p → l.length = p.length + r ∧ ((∀ x ∈ p, x < 10) → ∀ x ∈ l, x < 10) ∧ ∀ j, j < p.length → l.getD j 0 = p.getD j 0
  | 0, p, l, h => by
    rw [List.mem_singleton.mp h]
    exact ⟨rfl, fun q => q, fun _ _ => rfl⟩
  | r + 1, p, l, h => by
    rw [exs_s] at h
    obtain ⟨x, hx, h⟩ := List.mem_flatMap.mp h
    obtain ⟨h1, h2, h3⟩ := exs_mem r (p ++ [x]) l h
    have hx := List.mem_range.mp hx
    refine ⟨by rw [h1]; simp; omega, fun q => h2 (mem_snoc q hx), fun j hj => ?_⟩
    rw [h3 j (by simp; omega), List.getD_eq_getElem?_getD, List.getD_eq_getElem?_getD, List.getElem?_append_left hj]
/-- a message judged: how many so far, the first of them -/
def jd (h : List Nat → Bool) (ov : Bool) (s : Nat × List Nat) (l : List Nat) : Nat × List Nat := if ov = true ∧ 0 < s.1 then s else if h l = true then (s.1 + 1, if s.1 = 0 then l else s.2) else s
theorem jd_over {h : List Nat → Bool} {ov : Bool} {s : Nat × List Nat} (ho : ov = true ∧ 0 < s.1) : ∀ ls : List (List Nat), ls.foldl (jd h ov) s = s
  | [] => rfl
  | l :: r => by
    rw [List.foldl_cons, show jd h ov s l = s by unfold jd; rw [if_pos ho]]
    exact jd_over ho r
theorem jd_none {h : List Nat → Bool} {ov : Bool} {s : Nat × List Nat} : ∀ ls : List (List Nat), (∀ l ∈ ls, h l = false) → ls.foldl (jd h ov) s = s
  | [], _ => rfl
  | l :: r, hn => by
    rw [List.foldl_cons, show jd h ov s l = s by
      unfold jd
      split
      · rfl
      · rw [if_neg (by rw [hn l List.mem_cons_self]; decide)]]
    exact jd_none r (fun x hx => hn x (List.mem_cons_of_mem _ hx))
theorem jd_le (h : List Nat → Bool) (ov : Bool) : ∀ (ls : List (List Nat)) (s : Nat × List Nat), (ls.foldl (jd h ov) s).1 ≤ s.1 + ls.length
  | [], s => Nat.le_refl _
  | l :: r, s => by
    rw [List.foldl_cons, List.length_cons]
    have h1 := jd_le h ov r (jd h ov s l)
    have h2 : (jd h ov s l).1 ≤ s.1 + 1 := by
      unfold jd
      split
      · omega
      · split
        · exact Nat.le_refl _
        · omega
    omega
/-- what came so far is the beginning of what is wanted -/
abbrev pfx (g : Nat) (W D : List Nat) : Prop := kept g D = W.take (kept g D).length
def pv (g : Nat) (W D : List Nat) : Int32 := if pfx g W D then nI (kept g D).length else -1
theorem kept_app (g : Nat) (D E : List Nat) : kept g (D ++ E) = kept g D ++ kept g E := List.filter_append _ _
theorem pfx_le {g : Nat} {W D : List Nat} (h : pfx g W D) : (kept g D).length ≤ W.length := by
  have := congrArg List.length h
  rw [List.length_take] at this
  omega
theorem pfx_no {g : Nat} {W D : List Nat} (h : ¬ pfx g W D) (E : List Nat) : ¬ pfx g W (D ++ E) := by
  intro q
  apply h
  have q := congrArg (List.take (kept g D).length) q
  rw [kept_app, List.take_append_of_le_length (Nat.le_refl _), List.take_length, List.take_take, List.length_append, Nat.min_eq_left (Nat.le_add_right _ _)] at q
  exact q
theorem pfx_all {g : Nat} {W D : List Nat} (h : kept g D = W) : pfx g W D := by
  show kept g D = W.take (kept g D).length
  rw [h, List.take_length]
theorem pfx_bit {g x : Nat} {W D : List Nat} (hb : g.testBit x = true) : pv g W (D ++ [x]) = pv g W D := by
  unfold pv pfx
  rw [kept_snoc, if_pos hb]
theorem pfx_yes {g x : Nat} {W D : List Nat} (hD : pfx g W D) (hb : ¬ g.testBit x = true) (hk : (kept g D).length < W.length) (hx : W.getD (kept g D).length 0 = x) : pv g W (D ++ [x]) = nI ((kept g D).length + 1) := by
  unfold pv
  have e : kept g (D ++ [x]) = kept g D ++ [x] := by rw [kept_snoc, if_neg hb]
  have hp : pfx g W (D ++ [x]) := by
    show kept g (D ++ [x]) = _
    rw [e, List.length_append, List.length_singleton, take_snoc hk, hx, ← hD]
  rw [if_pos hp, e, List.length_append, List.length_singleton]
theorem pfx_not {g x : Nat} {W D : List Nat} (hb : ¬ g.testBit x = true) (hx : ¬ ((kept g D).length < W.length ∧ W.getD (kept g D).length 0 = x)) : pv g W (D ++ [x]) = -1 := by
  unfold pv
  have e : kept g (D ++ [x]) = kept g D ++ [x] := by rw [kept_snoc, if_neg hb]
  rw [if_neg]
  intro hp
  have hp : kept g (D ++ [x]) = W.take (kept g (D ++ [x])).length := hp
  rw [e, List.length_append, List.length_singleton] at hp
  have hl : (kept g D).length < W.length := by
    have := congrArg List.length hp
    rw [List.length_append, List.length_singleton, List.length_take] at this
    omega
  apply hx
  refine ⟨hl, ?_⟩
  rw [take_snoc hl] at hp
  have := congrArg (fun z => z.getLast?) hp
  simpa using this.symm
theorem pv_end {g : Nat} {W D : List Nat} (hW : W.length ≤ 36) : pv g W D = nI W.length ↔ kept g D = W := by
  unfold pv
  constructor
  · intro h
    split at h
    · rename_i q
      have hl := pfx_le q
      have e := (nI_eq (by omega) (by omega)).mp h
      have q : kept g D = W.take (kept g D).length := q
      rw [e, List.take_length] at q
      exact q
    · exfalso
      have h9 : nI W.length < 0 := by rw [← h]; decide
      exact nI_pos (by omega) h9
  · intro h
    rw [if_pos (pfx_all h), h]
/-- trA looks no further than one digit ahead -/
theorem trA_agree {day fr : Int32} {rl : List Ru} {l l' : List Nat} (hl : l.length = l'.length) : ∀ i, i ≤ l.length → (∀ j, j ≤ i → j < l.length → l.getD j 0 = l'.getD j 0) → trA day fr rl l i = trA day fr rl l' i
  | 0, _, _ => rfl
  | i + 1, hi, h => by
    rw [trA_succ, trA_succ, trA_agree hl i (by omega) (fun j j1 j2 => h j (by omega) j2)]
    have e1 : fcs day fr l i = fcs day fr l' i := by
      funext c
      unfold fcs
      rw [hl]
      split
      · rfl
      · rfl
      · rfl
      · rfl
      · split
        · rfl
        · rw [h (i - 1) (by omega) (by omega)]
      · split
        · rfl
        · rw [h (i + 1) (by omega) (by omega)]
    rw [e1, h i (by omega) (by omega)]
theorem trA_app {day fr : Int32} {rl : List Ru} {l : List Nat} (i : Nat) : ∀ n, ∃ E, trA day fr rl l (i + n) = trA day fr rl l i ++ E
  | 0 => ⟨[], by simp⟩
  | n + 1 => by
    obtain ⟨E, h⟩ := trA_app (day := day) (fr := fr) (rl := rl) (l := l) i n
    exact ⟨E ++ ruRep (fcs day fr l (i + n)) (l.getD (i + n) 0) rl, by rw [show i + (n + 1) = (i + n) + 1 by omega, trA_succ, h, List.append_assoc]⟩
theorem trans_sm {day fr : Int32} {rl : List Ru} {l : List Nat} (hW : ruW rl) (hl : l.length ≤ 4) : trans day fr rl l = trA day fr rl l l.length := by
  unfold trans
  have := trA_len (day := day) (fr := fr) (l := l) (fun u hu => (hW.2 u hu).2.1) l.length
  rw [List.take_of_length_le (by omega)]
/-- a beginning, filled up -/
def pad (n : Nat) (p : List Nat) : List Nat := p ++ List.replicate (n - p.length) 0
theorem pad_len {n : Nat} {p : List Nat} (h : p.length ≤ n) : (pad n p).length = n := by simp [pad]; omega
theorem pad_at {n j : Nat} {p : List Nat} (h : j < p.length) : (pad n p).getD j 0 = p.getD j 0 := by
  unfold pad
  rw [List.getD_eq_getElem?_getD, List.getD_eq_getElem?_getD, List.getElem?_append_left h]
theorem pad_lt {n : Nat} {p : List Nat} (h : ∀ x ∈ p, x < 10) : ∀ x ∈ pad n p, x < 10 := by
  intro x hx
  rcases List.mem_append.mp hx with hx | hx
  · exact h x hx
  · rw [(List.mem_replicate.mp hx).2]; decide
theorem pad_eq {p : List Nat} : pad p.length p = p := by simp [pad]
theorem snoc_at {p : List Nat} {x j : Nat} (h : j < p.length) : (p ++ [x]).getD j 0 = p.getD j 0 := by
  rw [List.getD_eq_getElem?_getD, List.getD_eq_getElem?_getD, List.getElem?_append_left h]
theorem snoc_end {p : List Nat} {x : Nat} : (p ++ [x]).getD p.length 0 = x := by simp
/-- is a message one that is sought -/
def hitB (g : Nat) (day fr : Int32) (rl : List Ru) (W av : List Nat) (ov : Bool) (l : List Nat) : Bool := decide (kept g (trA day fr rl l l.length) = W) && !(ov && decide (l = av))
theorem hitB_iff {g : Nat} {day fr : Int32} {rl : List Ru} {W av : List Nat} {ov : Bool} {l : List Nat} : hitB g day fr rl W av ov l = true ↔ kept g (trA day fr rl l l.length) = W ∧ ¬ (ov = true ∧ l = av) := by
  unfold hitB
  rw [Bool.and_eq_true, decide_eq_true_eq, Bool.not_eq_true', Bool.and_eq_false_iff]
  constructor
  · rintro ⟨a, b⟩
    refine ⟨a, fun q => ?_⟩
    rcases b with b | b
    · rw [q.1] at b; cases b
    · exact absurd q.2 (of_decide_eq_false b)
  · rintro ⟨a, b⟩
    refine ⟨a, ?_⟩
    cases hov : ov with
    | false => exact Or.inl rfl
    | true => exact Or.inr (decide_eq_false (fun q => b ⟨hov, q⟩))
/-- beginnings that don't fit need no going on -/
theorem hit_cut {g n i : Nat} {day fr : Int32} {rl : List Ru} {W av p : List Nat} {ov : Bool} (hp : p.length = i + 1) (hn : i + 1 ≤ n) (hno : ¬ pfx g W (trA day fr rl (pad n p) i)) : ∀ l ∈ exs (n - p.length) p, hitB g day fr rl W av ov l = false := by
  intro l hl
  obtain ⟨h1, -, h3⟩ := exs_mem _ _ _ hl
  cases hb : hitB g day fr rl W av ov l with
  | false => rfl
  | true =>
    exfalso
    have hk := (hitB_iff.mp hb).1
    obtain ⟨E, hE⟩ := trA_app (day := day) (fr := fr) (rl := rl) (l := l) i (l.length - i)
    rw [show i + (l.length - i) = l.length by omega] at hE
    have ea : trA day fr rl l i = trA day fr rl (pad n p) i := trA_agree (by rw [pad_len (by omega)]; omega) i (by omega) (fun j j1 j2 => by rw [h3 j (by omega), pad_at (by omega)])
    rw [hE, ea] at hk
    exact pfx_no hno E (pfx_all hk)
