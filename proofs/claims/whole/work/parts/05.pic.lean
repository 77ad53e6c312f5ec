/-! SOUNDNESS of the small machine over the real one: a picture of the heap, and a row for each step -/
def mk_tv (b : Nat) (sk : Nat → Value) : Value → Value
  | .ref k => .ref (b + k)
  | .retAddr j => sk j
  | v => v
def mk_fv (b : Nat) (P : mj_P) (I : mj_I) (J : mj_J) (a k c : Nat) : Value := match c with
  | 0 => .int (I a k)
  | 3 => .int (I a k)
  | 1 => .long (J a k)
  | _ => va_rf ((P a k).map (b + ·))
def mk_fs (b : Nat) (P : mj_P) (I : mj_I) (J : mj_J) (a : Nat) : List Nat → Nat → List Value
  | [], _ => []
  | c :: r, k => mk_fv b P I J a k c :: mk_fs b P I J a r (k + 1)
def mk_E (cy : Nat → ClassId) (b : Nat) (P : mj_P) (I : mj_I) (J : mj_J) (a : Nat) (q : Nat × Nat) : va_E :=
  if q.1 < 13 then .inr (q.1, mk_fs b P I J a (mk_ft.getD q.1 []) 0)
  else if q.1 = 13 then .inl (cy 13, q.2, .inl (I a))
  else if q.1 = 14 then .inl (cy 14, q.2, .inr (.inl (J a)))
  else .inl (cy q.1, q.2, .inr (.inr (.inr (.inr (fun j => (P a j).map (b + ·))))))
def mk_W (cy : Nat → ClassId) (b : Nat) (sh : mj_S) (P : mj_P) (I : mj_I) (J : mj_J) : va_W := sh.mapIdx (fun a q => (b + a, mk_E cy b P I J a q))
def mk_tys (cy : Nat → ClassId) : List (ClassId × FieldType) := [(cy 13, .int), (cy 14, .long), (cy 15, .object RX2), (cy 16, .object RX3), (cy 17, .object RX7), (cy 18, .array .int)]
def mk_A (b : Nat) : Nat → Prop := fun q => b ≤ q
theorem mk_sh {sh : mj_S} {a k : Nat} (h : mj_kd sh a = k) (hk : k < 99) : sh[a]? = some (k, mj_ln sh a) := by
  unfold mj_kd at h
  unfold mj_ln
  rw [List.getD_eq_getElem?_getD] at h ⊢
  cases hq : sh[a]? with
  | none => rw [hq] at h; simp at h; omega
  | some q =>
    rw [hq] at h
    simp at h
    simp [← h]
theorem mk_W_at {cy : Nat → ClassId} {b : Nat} {sh : mj_S} {P : mj_P} {I : mj_I} {J : mj_J} {a : Nat} {q : Nat × Nat} (h : sh[a]? = some q) : (mk_W cy b sh P I J)[a]? = some (b + a, mk_E cy b P I J a q) := by
  unfold mk_W
  rw [List.getElem?_mapIdx, h]
  rfl
theorem mk_W_len {cy : Nat → ClassId} {b : Nat} {sh : mj_S} {P : mj_P} {I : mj_I} {J : mj_J} : (mk_W cy b sh P I J).length = sh.length := by
  unfold mk_W; exact List.length_mapIdx
theorem mk_W_inv {cy : Nat → ClassId} {b : Nat} {sh : mj_S} {P : mj_P} {I : mj_I} {J : mj_J} {a : Nat} {z : Nat × va_E} (h : (mk_W cy b sh P I J)[a]? = some z) : ∃ q, sh[a]? = some q ∧ z = (b + a, mk_E cy b P I J a q) := by
  unfold mk_W at h
  rw [List.getElem?_mapIdx] at h
  cases hq : sh[a]? with
  | none => rw [hq] at h; cases h
  | some q => rw [hq] at h; exact ⟨q, rfl, (Option.some.inj h).symm⟩
theorem mk_D {cy : Nat → ClassId} {b : Nat} {sh : mj_S} {P : mj_P} {I : mj_I} {J : mj_J} : va_D (mk_A b) (mk_W cy b sh P I J) := by
  refine ⟨fun i j x y hi hj hxy => ?_, fun k q hk => ?_⟩
  · obtain ⟨q1, -, rfl⟩ := mk_W_inv hi
    obtain ⟨q2, -, rfl⟩ := mk_W_inv hj
    simp only at hxy
    omega
  · obtain ⟨q1, -, rfl⟩ := mk_W_inv hk
    exact Nat.le_add_right b k
theorem mk_E_congr {cy : Nat → ClassId} {b : Nat} {P P' : mj_P} {I I' : mj_I} {J J' : mj_J} {a : Nat} (hP : P' a = P a) (hI : I' a = I a) (hJ : J' a = J a) (q : Nat × Nat) : mk_E cy b P' I' J' a q = mk_E cy b P I J a q := by
  have hf : ∀ (l : List Nat) (k : Nat), mk_fs b P' I' J' a l k = mk_fs b P I J a l k := by
    intro l
    induction l with
    | nil => intro k; rfl
    | cons c r ih => intro k; unfold mk_fs; rw [ih]; unfold mk_fv; rw [hP, hI, hJ]
  unfold mk_E
  rw [hP, hI, hJ, hf]
theorem mk_W_set {cy : Nat → ClassId} {b : Nat} {sh : mj_S} {P P' : mj_P} {I I' : mj_I} {J J' : mj_J} {a : Nat} {q : Nat × Nat} (h : sh[a]? = some q) (ho : ∀ c, c ≠ a → P' c = P c ∧ I' c = I c ∧ J' c = J c) : (mk_W cy b sh P I J).set a (b + a, mk_E cy b P' I' J' a q) = mk_W cy b sh P' I' J' := by
  apply List.ext_getElem?
  intro i
  have hl : a < (mk_W cy b sh P I J).length := by rw [mk_W_len]; exact (List.getElem?_eq_some_iff.mp h).1
  by_cases hi : i = a
  · subst hi
    rw [List.getElem?_set_self hl, mk_W_at h]
  · rw [List.getElem?_set_ne (Ne.symm hi)]
    unfold mk_W
    rw [List.getElem?_mapIdx, List.getElem?_mapIdx]
    obtain ⟨h1, h2, h3⟩ := ho i hi
    cases sh[i]? with
    | none => rfl
    | some q => simp only [Option.map_some]; rw [mk_E_congr h1 h2 h3]
theorem mk_fs_at {b : Nat} {P : mj_P} {I : mj_I} {J : mj_J} {a : Nat} : ∀ (l : List Nat) (k0 j : Nat), (mk_fs b P I J a l k0)[j]? = l[j]?.map (fun c => mk_fv b P I J a (k0 + j) c) := by
  intro l
  induction l with
  | nil => intro k0 j; simp [mk_fs]
  | cons c r ih =>
    intro k0 j
    unfold mk_fs
    cases j with
    | zero => simp
    | succ j => simp only [List.getElem?_cons_succ]; rw [ih]; rw [show k0 + 1 + j = k0 + (j + 1) by omega]
theorem mk_fs_len {b : Nat} {P : mj_P} {I : mj_I} {J : mj_J} {a : Nat} : ∀ (l : List Nat) (k0 : Nat), (mk_fs b P I J a l k0).length = l.length := by
  intro l
  induction l with
  | nil => intro k0; rfl
  | cons c r ih => intro k0; unfold mk_fs; simp [ih]
/-- one field written -/
theorem mk_fs_set {b : Nat} {P P' : mj_P} {I I' : mj_I} {J J' : mj_J} {a k c : Nat} {v : Value} {l : List Nat} (hc : l[k]? = some c) (hv : mk_fv b P' I' J' a k c = v) (ho : ∀ j c', j ≠ k → mk_fv b P' I' J' a j c' = mk_fv b P I J a j c') : (mk_fs b P I J a l 0).set k v = mk_fs b P' I' J' a l 0 := by
  apply List.ext_getElem?
  intro i
  have hl : k < (mk_fs b P I J a l 0).length := by rw [mk_fs_len]; exact (List.getElem?_eq_some_iff.mp hc).1
  by_cases hi : i = k
  · subst hi
    rw [List.getElem?_set_self hl, mk_fs_at, hc]
    simp [hv]
  · rw [List.getElem?_set_ne (Ne.symm hi), mk_fs_at, mk_fs_at]
    cases l[i]? with
    | none => rfl
    | some c' => simp only [Option.map_some, Nat.zero_add]; rw [ho i c' hi]
theorem mk_E_obj {cy : Nat → ClassId} {b : Nat} {P : mj_P} {I : mj_I} {J : mj_J} {a ci n : Nat} (h : ci < 13) : mk_E cy b P I J a (ci, n) = .inr (ci, mk_fs b P I J a (mk_ft.getD ci []) 0) := by simp [mk_E, h]
theorem mk_E_int {cy : Nat → ClassId} {b : Nat} {P : mj_P} {I : mj_I} {J : mj_J} {a n : Nat} : mk_E cy b P I J a (13, n) = .inl (cy 13, n, .inl (I a)) := by simp [mk_E]
theorem mk_E_lng {cy : Nat → ClassId} {b : Nat} {P : mj_P} {I : mj_I} {J : mj_J} {a n : Nat} : mk_E cy b P I J a (14, n) = .inl (cy 14, n, .inr (.inl (J a))) := by simp [mk_E]
theorem mk_E_ref {cy : Nat → ClassId} {b : Nat} {P : mj_P} {I : mj_I} {J : mj_J} {a k n : Nat} (h : 15 ≤ k) : mk_E cy b P I J a (k, n) = .inl (cy k, n, .inr (.inr (.inr (.inr (fun j => (P a j).map (b + ·)))))) := by
  unfold mk_E
  rw [if_neg (by simp only; omega), if_neg (by simp only; omega), if_neg (by simp only; omega)]
/-- the locals -/
def mk_lv (b : Nat) (sk : Nat → Value) (ls : Array Slot) (nL : Nat) (L : mj_L) : Prop := ls.size = nL ∧ lv_wf ls ∧ ∀ (i : Nat) (v : Value), L[i]? = some (some v) → ls[i]? = some (.val (mk_tv b sk v))
def mk_ll (b : Nat) (sk : Nat → Value) (L : mj_L) : List (Nat × Value) := (List.range L.length).filterMap (fun j => (L.getD j none).map (fun v => (j, mk_tv b sk v)))
theorem mk_getD {L : mj_L} {i : Nat} {v : Value} (h : L.getD i none = some v) : L[i]? = some (some v) := by
  rw [List.getD_eq_getElem?_getD] at h
  cases hq : L[i]? with
  | none => rw [hq] at h; cases h
  | some q => rw [hq] at h; simp at h; rw [h]
theorem mk_ll_in {b : Nat} {sk : Nat → Value} {L : mj_L} {i : Nat} {v : Value} (h : L[i]? = some (some v)) : (i, mk_tv b sk v) ∈ mk_ll b sk L := by
  refine List.mem_filterMap.mpr ⟨i, List.mem_range.mpr (List.getElem?_eq_some_iff.mp h).1, ?_⟩
  rw [List.getD_eq_getElem?_getD, h]
  rfl
theorem mk_lv_has {b : Nat} {sk : Nat → Value} {ls : Array Slot} {nL : Nat} {L : mj_L} (h : mk_lv b sk ls nL L) : lv_has ls nL (mk_ll b sk L) := by
  refine ⟨h.1, h.2.1, fun q hq => ?_⟩
  obtain ⟨i, -, hi⟩ := List.mem_filterMap.mp hq
  cases hv : L.getD i none with
  | none => rw [hv] at hi; cases hi
  | some v =>
    rw [hv] at hi
    cases hi
    exact h.2.2 i v (mk_getD hv)
theorem mk_cat {b : Nat} {sk : Nat → Value} (hsk : ∀ j, (sk j).category = 1) (v : Value) : (mk_tv b sk v).category = v.category := by
  cases v <;> first | rfl | exact hsk _
theorem mk_nl {L : mj_L} {i j : Nat} {v : Value} (h : mj_nl L i = true) (hj : j + 1 = i) (hv : L[j]? = some (some v)) : v.category ≠ 2 := by
  subst hj
  unfold mj_nl at h
  have e : L.getD j none = some v := by rw [List.getD_eq_getElem?_getD, hv]; rfl
  simp only [e] at h
  cases v <;> simp_all [Value.category]
theorem mk_store1 {b : Nat} {sk : Nat → Value} (hsk : ∀ j, (sk j).category = 1) {ls' : Array Slot} {nL : Nat} {L : mj_L} {i : Nat} {x : Value} (hn : mj_nl L i = true)
    (h : lv_has ls' nL ((i, mk_tv b sk x) :: (mk_ll b sk L).filter (fun q => !(q.1 == i) && !(q.1 + 1 == i && q.2.category == 2)))) : mk_lv b sk ls' nL (L.set i (some x)) := by
  refine ⟨h.1, h.2.1, fun j v hj => ?_⟩
  by_cases hi : j = i
  · subst hi
    have hl : j < L.length := by
      have := (List.getElem?_eq_some_iff.mp hj).1
      simpa using this
    rw [List.getElem?_set_self hl] at hj
    cases hj
    exact h.2.2 (j, mk_tv b sk x) List.mem_cons_self
  · rw [List.getElem?_set_ne (Ne.symm hi)] at hj
    refine h.2.2 (j, mk_tv b sk v) (List.mem_cons_of_mem _ (List.mem_filter.mpr ⟨mk_ll_in hj, ?_⟩))
    simp only [Bool.and_eq_true, Bool.not_eq_true', beq_eq_false_iff_ne, ne_eq, Bool.and_eq_false_iff]
    refine ⟨hi, ?_⟩
    by_cases h1 : j + 1 = i
    · right
      rw [mk_cat hsk]
      exact mk_nl hn h1 hj
    · left; exact h1
theorem mk_store2 {b : Nat} {sk : Nat → Value} (hsk : ∀ j, (sk j).category = 1) {ls' : Array Slot} {nL : Nat} {L : mj_L} {i : Nat} {x : Value} (hn : mj_nl L i = true)
    (h : lv_has ls' nL ((i, mk_tv b sk x) :: (mk_ll b sk L).filter (fun q => !(q.1 == i) && (!(q.1 == i + 1) && !(q.1 + 1 == i && q.2.category == 2))))) : mk_lv b sk ls' nL ((L.set i (some x)).set (i + 1) none) := by
  refine ⟨h.1, h.2.1, fun j v hj => ?_⟩
  by_cases h2 : j = i + 1
  · subst h2
    by_cases hl : i + 1 < (L.set i (some x)).length
    · rw [List.getElem?_set_self hl] at hj; cases hj
    · rw [List.getElem?_eq_none (by simp only [List.length_set] at hl ⊢; omega)] at hj; cases hj
  · rw [List.getElem?_set_ne (Ne.symm h2)] at hj
    by_cases hi : j = i
    · subst hi
      have hl : j < L.length := by
        have := (List.getElem?_eq_some_iff.mp hj).1
        simpa using this
      rw [List.getElem?_set_self hl] at hj
      cases hj
      exact h.2.2 (j, mk_tv b sk x) List.mem_cons_self
    · rw [List.getElem?_set_ne (Ne.symm hi)] at hj
      refine h.2.2 (j, mk_tv b sk v) (List.mem_cons_of_mem _ (List.mem_filter.mpr ⟨mk_ll_in hj, ?_⟩))
      simp only [Bool.and_eq_true, Bool.not_eq_true', beq_eq_false_iff_ne, ne_eq, Bool.and_eq_false_iff]
      refine ⟨hi, h2, ?_⟩
      by_cases h1 : j + 1 = i
      · right
        rw [mk_cat hsk]
        exact mk_nl hn h1 hj
      · left; exact h1
