/-! rows: a step of the small machine is a step of the real one -/
/-- what stands outside the cells: the texts, the formatter, the script -/
def mk_Xt (b : Nat) (sk : Nat → Value) (U : State) (H : Heap) : Prop := ∃ (adK adV : Nat → Nat), vk_S 14 (mj_bt.map List.length) mj_bt adK adV (mk_A b) U H ∧ (∀ i, i < 14 → sk (2 * i) = .ref (adK i) ∧ sk (2 * i + 1) = .ref (adV i)) ∧ va_Z "java/lang/String" "COMPACT_STRINGS" "Z" (.int 1) (mk_A b) U H ∧ va_Z "jdk/internal/util/Preconditions" "SIOOBE_FORMATTER" "Ljava/util/function/BiFunction;" (sk 99) (mk_A b) U H ∧ ∀ j, (sk j).category = 1
/-- what a walk stands on -/
def mk_Cx (p : Program) (R : Room) (s : State) (m : MethodId) (args : Array Value) (meth : Method) (c : Code) (cc : ByteArray) (own : String) (nL : Nat) (D : va_G) (cy : Nat → ClassId) (b : Nat) (sk : Nat → Value) (lim : Nat × Nat) : Prop :=
  p.tables.exec = Jvm.exec ∧ c.code = cc ∧ c.maxLocals = nL ∧ s.vm.findClass own = some m.cls ∧ (∀ w ∈ mk_wt, w.before args s = true) ∧ va_K D mk_cl (mk_tys cy) s ∧ b ≤ s.heap.size ∧ meth.locks = false ∧ mk_Xt b sk s s.heap ∧ (R.cells = lim.1 ∧ R.slots = lim.2) ∧ (1 ≤ R.frames ∧ 60 ≤ R.locals)
def mk_X (p : Program) (l : Launch) (e : Env) (R : Room) (s : State) (m : MethodId) (args : Array Value) (below : List Frame) (meth : Method) (c : Code) (Qs : State → Prop) (nL : Nat) (D : va_G) (cy : Nat → ClassId) (b : Nat) (sk : Nat → Value) : mj_X := fun pc L st u sh P I J =>
  ∀ (H : Heap) (locs : List Loc) (ls : Array Slot), mk_lv b sk ls nL L → s.heap.size + u.1 = b + sh.length → (u.1 ≤ R.cells ∧ u.2 ≤ R.slots) → va_P D mk_cl (mk_W cy b sh P I J) H → va_S (mk_A b) s.heap H locs → W p l e R s m args below meth c H locs u.1 u.2 Qs (F0 m pc ls (st.map (mk_tv b sk)))
section SND
variable {p : Program} {l : Launch} {e : Env} {R : Room} {s : State} {m : MethodId} {args : Array Value} {below : List Frame} {meth : Method} {c : Code} {Qs : State → Prop} {nL : Nat} {D : va_G} {cy : Nat → ClassId} {b : Nat} {sk : Nat → Value} {lim : Nat × Nat} {cc : ByteArray} {own : String} {cr : mj_C} {Q : mj_Q} {pc nx : Nat}
/-- a step's soundness at pc -/
abbrev mk_Sn (p : Program) (l : Launch) (e : Env) (R : Room) (s : State) (m : MethodId) (args : Array Value) (below : List Frame) (meth : Method) (c : Code) (Qs : State → Prop) (nL : Nat) (D : va_G) (cy : Nat → ClassId) (b : Nat) (sk : Nat → Value) (lim : Nat × Nat) (cr : mj_C) (Q : mj_Q) (pc : Nat) (t : mj_T) : Prop :=
  ∀ L st u sh P I J, t cr (mk_X p l e R s m args below meth c Qs nL D cy b sk) Q lim L st u sh P I J → mk_X p l e R s m args below meth c Qs nL D cy b sk pc L st u sh P I J
theorem sn_no : mk_Sn p l e R s m args below meth c Qs nL D cy b sk lim cr Q pc pi_no := fun _ _ _ _ _ _ _ h => h.elim
theorem sn_iconst (K : mk_Cx p R s m args meth c cc own nL D cy b sk lim) {n : Int} {v : Int32} (hd : decode cc pc = .ok (.iconst n, 1)) (hv : Int32.ofInt n = v) : mk_Sn p l e R s m args below meth c Qs nL D cy b sk lim cr Q pc (pi_int v (pc + 1)) :=
  fun _ _ _ _ _ _ _ h H locs ls h1 h2 h3 h4 h5 => lv_iconst K.1 K.2.1 hd hv (h H locs ls h1 h2 h3 h4 h5)
theorem sn_bipush (K : mk_Cx p R s m args meth c cc own nL D cy b sk lim) {n : Int} {v : Int32} (hd : decode cc pc = .ok (.bipush n, 2)) (hv : (Int8.ofInt n).toInt32 = v) : mk_Sn p l e R s m args below meth c Qs nL D cy b sk lim cr Q pc (pi_int v (pc + 2)) :=
  fun _ _ _ _ _ _ _ h H locs ls h1 h2 h3 h4 h5 => lv_bipush K.1 K.2.1 hd hv (h H locs ls h1 h2 h3 h4 h5)
theorem sn_sipush (K : mk_Cx p R s m args meth c cc own nL D cy b sk lim) {n : Int} {v : Int32} (hd : decode cc pc = .ok (.sipush n, 3)) (hv : (Int16.ofInt n).toInt32 = v) : mk_Sn p l e R s m args below meth c Qs nL D cy b sk lim cr Q pc (pi_int v (pc + 3)) :=
  fun _ _ _ _ _ _ _ h H locs ls h1 h2 h3 h4 h5 => lv_sipush K.1 K.2.1 hd hv (h H locs ls h1 h2 h3 h4 h5)
theorem sn_ldc (K : mk_Cx p R s m args meth c cc own nL D cy b sk lim) {i : Nat} {v : Int32} (hw : Cond.constant own i v ∈ mk_wt) (hd : decode cc pc = .ok (.ldc i, 2)) : mk_Sn p l e R s m args below meth c Qs nL D cy b sk lim cr Q pc (pi_int v (pc + 2)) :=
  fun _ _ _ _ _ _ _ h H locs ls h1 h2 h3 h4 h5 => lv_ldc K.1 K.2.1 K.2.2.2.1 (K.2.2.2.2.1 _ hw) hd (h H locs ls h1 h2 h3 h4 h5)
theorem sn_ldcw (K : mk_Cx p R s m args meth c cc own nL D cy b sk lim) {i : Nat} {v : Int32} (hw : Cond.constant own i v ∈ mk_wt) (hd : decode cc pc = .ok (.ldc_w i, 3)) : mk_Sn p l e R s m args below meth c Qs nL D cy b sk lim cr Q pc (pi_int v (pc + 3)) :=
  fun _ _ _ _ _ _ _ h H locs ls h1 h2 h3 h4 h5 => lv_ldcw K.1 K.2.1 K.2.2.2.1 (K.2.2.2.2.1 _ hw) hd (h H locs ls h1 h2 h3 h4 h5)
theorem sn_ldc2 (K : mk_Cx p R s m args meth c cc own nL D cy b sk lim) {i : Nat} {v : Int64} (hw : Cond.constantLong own i v ∈ mk_wt) (hd : decode cc pc = .ok (.ldc2_w i, 3)) : mk_Sn p l e R s m args below meth c Qs nL D cy b sk lim cr Q pc (pi_lng v (pc + 3)) :=
  fun _ _ _ _ _ _ _ h H locs ls h1 h2 h3 h4 h5 => lv_ldc2 K.1 K.2.1 K.2.2.2.1 (K.2.2.2.2.1 _ hw) hd (h H locs ls h1 h2 h3 h4 h5)
theorem sn_lconst (K : mk_Cx p R s m args meth c cc own nL D cy b sk lim) {n : Fin 2} {v : Int64} (hd : decode cc pc = .ok (.lconst n, 1)) (hv : Int64.ofNat (n : Nat) = v) : mk_Sn p l e R s m args below meth c Qs nL D cy b sk lim cr Q pc (pi_lng v (pc + 1)) :=
  fun _ _ _ _ _ _ _ h H locs ls h1 h2 h3 h4 h5 => lv_lconst K.1 K.2.1 hd hv (h H locs ls h1 h2 h3 h4 h5)
theorem sn_null (K : mk_Cx p R s m args meth c cc own nL D cy b sk lim) (hd : decode cc pc = .ok (.aconst_null, 1)) : mk_Sn p l e R s m args below meth c Qs nL D cy b sk lim cr Q pc (pi_null (pc + 1)) :=
  fun _ _ _ _ _ _ _ h H locs ls h1 h2 h3 h4 h5 => lv_null K.1 K.2.1 hd (h H locs ls h1 h2 h3 h4 h5)
theorem mk_iload {L : mj_L} {i : Nat} {st : List Value} {u : Nat × Nat} {sh : mj_S} {P : mj_P} {I : mj_I} {J : mj_J} {X : mj_X} (h : pi_iload i nx cr X Q lim L st u sh P I J) : ∃ x, L[i]? = some (some (.int x)) ∧ X nx L (.int x :: st) u sh P I J := by
  unfold pi_iload at h
  split at h
  · rename_i x hx; exact ⟨x, mk_getD hx, h⟩
  · exact h.elim
theorem sn_iload (K : mk_Cx p R s m args meth c cc own nL D cy b sk lim) {i : Nat} (hd : decode cc pc = .ok (.iload i, 2)) : mk_Sn p l e R s m args below meth c Qs nL D cy b sk lim cr Q pc (pi_iload i (pc + 2)) := fun _ _ _ _ _ _ _ h H locs ls h1 h2 h3 h4 h5 => by
  obtain ⟨x, hx, h⟩ := mk_iload h
  exact lv_iload K.1 K.2.1 hd (h1.2.2 _ _ hx) (h H locs ls h1 h2 h3 h4 h5)
theorem sn_iload_n (K : mk_Cx p R s m args meth c cc own nL D cy b sk lim) {i : Nat} {k : Fin 4} (hd : decode cc pc = .ok (.iload_n k, 1)) (hi : (k : Nat) = i) : mk_Sn p l e R s m args below meth c Qs nL D cy b sk lim cr Q pc (pi_iload i (pc + 1)) := fun _ _ _ _ _ _ _ h H locs ls h1 h2 h3 h4 h5 => by
  obtain ⟨x, hx, h⟩ := mk_iload h
  exact lv_iload_n K.1 K.2.1 hd hi (h1.2.2 _ _ hx) (h H locs ls h1 h2 h3 h4 h5)
theorem mk_lload {L : mj_L} {i : Nat} {st : List Value} {u : Nat × Nat} {sh : mj_S} {P : mj_P} {I : mj_I} {J : mj_J} {X : mj_X} (h : pi_lload i nx cr X Q lim L st u sh P I J) : ∃ x, L[i]? = some (some (.long x)) ∧ X nx L (.long x :: st) u sh P I J := by
  unfold pi_lload at h
  split at h
  · rename_i x hx; exact ⟨x, mk_getD hx, h⟩
  · exact h.elim
theorem sn_lload (K : mk_Cx p R s m args meth c cc own nL D cy b sk lim) {i : Nat} (hd : decode cc pc = .ok (.lload i, 2)) : mk_Sn p l e R s m args below meth c Qs nL D cy b sk lim cr Q pc (pi_lload i (pc + 2)) := fun _ _ _ _ _ _ _ h H locs ls h1 h2 h3 h4 h5 => by
  obtain ⟨x, hx, h⟩ := mk_lload h
  exact lv_lload K.1 K.2.1 hd (h1.2.2 _ _ hx) (h H locs ls h1 h2 h3 h4 h5)
theorem sn_lload_n (K : mk_Cx p R s m args meth c cc own nL D cy b sk lim) {i : Nat} {k : Fin 4} (hd : decode cc pc = .ok (.lload_n k, 1)) (hi : (k : Nat) = i) : mk_Sn p l e R s m args below meth c Qs nL D cy b sk lim cr Q pc (pi_lload i (pc + 1)) := fun _ _ _ _ _ _ _ h H locs ls h1 h2 h3 h4 h5 => by
  obtain ⟨x, hx, h⟩ := mk_lload h
  exact lv_lload_n K.1 K.2.1 hd hi (h1.2.2 _ _ hx) (h H locs ls h1 h2 h3 h4 h5)
/-- what a .retAddr stands for is a reference, but for the formatter -/
def mk_sr (sk : Nat → Value) : Prop := ∀ j, j ≠ 99 → ∃ x, sk j = .ref x
theorem mk_aload {L : mj_L} {i : Nat} {st : List Value} {u : Nat × Nat} {sh : mj_S} {P : mj_P} {I : mj_I} {J : mj_J} {X : mj_X} (h : pi_aload i nx cr X Q lim L st u sh P I J) (hs : mk_sr sk) : ∃ v x, L[i]? = some (some v) ∧ mk_tv b sk v = .ref x ∧ X nx L (v :: st) u sh P I J := by
  unfold pi_aload at h
  split at h
  · rename_i x hx; exact ⟨.ref x, b + x, mk_getD hx, rfl, h⟩
  · rename_i x hx
    split at h
    · exact h.elim
    · rename_i hne
      obtain ⟨y, hy⟩ := hs x hne
      exact ⟨.retAddr x, y, mk_getD hx, hy, h⟩
  · exact h.elim
theorem sn_aload (K : mk_Cx p R s m args meth c cc own nL D cy b sk lim) (hs : mk_sr sk) {i : Nat} (hd : decode cc pc = .ok (.aload i, 2)) : mk_Sn p l e R s m args below meth c Qs nL D cy b sk lim cr Q pc (pi_aload i (pc + 2)) := fun _ _ _ _ _ _ _ h H locs ls h1 h2 h3 h4 h5 => by
  obtain ⟨v, x, hx, hv, h⟩ := mk_aload (b := b) h hs
  have h := h H locs ls h1 h2 h3 h4 h5
  simp only [List.map_cons, hv] at h
  have e := h1.2.2 _ _ hx
  rw [hv] at e
  exact lv_aload K.1 K.2.1 hd e h
theorem sn_aload_n (K : mk_Cx p R s m args meth c cc own nL D cy b sk lim) (hs : mk_sr sk) {i : Nat} {k : Fin 4} (hd : decode cc pc = .ok (.aload_n k, 1)) (hi : (k : Nat) = i) : mk_Sn p l e R s m args below meth c Qs nL D cy b sk lim cr Q pc (pi_aload i (pc + 1)) := fun _ _ _ _ _ _ _ h H locs ls h1 h2 h3 h4 h5 => by
  obtain ⟨v, x, hx, hv, h⟩ := mk_aload (b := b) h hs
  have h := h H locs ls h1 h2 h3 h4 h5
  simp only [List.map_cons, hv] at h
  have e := h1.2.2 _ _ hx
  rw [hv] at e
  exact lv_aload_n K.1 K.2.1 hd hi e h
theorem mk_istore {L : mj_L} {i : Nat} {st : List Value} {u : Nat × Nat} {sh : mj_S} {P : mj_P} {I : mj_I} {J : mj_J} {X : mj_X} (h : pi_istore i nx cr X Q lim L st u sh P I J) : ∃ x r, st = .int x :: r ∧ mj_nl L i = true ∧ X nx (L.set i (some (.int x))) r u sh P I J := by
  unfold pi_istore at h
  split at h
  · rename_i x r
    split at h
    · rename_i hn; exact ⟨x, r, rfl, hn, h⟩
    · exact h.elim
  · exact h.elim
theorem mk_skc (K : mk_Cx p R s m args meth c cc own nL D cy b sk lim) : ∀ j, (sk j).category = 1 := by
  obtain ⟨-, -, -, -, -, -, -, -, ⟨_, _, -, -, -, -, h⟩, -⟩ := K
  exact h
theorem sn_istore (K : mk_Cx p R s m args meth c cc own nL D cy b sk lim) {i : Nat} (hd : decode cc pc = .ok (.istore i, 2)) (hn : i < nL) : mk_Sn p l e R s m args below meth c Qs nL D cy b sk lim cr Q pc (pi_istore i (pc + 2)) := fun _ _ _ _ _ _ _ h H locs ls h1 h2 h3 h4 h5 => by
  obtain ⟨x, r, rfl, hq, h⟩ := mk_istore h
  exact lv_istore K.1 K.2.1 hd (mk_lv_has h1) hn rfl (fun ls' hl => h H locs ls' (mk_store1 (mk_skc K) hq hl) h2 h3 h4 h5)
theorem sn_istore_n (K : mk_Cx p R s m args meth c cc own nL D cy b sk lim) {i : Nat} {k : Fin 4} (hd : decode cc pc = .ok (.istore_n k, 1)) (hi : (k : Nat) = i) (hn : i < nL) : mk_Sn p l e R s m args below meth c Qs nL D cy b sk lim cr Q pc (pi_istore i (pc + 1)) := fun _ _ _ _ _ _ _ h H locs ls h1 h2 h3 h4 h5 => by
  obtain ⟨x, r, rfl, hq, h⟩ := mk_istore h
  exact lv_istore_n K.1 K.2.1 hd hi (mk_lv_has h1) hn rfl (fun ls' hl => h H locs ls' (mk_store1 (mk_skc K) hq hl) h2 h3 h4 h5)
theorem mk_astore {L : mj_L} {i : Nat} {st : List Value} {u : Nat × Nat} {sh : mj_S} {P : mj_P} {I : mj_I} {J : mj_J} {X : mj_X} (h : pi_astore i nx cr X Q lim L st u sh P I J) : ∃ x r, st = .ref x :: r ∧ mj_nl L i = true ∧ X nx (L.set i (some (.ref x))) r u sh P I J := by
  unfold pi_astore at h
  split at h
  · rename_i x r
    split at h
    · rename_i hn; exact ⟨x, r, rfl, hn, h⟩
    · exact h.elim
  · exact h.elim
theorem sn_astore (K : mk_Cx p R s m args meth c cc own nL D cy b sk lim) {i : Nat} (hd : decode cc pc = .ok (.astore i, 2)) (hn : i < nL) : mk_Sn p l e R s m args below meth c Qs nL D cy b sk lim cr Q pc (pi_astore i (pc + 2)) := fun _ _ _ _ _ _ _ h H locs ls h1 h2 h3 h4 h5 => by
  obtain ⟨x, r, rfl, hq, h⟩ := mk_astore h
  exact lv_astore K.1 K.2.1 hd (mk_lv_has h1) hn rfl (fun ls' hl => h H locs ls' (mk_store1 (x := .ref x) (mk_skc K) hq hl) h2 h3 h4 h5)
theorem sn_astore_n (K : mk_Cx p R s m args meth c cc own nL D cy b sk lim) {i : Nat} {k : Fin 4} (hd : decode cc pc = .ok (.astore_n k, 1)) (hi : (k : Nat) = i) (hn : i < nL) : mk_Sn p l e R s m args below meth c Qs nL D cy b sk lim cr Q pc (pi_astore i (pc + 1)) := fun _ _ _ _ _ _ _ h H locs ls h1 h2 h3 h4 h5 => by
  obtain ⟨x, r, rfl, hq, h⟩ := mk_astore h
  exact lv_astore_n K.1 K.2.1 hd hi (mk_lv_has h1) hn rfl (fun ls' hl => h H locs ls' (mk_store1 (x := .ref x) (mk_skc K) hq hl) h2 h3 h4 h5)
theorem mk_lstore {L : mj_L} {i : Nat} {st : List Value} {u : Nat × Nat} {sh : mj_S} {P : mj_P} {I : mj_I} {J : mj_J} {X : mj_X} (h : pi_lstore i nx cr X Q lim L st u sh P I J) : ∃ x r, st = .long x :: r ∧ mj_nl L i = true ∧ X nx ((L.set i (some (.long x))).set (i + 1) none) r u sh P I J := by
  unfold pi_lstore at h
  split at h
  · rename_i x r
    split at h
    · rename_i hn; exact ⟨x, r, rfl, hn, h⟩
    · exact h.elim
  · exact h.elim
theorem sn_lstore (K : mk_Cx p R s m args meth c cc own nL D cy b sk lim) {i : Nat} (hd : decode cc pc = .ok (.lstore i, 2)) (hn : i + 1 < nL) : mk_Sn p l e R s m args below meth c Qs nL D cy b sk lim cr Q pc (pi_lstore i (pc + 2)) := fun _ _ _ _ _ _ _ h H locs ls h1 h2 h3 h4 h5 => by
  obtain ⟨x, r, rfl, hq, h⟩ := mk_lstore h
  exact lv_lstore K.1 K.2.1 hd (mk_lv_has h1) hn rfl (fun ls' hl => h H locs ls' (mk_store2 (mk_skc K) hq hl) h2 h3 h4 h5)
theorem sn_lstore_n (K : mk_Cx p R s m args meth c cc own nL D cy b sk lim) {i : Nat} {k : Fin 4} (hd : decode cc pc = .ok (.lstore_n k, 1)) (hi : (k : Nat) = i) (hn : i + 1 < nL) : mk_Sn p l e R s m args below meth c Qs nL D cy b sk lim cr Q pc (pi_lstore i (pc + 1)) := fun _ _ _ _ _ _ _ h H locs ls h1 h2 h3 h4 h5 => by
  obtain ⟨x, r, rfl, hq, h⟩ := mk_lstore h
  exact lv_lstore_n K.1 K.2.1 hd hi (mk_lv_has h1) hn rfl (fun ls' hl => h H locs ls' (mk_store2 (mk_skc K) hq hl) h2 h3 h4 h5)
theorem mk_ll_at {L : mj_L} {i : Nat} {v : Value} (h : L[i]? = some (some v)) : ∃ k : Nat, (mk_ll b sk L)[k]? = some (i, mk_tv b sk v) := List.getElem?_of_mem (mk_ll_in h)
theorem sn_iinc (K : mk_Cx p R s m args meth c cc own nL D cy b sk lim) {i : Nat} {n : Int} {v : Int32} (hd : decode cc pc = .ok (.iinc i n, 3)) (hv : Int32.ofInt n = v) (hn : i < nL) : mk_Sn p l e R s m args below meth c Qs nL D cy b sk lim cr Q pc (pi_iinc i v (pc + 3)) := fun L st u sh P I J h H locs ls h1 h2 h3 h4 h5 => by
  unfold pi_iinc at h
  split at h
  · rename_i x hx
    split at h
    · rename_i hq
      obtain ⟨k, hk⟩ := mk_ll_at (b := b) (sk := sk) (mk_getD hx)
      exact lv_iinc (v := x + v) K.1 K.2.1 hd (mk_lv_has h1) hk (by rw [hv]) hn rfl (fun ls' hl => h H locs ls' (mk_store1 (x := .int (x + v)) (mk_skc K) hq hl) h2 h3 h4 h5)
    · exact h.elim
  · exact h.elim
end SND
