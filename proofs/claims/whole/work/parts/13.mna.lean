/-! new int[n][k], my own walk of it: the outer row, then row after row -/
def mq_o (cA : ClassId) (N h i : Nat) : Cell := arrV cA N (fun j => va_rf (if j < i then some (h + 1 + j) else none))
def mq_r (cI : ClassId) (K : Nat) : Cell := arrV cI K (fun _ => .int 0)
def mq_s (T : State) (cA cI : ClassId) (N K : Nat) : Nat → State
  | 0 => T.pushCell (mq_o cA N T.heap.size 0)
  | i + 1 => ((mq_s T cA cI N K i).pushCell (mq_r cI K)).setCell T.heap.size ((mq_o cA N T.heap.size i).setSlot i (.ref (T.heap.size + 1 + i)))
theorem mq_step (cA : ClassId) (N h i : Nat) : (mq_o cA N h i).setSlot i (.ref (h + 1 + i)) = mq_o cA N h (i + 1) := by
  unfold mq_o
  rw [arrV_store]
  refine congrArg (arrV cA N) (funext fun j => ?_)
  unfold updV
  by_cases e : j = i
  · subst e; simp [va_rf]
  · by_cases q : j < i
    · simp [e, q, show j < i + 1 by omega, va_rf]
    · simp [e, q, show ¬ j < i + 1 by omega, va_rf]
theorem mq_f (T : State) (cA cI : ClassId) (N K : Nat) : ∀ i, (mq_s T cA cI N K i).heap.size = T.heap.size + 1 + i ∧ (mq_s T cA cI N K i).heap[T.heap.size]? = some (mq_o cA N T.heap.size i) ∧ (mq_s T cA cI N K i).vm = T.vm ∧ (mq_s T cA cI N K i).slotsUsed = T.slotsUsed + N + i * K ∧ (∀ q, q < T.heap.size → (mq_s T cA cI N K i).heap[q]? = T.heap[q]?) ∧ ∀ j, j < i → (mq_s T cA cI N K i).heap[T.heap.size + 1 + j]? = some (mq_r cI K) := by
  intro i
  induction i with
  | zero =>
    refine ⟨by simp [mq_s], by simp [mq_s], rfl, by simp [mq_s, mq_o, arrV_size], fun q hq => State.heap_pushCell_of_lt _ _ hq, fun j hj => absurd hj (Nat.not_lt_zero j)⟩
  | succ i ih =>
    obtain ⟨a1, a2, a3, a4, a5, a6⟩ := ih
    have hlt : T.heap.size < (mq_s T cA cI N K i).heap.size := by omega
    have hc : ((mq_s T cA cI N K i).pushCell (mq_r cI K)).heap[T.heap.size]? = some (mq_o cA N T.heap.size i) := by rw [State.heap_pushCell_of_lt (h := hlt)]; exact a2
    refine ⟨by simp [mq_s, State.setCell, a1]; omega, ?_, by simp [mq_s, a3], by simp [mq_s, a4, mq_r, arrV_size, Nat.succ_mul]; omega, fun q hq => ?_, fun j hj => ?_⟩
    · rw [← mq_step]; exact State.heap_setCell_self hc
    · show (((mq_s T cA cI N K i).pushCell (mq_r cI K)).setCell T.heap.size _).heap[q]? = _
      rw [State.heap_setCell_other (show T.heap.size ≠ q by omega), State.heap_pushCell_of_lt (h := show q < (mq_s T cA cI N K i).heap.size by omega)]
      exact a5 q hq
    · show (((mq_s T cA cI N K i).pushCell (mq_r cI K)).setCell T.heap.size _).heap[T.heap.size + 1 + j]? = _
      rw [State.heap_setCell_other (show T.heap.size ≠ T.heap.size + 1 + j by omega)]
      by_cases e : j = i
      · subst e
        rw [← a1]
        exact State.heap_pushCell_size _ _
      · rw [State.heap_pushCell_of_lt (h := show T.heap.size + 1 + j < (mq_s T cA cI N K i).heap.size by omega)]
        exact a6 j (by omega)
theorem mq_top (T : State) (f : JFrame) (cA cI : ClassId) (N K : Nat) : ∀ i, mq_s (T.setTop f) cA cI N K i = (mq_s T cA cI N K i).setTop f
  | 0 => rfl
  | i + 1 => by simp only [mq_s, mq_top T f cA cI N K i, State.heap_setTop, State.pushCell_setTop, State.setCell_setTop]
section MQ
variable {E : CtlPost} {e : Env} {d : Bool} {acts : List Action} {s : State}
theorem mq_in {cI ci2 : ClassId} {kI : Class} {k : Int32} (h1 : s.vm.classes[cI]? = some kI) (h2 : kI.kind = .array ci2 .int) (hk : ¬ k < 0) (hl : ¬ k.toNatClampNeg > e.platform.arrayLengthLimit) (hh : ¬ k.toNatClampNeg * componentBytes .int > e.platform.maxHeapBytes) (hc : s.heap.size < e.platform.maxCells) (hs : s.slotsUsed + k.toNatClampNeg ≤ e.platform.maxSlots) {Q : Addr → Pre} (hq : ∀ acts', Q s.heap.size d acts' (s.pushCell (mq_r cI k.toNatClampNeg))) : wp (multianewarray.make cI [k]) Q E e d acts s := by
  rw [multianewarray.make]
  simp only [wp_bind', W.ite, hk, if_false, wp_pure', W.theClass, h1, h2, Option.some.injEq, exists_eq_left']
  refine W.newArray_of h1 h2 hl hh hc hs rfl (fun acts' => ?_)
  have e9 : (({ cls := cI, slots := Array.replicate k.toNatClampNeg (defaultValue .int) } : Cell)) = mq_r cI k.toNatClampNeg := arrV_new cI _ _
  rw [e9]
  exact hq acts'
theorem mq_out {cA cI ci2 : ClassId} {kA kI : Class} {n k : Int32} (a1 : s.vm.classes[cA]? = some kA) (a2 : kA.kind = .array cI (.array .int)) (h1 : s.vm.classes[cI]? = some kI) (h2 : kI.kind = .array ci2 .int) (hn : ¬ n < 0) (hk : ¬ k < 0) (hl1 : ¬ n.toNatClampNeg > e.platform.arrayLengthLimit) (hh1 : ¬ n.toNatClampNeg * componentBytes (.array .int) > e.platform.maxHeapBytes)
    (hl : ¬ k.toNatClampNeg > e.platform.arrayLengthLimit) (hh : ¬ k.toNatClampNeg * componentBytes .int > e.platform.maxHeapBytes) (hc : s.heap.size + 1 + n.toNatClampNeg ≤ e.platform.maxCells) (hs : s.slotsUsed + n.toNatClampNeg + n.toNatClampNeg * k.toNatClampNeg ≤ e.platform.maxSlots) {Q : Addr → Pre} (hq : ∀ d' acts', Q s.heap.size d' acts' (mq_s s cA cI n.toNatClampNeg k.toNatClampNeg n.toNatClampNeg)) : wp (multianewarray.make cA [n, k]) Q E e d acts s := by
  have hf : ([k].find? (· < 0)) = none := by simp [hk]
  rw [multianewarray.make]
  simp only [wp_bind', W.ite, hn, if_false, wp_pure', W.theClass, a1, a2, Option.some.injEq, exists_eq_left']
  refine W.newArray_of a1 a2 hl1 hh1 (by omega) (by omega) rfl (fun acts1 => ?_)
  have e9 : (({ cls := cA, slots := Array.replicate n.toNatClampNeg Value.null } : Cell)) = mq_o cA n.toNatClampNeg s.heap.size 0 := (arrV_new cA _ _).trans (congrArg (arrV cA _) (funext fun j => by simp [va_rf]))
  rw [e9]
  simp only [hf]
  rw [ite_self, wp_bind', Std.Legacy.Range.forIn_eq_forIn_range']
  have hz : ([:n.toNatClampNeg] : Std.Legacy.Range).size = n.toNatClampNeg := by simp [Std.Legacy.Range.size]
  rw [hz]
  refine wp_forIn_inv (fun rest s' => ∃ i, i ≤ n.toNatClampNeg ∧ rest = List.range' i (n.toNatClampNeg - i) ∧ s' = mq_s s cA cI n.toNatClampNeg k.toNatClampNeg i) _ _ ⟨0, Nat.zero_le _, rfl, rfl⟩ ?_ ?_
  · rintro x rest s' d' acts' Q' ⟨i, hi, hr, rfl⟩ hnext
    have hlt : i < n.toNatClampNeg := by
      rcases Nat.lt_or_ge i n.toNatClampNeg with q | q
      · exact q
      · rw [show n.toNatClampNeg - i = 0 by omega] at hr; cases hr
    rw [show n.toNatClampNeg - i = (n.toNatClampNeg - (i + 1)) + 1 by omega, List.range'_succ] at hr
    obtain ⟨rfl, hr⟩ := List.cons.inj hr
    obtain ⟨f1, f2, f3, f4, -, -⟩ := mq_f s cA cI n.toNatClampNeg k.toNatClampNeg x
    have hmul : x * k.toNatClampNeg + k.toNatClampNeg ≤ n.toNatClampNeg * k.toNatClampNeg := by
      have := Nat.mul_le_mul_right k.toNatClampNeg (show x + 1 ≤ n.toNatClampNeg from hlt)
      rw [Nat.succ_mul] at this
      exact this
    simp only [wp_bind']
    refine mq_in (by rw [f3]; exact h1) h2 hk hl hh (by rw [f1]; omega) (by rw [f4]; omega) (fun acts2 => ?_)
    have h0 : s.heap.size < (mq_s s cA cI n.toNatClampNeg k.toNatClampNeg x).heap.size := by omega
    simp only [wp_bind', W.writeLoc, wp_pure']
    refine ⟨mq_o cA n.toNatClampNeg s.heap.size x, by rw [State.heap_pushCell_of_lt (h := h0)]; exact f2, (fun q => by cases q), by show x < (arrV _ _ _).slots.size; rw [arrV_size]; exact hlt, ?_, hnext _ _ _ ⟨x + 1, hlt, hr, ?_⟩⟩
    · have e1 : (mq_o cA n.toNatClampNeg s.heap.size x).cls = cA := rfl
      have e2 : (mq_o cA n.toNatClampNeg s.heap.size x).vm = .none := rfl
      rw [e1, e2]
      simp [State.fitsSlot, State.slotType?, f3, a1, a2, fits]
    · rw [f1]; rfl
  · rintro s' d' acts' ⟨i, hi, hr, rfl⟩
    have hiN : i = n.toNatClampNeg := by
      rcases Nat.lt_or_ge i n.toNatClampNeg with q | q
      · rw [show n.toNatClampNeg - i = (n.toNatClampNeg - (i + 1)) + 1 by omega, List.range'_succ] at hr; cases hr
      · omega
    subst hiN
    simp only [wp_pure']
    exact hq _ _
end MQ
theorem mq_stand {p : Program} {l : Launch} {e : Env} {R : Room} {s : State} {m : MethodId} {args : Array Value} {below : List Frame} {meth : Method} {c : Code} {T : State} {locs : List Loc} {cells slots : Nat} (X : Stand p l e R s m args below meth c T locs cells slots) (cA cI : ClassId) (N K : Nat) : ∀ i, Stand p l e R s m args below meth c (mq_s T cA cI N K i) (locs ++ (List.range i).map fun j => ⟨T.heap.size, j⟩) (cells + 1 + i) (slots + N + i * K) := by
  intro i
  induction i with
  | zero =>
    have h := X.pushed (mq_o cA N T.heap.size 0)
    rw [show (mq_o cA N T.heap.size 0).slots.size = N from arrV_size _ _ _] at h
    simpa [mq_s] using h
  | succ i ih =>
    obtain ⟨f1, f2, -, -, -, -⟩ := mq_f T cA cI N K i
    have hlt : T.heap.size < (mq_s T cA cI N K i).heap.size := by omega
    have hc : ((mq_s T cA cI N K i).pushCell (mq_r cI K)).heap[T.heap.size]? = some (mq_o cA N T.heap.size i) := by rw [State.heap_pushCell_of_lt (h := hlt)]; exact f2
    have h := (ih.pushed (mq_r cI K)).stored hc i (.ref (T.heap.size + 1 + i))
    rw [show (mq_r cI K).slots.size = K from arrV_size _ _ _] at h
    have e2 : (locs ++ (List.range (i + 1)).map fun j => (⟨T.heap.size, j⟩ : Loc)) = (locs ++ (List.range i).map fun j => (⟨T.heap.size, j⟩ : Loc)) ++ [⟨T.heap.size, i⟩] := by simp [List.range_succ, List.append_assoc]
    have e3 : slots + N + (i + 1) * K = slots + N + i * K + K := by rw [Nat.succ_mul]; omega
    rw [e2, e3]
    exact h
theorem mk_W_many {cy : Nat → ClassId} {b : Nat} {sh : mj_S} {P P' : mj_P} {I I' : mj_I} {J : mj_J} {n k : Nat} (h : ∀ a, a < sh.length → P' a = P a ∧ I' a = I a) : mk_W cy b (sh ++ (18, n) :: List.replicate n (13, k)) P' I' J = mk_W cy b sh P I J ++ ((b + sh.length, mk_E cy b P' I' J sh.length (18, n)) :: (List.replicate n (13, k)).mapIdx (fun a q => (b + (sh.length + 1 + a), mk_E cy b P' I' J (sh.length + 1 + a) q))) := by
  unfold mk_W
  rw [List.mapIdx_append]
  congr 1
  · apply List.ext_getElem?
    intro i
    rw [List.getElem?_mapIdx, List.getElem?_mapIdx]
    cases hq : sh[i]? with
    | none => rfl
    | some z =>
      obtain ⟨h1, h2⟩ := h i (List.getElem?_eq_some_iff.mp hq).1
      simp only [Option.map_some]
      rw [mk_E_congr h1 h2 rfl]
  · rw [List.mapIdx_cons]
    simp only [Nat.zero_add]
    congr 1
    apply List.ext_getElem?
    intro i
    rw [List.getElem?_mapIdx, List.getElem?_mapIdx]
    rw [show i + 1 + sh.length = sh.length + 1 + i by omega]
section MNA
variable {p : Program} {l : Launch} {e : Env} {R : Room} {s : State} {m : MethodId} {args : Array Value} {below : List Frame} {meth : Method} {c : Code} {Qs : State → Prop} {nL : Nat} {D : va_G} {cy : Nat → ClassId} {b : Nat} {sk : Nat → Value} {lim : Nat × Nat} {cc : ByteArray} {own : String} {cr : mj_C} {Q : mj_Q} {pc nx : Nat}
set_option maxHeartbeats 4000000 in
theorem sn_mna (K : mk_Cx p R s m args meth c cc own nL D cy b sk lim) {i : Nat} (hl : Cond.classLink own i "[[I" ∈ mk_wt) (hw : mk_AA s) (hwi : Cond.arrayClass .int ∈ mk_wt) (hd : decode cc pc = .ok (.multianewarray i 2, 4)) : mk_Sn p l e R s m args below meth c Qs nL D cy b sk lim cr Q pc (pi_mna (pc + 4)) := fun L st u sh P I J h H locs ls h1 h2 h3 h4 h5 => by
  unfold pi_mna at h
  split at h
  · rename_i k n st
    obtain ⟨⟨q0, q00, q9, q99, q1, q2⟩, h⟩ := h
    obtain ⟨hx, hbb, hml, hown, hts, hK, hb0, hlk, hXt, ⟨hR1, hR2⟩, hRf⟩ := id K
    refine W_sz fun hz => ?_
    have hsz := mk_size h4 h5 hb0 hz h2
    intro T hT X
    have hpl : e.platform.magicAccessors = ({} : Platform).magicAccessors := by rw [X.admits.platform]
    obtain ⟨comp, cA, kA, hcomp, hidx, hkA, hkindA, hnameA⟩ := hw
    obtain ⟨comp', kC, cc2, hcomp', hkC, hkindC⟩ := Cond.arrayClass_spec (hts _ hwi)
    have ec : comp' = comp := Option.some.inj (hcomp'.symm.trans hcomp)
    subst ec
    have hcI : comp' = cy 13 := mk_cyI K hcomp'
    subst hcI
    have hcA : cA = cy 18 := by
      have g : s.vm.findClass ("[" ++ (FieldType.array .int).toString) = some (cy 18) := (hK.2 5 (cy 18, .array .int) rfl).2
      exact Option.some.inj (hnameA.symm.trans g)
    subst hcA
    obtain ⟨c0, hfc0, hcl⟩ := Cond.classLink_spec hown (hts _ hl) e.platform hpl
    cases hnameA.symm.trans hfc0
    obtain ⟨hg₁, hwarm₁, hready₁⟩ := State.classEntry (e := e) X.warmed hcl
    generalize T.vm.noted m.cls i (.cls (cy 18)) = vm₁ at hg₁ hwarm₁ hready₁
    have hal : s.vm.Alike vm₁ := hwarm₁.alike
    obtain ⟨kA₁, hkA₁, heA⟩ := hal.2.2 _ _ hkA
    obtain ⟨kC₁, hkC₁, heC⟩ := hal.2.2 _ _ hkC
    have hkindA₁ : kA₁.kind = .array (cy 13) (.array .int) := by rw [heA]; exact hkindA
    have hkindC₁ : kC₁.kind = .array cc2 .int := by rw [heC]; exact hkindC
    have X₁ := X.noted hwarm₁
    obtain ⟨hr1, hr2⟩ := X.roomAbove (a := 1 + n.toNatClampNeg) (b := n.toNatClampNeg + n.toNatClampNeg * k.toNatClampNeg) (by omega) (by omega)
    have hl1 : ¬ n.toNatClampNeg > e.platform.arrayLengthLimit := by rw [Launch.admits_arrayLengthLimit X.admits]; omega
    have hh1 : ¬ n.toNatClampNeg * componentBytes (.array .int) > e.platform.maxHeapBytes := by
      rw [Launch.admits_maxHeapBytes X.admits]; show ¬ n.toNatClampNeg * 4 > 536870912; omega
    have hl2 : ¬ k.toNatClampNeg > e.platform.arrayLengthLimit := by rw [Launch.admits_arrayLengthLimit X.admits]; omega
    have hh2 : ¬ k.toNatClampNeg * componentBytes .int > e.platform.maxHeapBytes := by rw [Launch.admits_maxHeapBytes X.admits]; show ¬ k.toNatClampNeg * 4 > 536870912; omega
    have XF := mq_stand X₁ (cy 18) (cy 13) n.toNatClampNeg k.toNatClampNeg n.toNatClampNeg
    obtain ⟨f1, f2, f3, f4, f5, f6⟩ := mq_f (T.setVm vm₁) (cy 18) (cy 13) n.toNatClampNeg k.toNatClampNeg n.toNatClampNeg
    have hTh : (T.setVm vm₁).heap = H := hT
    rw [hTh] at f1 f2 f5 f6
    have hTs : T.heap.size = b + sh.length := by rw [hT]; exact hsz
    generalize hF : mq_s (T.setVm vm₁) (cy 18) (cy 13) n.toNatClampNeg k.toNatClampNeg n.toNatClampNeg = F at XF f1 f2 f3 f4 f5 f6
    have hP1 : va_P D mk_cl (mk_W cy b (sh ++ (18, n.toNatClampNeg) :: List.replicate n.toNatClampNeg (13, k.toNatClampNeg)) (mj_w P sh.length (fun j => if j < n.toNatClampNeg then some (sh.length + 1 + j) else none)) (mj_z I sh.length) J) F.heap := by
      rw [mk_W_many (P := P) (I := I) (fun a ha => ⟨mj_w_row _ _ _ (by omega), by funext j; simp [mj_z, show ¬ sh.length ≤ a by omega]⟩)]
      refine (mk_kept h4 f5).app (fun a z hz2 => ?_)
      cases a with
      | zero =>
        rw [List.getElem?_cons_zero] at hz2
        cases hz2
        rw [mk_E_ref (by decide), mj_w_eq]
        show F.heap[b + sh.length]? = some (vp_cell _ _)
        rw [vp_cell_q, ← hsz, f2]
        unfold mq_o
        refine congrArg some (congrArg (arrV (cy 18) n.toNatClampNeg) (funext fun j => ?_))
        by_cases hj : j < n.toNatClampNeg
        · simp only [if_pos hj, Option.map_some]; rw [hsz, show b + sh.length + 1 + j = b + (sh.length + 1 + j) by omega]
        · simp [hj]
      | succ a =>
        rw [List.getElem?_cons_succ, List.getElem?_mapIdx] at hz2
        by_cases ha : a < n.toNatClampNeg
        · rw [List.getElem?_replicate_of_lt ha] at hz2
          cases hz2
          dsimp only
          rw [mk_E_int]
          show F.heap[b + (sh.length + 1 + a)]? = some (vp_cell _ _)
          rw [vp_cell_i, show b + (sh.length + 1 + a) = H.size + 1 + a by omega, f6 a ha]
          unfold mq_r
          refine congrArg some (congrArg (arrV (cy 13) k.toNatClampNeg) (funext fun j => ?_))
          simp [mj_z, show sh.length ≤ sh.length + 1 + a by omega]
        · rw [List.getElem?_eq_none (by simp; omega)] at hz2
          cases hz2
    have hS1 : va_S (mk_A b) s.heap F.heap (locs ++ (List.range n.toNatClampNeg).map fun j => ⟨(T.setVm vm₁).heap.size, j⟩) := by
      refine ⟨by have := h5.1; omega, fun x a1 a2 => (f5 x (Nat.lt_of_lt_of_le a1 h5.1)).trans (h5.2.1 x a1 a2), fun q hq => ?_⟩
      rcases List.mem_append.mp hq with hq | hq
      · exact h5.2.2 q hq
      · obtain ⟨j, -, rfl⟩ := List.mem_map.mp hq
        show b ≤ (T.setVm vm₁).heap.size
        rw [hTh, hsz]; omega
    have hX := h F.heap _ ls h1 (by simp only [List.length_append, List.length_cons, List.length_replicate]; omega) ⟨by simp only; omega, by simp only; omega⟩ hP1 hS1
    have ec : u.1 + (1 + n.toNatClampNeg) = u.1 + 1 + n.toNatClampNeg := by omega
    have es : u.2 + (n.toNatClampNeg + n.toNatClampNeg * k.toNatClampNeg) = u.2 + n.toNatClampNeg + n.toNatClampNeg * k.toNatClampNeg := by omega
    simp only [ec, es] at hX
    obtain ⟨t2, g1, g2⟩ := hX F rfl XF
    refine ⟨t2, ?_, g2⟩
    subst hF
    show Steps p.tables e below (T.setTop (F0 m pc ls (.int k :: .int n :: st.map (mk_tv b sk)))) t2
    obtain ⟨g, hg⟩ : ∃ g : JFrame, g = F0 m pc ls (.int k :: .int n :: st.map (mk_tv b sk)) := ⟨_, rfl⟩
    have hgm : g.method = m := by rw [hg]
    have hgp : decode c.code g.pc = .ok (.multianewarray i 2, 4) := by rw [hg, hbb]; exact hd
    have hgs : g.stack = .int k :: .int n :: st.map (mk_tv b sk) := by rw [hg]
    have e7 : F0 m (pc + 4) ls (.ref T.heap.size :: st.map (mk_tv b sk)) = { g with pc := g.pc + 4, stack := .ref T.heap.size :: st.map (mk_tv b sk) } := by rw [hg]
    rw [← hg]
    have g9 : Steps p.tables e below ((mq_s (T.setVm vm₁) (cy 18) (cy 13) n.toNatClampNeg k.toNatClampNeg n.toNatClampNeg).setTop { g with pc := g.pc + 4, stack := .ref T.heap.size :: st.map (mk_tv b sk) }) t2 := by
      rw [← e7, hTs]; exact g1
    clear e7 hg
    subst hgm
    jvm_step X.here [hx, hgp]
    simp only [multianewarray.sem, wp_bind', W.resolveClassAt_links (State.method?_setTop g X.here.top) hg₁]
    rw [W.popN, if_neg (by decide)]
    refine ⟨g, State.topJava?_setTop' (s := T.setVm vm₁) g X.here.top, [.int n, .int k], st.map (mk_tv b sk), rfl, hgs, ?_⟩
    simp only [List.mapM_cons, List.mapM_nil, wp_bind', wp_pure']
    refine mq_out (kA := kA₁) (kI := kC₁) (cI := cy 13) (ci2 := cc2) hkA₁ hkindA₁ hkC₁ hkindC₁ q0 q00 hl1 hh1 hl2 hh2 (by show T.heap.size + 1 + _ ≤ _; omega) (by show T.slotsUsed + _ + _ ≤ _; omega) (fun d' acts' => ?_)
    have eS : ((T.setTop g).setVm vm₁).setTop { g with stack := st.map (mk_tv b sk) } = (T.setVm vm₁).setTop { g with stack := st.map (mk_tv b sk) } := by
      show ((T.setVm vm₁).setTop g).setTop _ = _
      rw [State.setTop_setTop]
    rw [eS, mq_top]
    simp only [wp_bind', W.mark, W.pushRef, State.topJava?_setTop' _ XF.here.top, Option.some.injEq, exists_eq_left', State.setTop_setTop, State.heap_setTop]
    intro acts
    simp [jvm, XF.here.top]
    exact g9
  · exact h.elim
end MNA
