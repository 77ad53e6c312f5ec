/-! rows of calls; a method's contract out of its rows -/
/-- rows of int rows can be made -/
def mk_AA (U : State) : Prop := ∃ (comp c : ClassId) (k : Class), U.vm.findClass "[I" = some comp ∧ (U.vm.classes.findIdx? fun (x : Class) => match x.kind with | .array component _ => component == comp | _ => false) = some c ∧ U.vm.classes[c]? = some k ∧ k.kind = .array comp (.array .int) ∧ U.vm.findClass "[[I" = some c
theorem mk_AA.moved {u U : State} (hvm : u.vm.Alike U.vm) (h : mk_AA u) : mk_AA U := by
  obtain ⟨comp, c, k, h1, h2, h3, h4, h5⟩ := h
  obtain ⟨k', hk', he⟩ := hvm.2.2 _ _ h3
  have hi : (U.vm.classes.findIdx? fun (x : Class) => match x.kind with | .array component _ => component == comp | _ => false) = some c := by
    refine (va_idx_bare U.vm comp).symm.trans ?_
    first | rw [hvm.bare_eq] | rw [← hvm.bare_eq]
    exact (va_idx_bare u.vm comp).trans h2
  exact ⟨comp, c, k', by rw [hvm.findClass]; exact h1, hi, hk', by rw [he]; exact h4, by rw [hvm.findClass]; exact h5⟩
/-- the texts' places in the pools -/
def mk_str : List (String × Nat × String) := [("LostSevens$Tape", 62, "to    none  when  or    and   not   day   frost place lengthleft  right "), ("LostSevens$Tape", 52, ";+-*/()<=>"), ("LostSevensModel", 126, "when"), ("LostSevensModel", 128, "or"), ("LostSevensModel", 130, "and"), ("LostSevensModel", 132, "not"), ("LostSevensModel", 134, "to"), ("LostSevensModel", 136, "none"), ("LostSevensModel", 111, "day"), ("LostSevensModel", 117, "frost"), ("LostSevensModel", 119, "place"), ("LostSevensModel", 121, "length"), ("LostSevensModel", 122, "left"), ("LostSevensModel", 124, "right")]
def mk_Yt (sk : Nat → Value) (U : State) : Prop := (∀ (j : Nat) (q : String × Nat × String), mk_str[j]? = some q → ∀ a, sk (2 * j) = .ref a → vk_R q.1 q.2.1 q.2.2 a U) ∧ va_AO RX2 U ∧ va_AO RX3 U ∧ va_AO RX7 U ∧ mk_AA U
theorem mk_Yt.warm {sk : Nat → Value} {s U : State} (hW : s.WarmedH U.vm) (h : mk_Yt sk s) : mk_Yt sk U := ⟨fun j q hq a ha => (h.1 j q hq a ha).warm hW, h.2.1.moved hW.alike, h.2.2.1.moved hW.alike, h.2.2.2.1.moved hW.alike, h.2.2.2.2.moved hW.alike⟩
theorem mk_Yt.same {sk : Nat → Value} {u U : State} (hv : U.vm = u.vm) (h : mk_Yt sk u) : mk_Yt sk U := ⟨fun j q hq a ha => (h.1 j q hq a ha).same hv, h.2.1.moved (by rw [hv]; exact Vm.Alike.refl _), h.2.2.1.moved (by rw [hv]; exact Vm.Alike.refl _), h.2.2.2.1.moved (by rw [hv]; exact Vm.Alike.refl _), h.2.2.2.2.moved (by rw [hv]; exact Vm.Alike.refl _)⟩
theorem mk_Xt.to {b : Nat} {sk : Nat → Value} {u U : State} {H H1 : Heap} (h : mk_Xt b sk u H) (hq : ∀ a : Nat, a < H.size → ¬ mk_A b a → H1[a]? = H[a]?) (hvm : u.vm.Alike U.vm) : mk_Xt b sk U H1 := by
  obtain ⟨adK, adV, h1, h2, h3, h4, h5⟩ := h
  exact ⟨adK, adV, (h1.kept hq).moved hvm, h2, (h3.kept hq).moved hvm, (h4.kept hq).moved hvm, h5⟩
def mk_rm (d : Nat) (lim : Nat × Nat) : Room := { frames := d, cells := lim.1, slots := lim.2, locals := 64 * d }
/-- what stands ahead of a method -/
def mk_Pc (D : va_G) (cy : Nat → ClassId) (b : Nat) (sk : Nat → Value) (as : List Value) (sh : mj_S) (P : mj_P) (I : mj_I) (J : mj_J) : Array Value → State → Prop :=
  va_Pc (as.map (mk_tv b sk)) (fun U => U.heap.size = b + sh.length ∧ va_P D mk_cl (mk_W cy b sh P I J) U.heap ∧ va_K D mk_cl (mk_tys cy) U ∧ mk_Xt b sk U U.heap ∧ mk_Yt sk U ∧ mk_sr sk)
def mk_Met (l : Launch) (d y : Nat) (as : List Value) (lim : Nat × Nat) (sh : mj_S) (P : mj_P) (I : mj_I) (J : mj_J) (Q : mj_Q) : Prop :=
  ∀ (D : va_G) (cy : Nat → ClassId) (b : Nat) (sk : Nat → Value), Met l (mk_nm y) (mk_ws y) (mk_rm d lim) (mk_Pc D cy b sk as sh P I J) (mk_Qc D cy b sk (sh.length + lim.1) Q) lim.1 lim.2 (mk_A b)
theorem mk_blind {D : va_G} {cy : Nat → ClassId} {b : Nat} {sk : Nat → Value} {as : List Value} {sh : mj_S} {P : mj_P} {I : mj_I} {J : mj_J} : FrameBlind (mk_Pc D cy b sk as sh P I J) := fun a U g mk q => by
  obtain ⟨q0, q1, q2, q3, q4, q5, q6⟩ := q
  exact ⟨q0, q1, q2, va_K.moved (u := U) (U := U.calling g mk a) (Vm.Alike.refl U.vm) q3, q4.to (fun _ _ _ => rfl) (Vm.Alike.refl U.vm), q5.same rfl, q6⟩
theorem mk_good {ws : List Cond} (h : ∀ w ∈ ws, w ∈ mk_wt) : GoodIn mk_wt ws := fun w hw => ⟨h w hw, good_of_word (List.mem_filter.mp (h w hw)).2⟩
theorem mk_ws_in {y n : Nat} (h : mk_ok y n) : ∀ w ∈ mk_ws y, w ∈ mk_wt := fun w hw => (List.mem_cons.mp hw).elim (fun e => by rw [e]; exact h.1) id
theorem mk_pop : ∀ (n : Nat) (st acc as r : List Value), mj_pop n st acc = some (as, r) → ∃ f : List Value, as = f ++ acc ∧ st = f.reverse ++ r ∧ f.length = n
  | 0, st, acc, as, r, h => by
    unfold mj_pop at h
    cases h
    exact ⟨[], rfl, rfl, rfl⟩
  | n + 1, [], acc, as, r, h => by unfold mj_pop at h; cases h
  | n + 1, v :: st, acc, as, r, h => by
    unfold mj_pop at h
    obtain ⟨f, h1, h2, h3⟩ := mk_pop n st (v :: acc) as r h
    exact ⟨f ++ [v], by rw [h1]; simp, by rw [h2]; simp, by simp [h3]⟩
section CALLS
variable {p : Program} {l : Launch} {e : Env} {R : Room} {s : State} {m : MethodId} {args : Array Value} {below : List Frame} {meth : Method} {c : Code} {Qs : State → Prop} {nL : Nat} {D : va_G} {cy : Nat → ClassId} {b : Nat} {sk : Nat → Value} {lim : Nat × Nat} {cc : ByteArray} {own : String} {cr : mj_C} {Q : mj_Q} {pc nx : Nat}
/-- what comes behind a call -/
theorem mk_after {H : Heap} {locs : List Loc} {ls : Array Slot} {L : mj_L} {st0 st : List Value} {u al : Nat × Nat} {sh : mj_S} {Q' : mj_Q} {a : Array Value} (K : mk_Cx p R s m args meth c cc own nL D cy b sk lim) (h1 : mk_lv b sk ls nL L) (h2 : s.heap.size + u.1 = b + sh.length) (h5 : va_S (mk_A b) s.heap H locs) (hal : u.1 + al.1 ≤ lim.1 ∧ u.2 + al.2 ≤ lim.2)
    (hr : va_Run p l e R s m args below meth c H locs u.1 u.2 al.1 al.2 (F0 m pc ls st0) (st.map (mk_tv b sk)) (mk_Qc D cy b sk (sh.length + al.1) Q' a) (mk_A b))
    (hX : ∀ v sh P I J, Q' v sh P I J → mk_X p l e R s m args below meth c Qs nL D cy b sk (pc + 3) L (mj_psh v st) (u.1 + al.1, u.2 + al.2) sh P I J) : W p l e R s m args below meth c H locs u.1 u.2 Qs (F0 m pc ls st0) := by
  intro T hT X
  obtain ⟨v, st₀, t, T', L', g0, X', hL, e1, e2, ⟨⟨v', sh', P', I', J', hv, hQ', hz, hn, hP'⟩, hF⟩, go⟩ := hr T hT X
  cases hv
  obtain ⟨-, -, -, -, -, -, -, -, -, ⟨hR1, hR2⟩, -⟩ := id K
  have hS' : va_S (mk_A b) s.heap T'.heap (locs ++ L') := ⟨by rw [e1]; have := hF.1; rw [g0] at this; exact Nat.le_trans h5.1 this, fun q a1 a2 => by
      rw [e1, hF.2 q (by rw [g0]; exact Nat.lt_of_lt_of_le a1 h5.1) a2, g0]; exact h5.2.1 q a1 a2, fun q hq => by
      rcases List.mem_append.mp hq with h | h
      · exact h5.2.2 q h
      · exact hL q h⟩
  obtain ⟨t2, a1, b1⟩ := hX v' sh' P' I' J' hQ' T'.heap (locs ++ L') ls h1 (by simp only; omega) ⟨by simp only; omega, by simp only; omega⟩ (by rw [e1]; exact hP') hS' T' rfl X'
  refine ⟨t2, go t2 ?_, b1⟩
  have es : (Option.map (mk_tv b sk) v').toList ++ st.map (mk_tv b sk) = (mj_psh v' st).map (mk_tv b sk) := by cases v' <;> rfl
  show Steps p.tables e below (T'.setTop { method := m, pc := pc + 3, locals := ls, stack := (Option.map (mk_tv b sk) v').toList ++ st.map (mk_tv b sk), locked := none }) t2
  rw [es]
  exact a1
theorem mk_pre {H : Heap} {locs : List Loc} {as : List Value} {u : Nat × Nat} {sh : mj_S} {P : mj_P} {I : mj_I} {J : mj_J} (K : mk_Cx p R s m args meth c cc own nL D cy b sk lim) (hs : mk_sr sk) (hY : mk_Yt sk s) (hz : H.size = b + sh.length) (h4 : va_P D mk_cl (mk_W cy b sh P I J) H) (h5 : va_S (mk_A b) s.heap H locs) : ∀ U : State, U.heap = H → s.WarmedH U.vm → mk_Pc D cy b sk as sh P I J (as.map (mk_tv b sk)).toArray U :=
  fun U hU hW => ⟨rfl, by rw [hU]; exact hz, by rw [hU]; exact h4, va_K.moved hW.alike K.2.2.2.2.2.1, by rw [hU]; exact K.2.2.2.2.2.2.2.2.1.to (fun q a1 a2 => h5.2.1 q a1 a2) hW.alike, hY.warm hW, hs⟩
theorem mk_roomc {d y n : Nat} {al : Nat × Nat} (ok : mk_ok y n) (hRd : d + 1 ≤ R.frames ∧ 64 * (d + 1) ≤ R.locals) : (mk_rm d al).frames + 1 ≤ R.frames ∧ 8 + ((mk_cd y).2.1 + 11) + (mk_rm d al).locals ≤ R.locals := by
  have := ok.2.2.2.2.1
  refine ⟨hRd.1, ?_⟩
  show 8 + ((mk_cd y).2.1 + 11) + 64 * d ≤ R.locals
  omega
theorem sn_callS {d y n i : Nat} (K : mk_Cx p R s m args meth c cc own nL D cy b sk lim) (hs : mk_sr sk) (hY : mk_Yt sk s) (hRd : d + 1 ≤ R.frames ∧ 64 * (d + 1) ≤ R.locals) (hcr : ∀ as lim sh P I J Q, cr y as lim sh P I J Q → mk_Met l d y as lim sh P I J Q) (ok : mk_ok y n) (hl : Cond.methodLink own i (mk_nm y) ∈ mk_wt) (hst : Cond.static (mk_nm y) ∈ mk_wt) (hd : decode cc pc = .ok (.invokestatic i, 3)) : mk_Sn p l e R s m args below meth c Qs nL D cy b sk lim cr Q pc (pi_callS y n (pc + 3)) := fun L st u sh P I J h H locs ls h1 h2 h3 h4 h5 => by
  unfold pi_callS at h
  split at h
  · rename_i as r hpop
    split at h
    · rename_i hle
      obtain ⟨f, e1, e2, e3⟩ := mk_pop _ _ _ _ _ hpop
      rw [List.append_nil] at e1
      subst e1; subst e2
      have hM := hcr _ _ _ _ _ _ _ h D cy b sk
      obtain ⟨hx, hbb, hml, hown, hts, hK, hb0, hlk, hXt, ⟨hR1, hR2⟩, hRf⟩ := id K
      refine W_sz fun hz => ?_
      have hsz := mk_size h4 h5 hb0 hz h2
      have cb := callB_of (R := R) (own := own) (index := i) (y := mk_nm y) (bytes := (mk_cd y).1) (maxL := (mk_cd y).2.1) (ret := (mk_cd y).2.2) (ws := mk_ws y) (rm := mk_rm d (0, 0)) (mc := 0) (ms := 0) n hts (mk_good (mk_ws_in ok)) rfl rfl rfl (hts _ ok.2.2.1) (hts _ hl) ok.2.2.2.1 (mk_roomc ok hRd)
      refine mk_after (al := (0, 0)) (u := u) (st := r) K h1 h2 h5 ⟨by simp only; omega, by simp only; omega⟩ (va_runS (As := as.map (mk_tv b sk)) (rest := r.map (mk_tv b sk)) ⟨hx, hbb, hml, hown, hts⟩ hM ⟨cb, hts _ hst⟩ ⟨mk_blind, mk_pre (u := u) K hs hY hsz h4 h5⟩ rfl (by rw [List.length_map]; exact e3) h1.1 (by simp) (lv_room (mk_rest (mk_skc K) (Nat.le_of_ble_eq_true hle))) hd ⟨by simp only; omega, by simp only; omega⟩) (fun v sh P I J hq => hq)
    · exact h.elim
  · exact h.elim
theorem sn_callV {d y n i ci : Nat} {rr : vw_C} {ty0 : Nat → FieldType} (K : mk_Cx p R s m args meth c cc own nL D cy b sk lim) (hs : mk_sr sk) (hY : mk_Yt sk s) (hRd : d + 1 ≤ R.frames ∧ 64 * (d + 1) ≤ R.locals) (hcr : ∀ as lim sh P I J Q, cr y as lim sh P I J Q → mk_Met l d y as lim sh P I J Q) (ok : mk_ok y n) (C : mk_cls ci rr ty0) (hC : (mk_nm y).cls = rr.1) (hl : Cond.methodLink own i (mk_nm y) ∈ mk_wt) (hin : Cond.instanceMethod (mk_nm y) ∈ mk_wt) (hse : Cond.selects (mk_nm y).cls (mk_nm y) (mk_nm y) ∈ mk_wt) (hd : decode cc pc = .ok (.invokevirtual i, 3)) : mk_Sn p l e R s m args below meth c Qs nL D cy b sk lim cr Q pc (pi_callV y (n + 1) ci (pc + 3)) := fun L st u sh P I J h H locs ls h1 h2 h3 h4 h5 => by
  unfold pi_callV at h
  split at h
  · rename_i q as r hpop
    split at h
    · rename_i hle
      obtain ⟨f, e1, e2, e3⟩ := mk_pop _ _ _ _ _ hpop
      rw [List.append_nil] at e1
      subst e1; subst e2
      obtain ⟨hkd, h⟩ := h
      have hM := hcr _ _ _ _ _ _ _ h D cy b sk
      obtain ⟨hx, hbb, hml, hown, hts, hK, hb0, hlk, hXt, ⟨hR1, hR2⟩, hRf⟩ := id K
      refine W_sz fun hz => ?_
      have hsz := mk_size h4 h5 hb0 hz h2
      have cb := callB_of (R := R) (own := own) (index := i) (y := mk_nm y) (bytes := (mk_cd y).1) (maxL := (mk_cd y).2.1) (ret := (mk_cd y).2.2) (ws := mk_ws y) (rm := mk_rm d (0, 0)) (mc := 0) (ms := 0) n hts (mk_good (mk_ws_in ok)) rfl rfl rfl (hts _ ok.2.2.1) (hts _ hl) ok.2.2.2.1 (mk_roomc ok hRd)
      have hq := mk_sh hkd (by have := C.1.1; omega)
      have hrc : ∃ cell : Cell, H[b + q]? = some cell ∧ cell.vm.isStatics = false ∧ s.vm.findClass (mk_nm y).cls = some cell.cls := by
        rw [hC]
        exact va_recv hK h4 C.1.2 (q0 := q) (by rw [mk_W_at hq, mk_E_obj C.1.1])
      refine mk_after (al := (0, 0)) (u := u) (st := r) K h1 h2 h5 ⟨by simp only; omega, by simp only; omega⟩ (va_runV (C := (mk_nm y).cls) (b := b + q) (As := as.map (mk_tv b sk)) (rest := r.map (mk_tv b sk)) ⟨hx, hbb, hml, hown, hts⟩ hM ⟨cb, hts _ hin, hts _ hse⟩ ⟨mk_blind, hrc, mk_pre (u := u) (as := .ref q :: as) K hs hY hsz h4 h5⟩ rfl (by rw [List.length_map]; simp at e3; exact e3) h1.1 (by simp [mk_tv]) (lv_room (mk_rest (mk_skc K) (Nat.le_of_ble_eq_true hle))) hd ⟨by simp only; omega, by simp only; omega⟩) (fun v sh P I J hq => hq)
    · exact h.elim
  · exact h.elim
theorem sn_callE {d y n i ci : Nat} {rr : vw_C} {ty0 : Nat → FieldType} (K : mk_Cx p R s m args meth c cc own nL D cy b sk lim) (hs : mk_sr sk) (hY : mk_Yt sk s) (hRd : d + 1 ≤ R.frames ∧ 64 * (d + 1) ≤ R.locals) (hcr : ∀ as lim sh P I J Q, cr y as lim sh P I J Q → mk_Met l d y as lim sh P I J Q) (ok : mk_ok y n) (C : mk_cls ci rr ty0) (hC : (mk_nm y).cls = rr.1) (hl : Cond.methodLink own i (mk_nm y) ∈ mk_wt) (hin : Cond.instanceMethod (mk_nm y) ∈ mk_wt) (hse : Cond.selects (mk_nm y).cls (mk_nm y) (mk_nm y) ∈ mk_wt) (hd : decode cc pc = .ok (.invokevirtual i, 3)) : mk_Sn p l e R s m args below meth c Qs nL D cy b sk lim cr Q pc (pi_callE y (n + 1) ci (pc + 3)) := fun L st u sh P I J h H locs ls h1 h2 h3 h4 h5 => by
  unfold pi_callE at h
  split at h
  · rename_i q as r hpop
    split at h
    · rename_i hle
      obtain ⟨f, e1, e2, e3⟩ := mk_pop _ _ _ _ _ hpop
      rw [List.append_nil] at e1
      subst e1; subst e2
      obtain ⟨hkd, al, hal, h⟩ := h
      have hM := hcr _ _ _ _ _ _ _ h D cy b sk
      obtain ⟨hx, hbb, hml, hown, hts, hK, hb0, hlk, hXt, ⟨hR1, hR2⟩, hRf⟩ := id K
      refine W_sz fun hz => ?_
      have hsz := mk_size h4 h5 hb0 hz h2
      have cb := callB_of (R := R) (own := own) (index := i) (y := mk_nm y) (bytes := (mk_cd y).1) (maxL := (mk_cd y).2.1) (ret := (mk_cd y).2.2) (ws := mk_ws y) (rm := mk_rm d al) (mc := al.1) (ms := al.2) n hts (mk_good (mk_ws_in ok)) rfl rfl rfl (hts _ ok.2.2.1) (hts _ hl) ok.2.2.2.1 (mk_roomc ok hRd)
      have hq := mk_sh hkd (by have := C.1.1; omega)
      have hrc : ∃ cell : Cell, H[b + q]? = some cell ∧ cell.vm.isStatics = false ∧ s.vm.findClass (mk_nm y).cls = some cell.cls := by
        rw [hC]
        exact va_recv hK h4 C.1.2 (q0 := q) (by rw [mk_W_at hq, mk_E_obj C.1.1])
      refine mk_after (al := al) (u := u) (st := r) K h1 h2 h5 hal (va_runV (C := (mk_nm y).cls) (b := b + q) (As := as.map (mk_tv b sk)) (rest := r.map (mk_tv b sk)) ⟨hx, hbb, hml, hown, hts⟩ hM ⟨cb, hts _ hin, hts _ hse⟩ ⟨mk_blind, hrc, mk_pre (u := u) (as := .ref q :: as) K hs hY hsz h4 h5⟩ rfl (by rw [List.length_map]; simp at e3; exact e3) h1.1 (by simp [mk_tv]) (lv_room (mk_rest (mk_skc K) (Nat.le_of_ble_eq_true hle))) hd ⟨by omega, by omega⟩) (fun v sh P I J hq => hq)
    · exact h.elim
  · exact h.elim
theorem sn_callI {d y n i : Nat} {al : Nat × Nat} (K : mk_Cx p R s m args meth c cc own nL D cy b sk lim) (hs : mk_sr sk) (hY : mk_Yt sk s) (hRd : d + 1 ≤ R.frames ∧ 64 * (d + 1) ≤ R.locals) (hcr : ∀ as lim sh P I J Q, cr y as lim sh P I J Q → mk_Met l d y as lim sh P I J Q) (ok : mk_ok y n) (hnm : (mk_nm y).name = "<init>") (hrt : (mk_cd y).2.2 = none) (hl : Cond.methodLink own i (mk_nm y) ∈ mk_wt) (hin : Cond.instanceMethod (mk_nm y) ∈ mk_wt) (hd : decode cc pc = .ok (.invokespecial i, 3)) : mk_Sn p l e R s m args below meth c Qs nL D cy b sk lim cr Q pc (pi_callI y (n + 1) al (pc + 3)) := fun L st u sh P I J h H locs ls h1 h2 h3 h4 h5 => by
  unfold pi_callI at h
  split at h
  · rename_i q as r hpop
    split at h
    · rename_i hle
      obtain ⟨f, e1, e2, e3⟩ := mk_pop _ _ _ _ _ hpop
      rw [List.append_nil] at e1
      subst e1; subst e2
      obtain ⟨hal, h⟩ := h
      have hM := hcr _ _ _ _ _ _ _ h D cy b sk
      obtain ⟨hx, hbb, hml, hown, hts, hK, hb0, hlk, hXt, ⟨hR1, hR2⟩, hRf⟩ := id K
      refine W_sz fun hz => ?_
      have hsz := mk_size h4 h5 hb0 hz h2
      have cb := callB_of (R := R) (own := own) (index := i) (y := mk_nm y) (bytes := (mk_cd y).1) (maxL := (mk_cd y).2.1) (ret := (mk_cd y).2.2) (ws := mk_ws y) (rm := mk_rm d al) (mc := al.1) (ms := al.2) n hts (mk_good (mk_ws_in ok)) rfl rfl rfl (hts _ ok.2.2.1) (hts _ hl) ok.2.2.2.1 (mk_roomc ok hRd)
      rw [hrt] at cb
      refine mk_after (al := al) (u := u) (st := r) K h1 h2 h5 hal (va_runI (b := b + q) (As := as.map (mk_tv b sk)) (rest := r.map (mk_tv b sk)) ⟨hx, hbb, hml, hown, hts⟩ hM ⟨cb, hnm, hts _ hin⟩ ⟨mk_blind, mk_pre (u := u) (as := .ref q :: as) K hs hY hsz h4 h5⟩ rfl (by rw [List.length_map]; simp at e3; exact e3) h1.1 (by simp [mk_tv]) (lv_room (mk_rest (mk_skc K) (Nat.le_of_ble_eq_true hle))) hd ⟨by omega, by omega⟩) (fun v sh P I J hq => hq)
    · exact h.elim
  · exact h.elim
theorem sn_callT {d y n i : Nat} (K : mk_Cx p R s m args meth c cc own nL D cy b sk lim) (hs : mk_sr sk) (hY : mk_Yt sk s) (hRd : d + 1 ≤ R.frames ∧ 64 * (d + 1) ≤ R.locals) (hcr : ∀ as lim sh P I J Q, cr y as lim sh P I J Q → mk_Met l d y as lim sh P I J Q) (ok : mk_ok y n) (hC : (mk_nm y).cls = "java/lang/String") (hl : Cond.methodLink own i (mk_nm y) ∈ mk_wt) (hin : Cond.instanceMethod (mk_nm y) ∈ mk_wt) (hse : Cond.selects (mk_nm y).cls (mk_nm y) (mk_nm y) ∈ mk_wt) (hd : decode cc pc = .ok (.invokevirtual i, 3)) : mk_Sn p l e R s m args below meth c Qs nL D cy b sk lim cr Q pc (pi_callT y (n + 1) (pc + 3)) := fun L st u sh P I J h H locs ls h1 h2 h3 h4 h5 => by
  unfold pi_callT at h
  split at h
  · rename_i q as r hpop
    split at h
    · rename_i hle
      obtain ⟨f, e1, e2, e3⟩ := mk_pop _ _ _ _ _ hpop
      rw [List.append_nil] at e1
      subst e1; subst e2
      obtain ⟨hkd, h⟩ := h
      have hM := hcr _ _ _ _ _ _ _ h D cy b sk
      obtain ⟨hx, hbb, hml, hown, hts, hK, hb0, hlk, hXt, ⟨hR1, hR2⟩, hRf⟩ := id K
      obtain ⟨k, hk, rfl⟩ := mk_isS hkd
      obtain ⟨adK, adV, q1, q2, -⟩ := hXt
      have e4 : sk (2 * k) = .ref (adK k) := (q2 k hk).1
      refine W_sz fun hz => ?_
      have hsz := mk_size h4 h5 hb0 hz h2
      have cb := callB_of (R := R) (own := own) (index := i) (y := mk_nm y) (bytes := (mk_cd y).1) (maxL := (mk_cd y).2.1) (ret := (mk_cd y).2.2) (ws := mk_ws y) (rm := mk_rm d (0, 0)) (mc := 0) (ms := 0) n hts (mk_good (mk_ws_in ok)) rfl rfl rfl (hts _ ok.2.2.1) (hts _ hl) ok.2.2.2.1 (mk_roomc ok hRd)
      have hrc : ∃ cell : Cell, H[adK k]? = some cell ∧ cell.vm.isStatics = false ∧ s.vm.findClass (mk_nm y).cls = some cell.cls := by
        rw [hC]
        exact vk_recv q1 hk h5
      have hpre := mk_pre (u := u) (as := .retAddr (2 * k) :: as) K hs hY hsz h4 h5
      rw [List.map_cons, show mk_tv b sk (.retAddr (2 * k)) = .ref (adK k) from e4] at hpre
      refine mk_after (al := (0, 0)) (u := u) (st := r) K h1 h2 h5 ⟨by simp only; omega, by simp only; omega⟩ (va_runV (C := (mk_nm y).cls) (b := adK k) (As := as.map (mk_tv b sk)) (rest := r.map (mk_tv b sk)) ⟨hx, hbb, hml, hown, hts⟩ hM ⟨cb, hts _ hin, hts _ hse⟩ ⟨mk_blind, hrc, hpre⟩ rfl (by rw [List.length_map]; simp at e3; exact e3) h1.1 (by simp [mk_tv, e4]) (lv_room (mk_rest (mk_skc K) (Nat.le_of_ble_eq_true hle))) hd ⟨by simp only; omega, by simp only; omega⟩) (fun v sh P I J hq => hq)
    · exact h.elim
  · exact h.elim
theorem mk_lk {T : List (Nat × mj_T)} (h : ∀ q ∈ T, mk_Sn p l e R s m args below meth c Qs nL D cy b sk lim cr Q q.1 q.2) (pc : Nat) : mk_Sn p l e R s m args below meth c Qs nL D cy b sk lim cr Q pc (mj_lk pc T) := by
  induction T with
  | nil => exact sn_no
  | cons q r ih =>
    obtain ⟨a, t⟩ := q
    unfold mj_lk
    split
    · rename_i hb
      rw [← Nat.eq_of_beq_eq_true hb]
      exact h (a, t) List.mem_cons_self
    · exact ih (fun q hq => h q (List.mem_cons_of_mem _ hq))
end CALLS
theorem mk_ent_len {b : Nat} {sk : Nat → Value} (hsk : ∀ j, (sk j).category = 1) : ∀ as : List Value, (lg_sl (as.map (mk_tv b sk))).length = (mj_sl as).length := by
  intro as
  induction as with
  | nil => rfl
  | cons v r ih =>
    have e : lg_sl ((v :: r).map (mk_tv b sk)) = (if (mk_tv b sk v).category = 2 then [Slot.val (mk_tv b sk v), .second] else [.val (mk_tv b sk v)]) ++ lg_sl (r.map (mk_tv b sk)) := rfl
    rw [e, mk_cat hsk, List.length_append, ih]
    cases v <;> simp [mj_sl, Value.category] <;> omega
theorem mk_ent_at {b : Nat} {sk : Nat → Value} (hsk : ∀ j, (sk j).category = 1) : ∀ (as : List Value) (i : Nat) (v : Value), (mj_sl as)[i]? = some (some v) → (lg_sl (as.map (mk_tv b sk)))[i]? = some (.val (mk_tv b sk v)) := by
  intro as
  induction as with
  | nil => intro i v h; simp [mj_sl] at h
  | cons w r ih =>
    intro i v h
    have e : lg_sl ((w :: r).map (mk_tv b sk)) = (if (mk_tv b sk w).category = 2 then [Slot.val (mk_tv b sk w), .second] else [.val (mk_tv b sk w)]) ++ lg_sl (r.map (mk_tv b sk)) := rfl
    rw [e, mk_cat hsk]
    cases w with
    | long x =>
      match i, h with
      | 0, h => simp [mj_sl] at h; subst h; simp [Value.category]
      | 1, h => simp [mj_sl] at h
      | i + 2, h => simp [mj_sl] at h; simpa [Value.category] using ih i v h
    | double x =>
      match i, h with
      | 0, h => simp [mj_sl] at h; subst h; simp [Value.category]
      | 1, h => simp [mj_sl] at h
      | i + 2, h => simp [mj_sl] at h; simpa [Value.category] using ih i v h
    | int x =>
      match i, h with
      | 0, h => simp [mj_sl] at h; subst h; simp [Value.category]
      | i + 1, h => simp [mj_sl] at h; simpa [Value.category] using ih i v h
    | float x =>
      match i, h with
      | 0, h => simp [mj_sl] at h; subst h; simp [Value.category]
      | i + 1, h => simp [mj_sl] at h; simpa [Value.category] using ih i v h
    | null =>
      match i, h with
      | 0, h => simp [mj_sl] at h; subst h; simp [Value.category]
      | i + 1, h => simp [mj_sl] at h; simpa [Value.category] using ih i v h
    | ref x =>
      match i, h with
      | 0, h => simp [mj_sl] at h; subst h; simp [Value.category]
      | i + 1, h => simp [mj_sl] at h; simpa [Value.category] using ih i v h
    | retAddr x =>
      match i, h with
      | 0, h => simp [mj_sl] at h; subst h; simp [Value.category]
      | i + 1, h => simp [mj_sl] at h; simpa [Value.category] using ih i v h
theorem mk_entry {b : Nat} {sk : Nat → Value} (hsk : ∀ j, (sk j).category = 1) (as : List Value) {n : Nat} (h : (mj_sl as).length ≤ n) : mk_lv b sk ((lg_sl (as.map (mk_tv b sk)) ++ List.replicate (n - (lg_sl (as.map (mk_tv b sk))).length) Slot.unset).toArray) n (mj_ent n as) := by
  have h0 := lv_entry (as.map (mk_tv b sk)) (n := n) (by rw [mk_ent_len hsk]; exact h)
  refine ⟨h0.1, h0.2.1, fun i v hv => ?_⟩
  unfold mj_ent at hv
  by_cases hi : i < (mj_sl as).length
  · rw [List.getElem?_append_left hi] at hv
    have h1 := mk_ent_at (b := b) hsk as i v hv
    rw [List.getElem?_toArray, List.getElem?_append_left (by rw [mk_ent_len hsk]; exact hi)]
    exact h1
  · rw [List.getElem?_append_right (by omega)] at hv
    have := List.mem_of_getElem? hv
    have := List.eq_of_mem_replicate this
    cases this
/-- all that a method's rows stand on -/
def mk_Ev (p : Program) (l : Launch) (R : Room) (s : State) (m : MethodId) (args : Array Value) (meth : Method) (c : Code) (D : va_G) (cy : Nat → ClassId) (b : Nat) (sk : Nat → Value) (lim : Nat × Nat) (cr : mj_C) (n0 d y : Nat) : Prop :=
  mk_Cx p R s m args meth c (mk_cd y).1 (mk_nm y).cls (mk_cd y).2.1 D cy b sk lim ∧ meth.sig.returnType = (mk_cd y).2.2 ∧ meth.name = (mk_nm y).name ∧ mk_sr sk ∧ mk_Yt sk s ∧ (d + 1 ≤ R.frames ∧ 64 * (d + 1) ≤ R.locals) ∧ s.heap.size + lim.1 = b + n0 ∧ ∀ z as lim sh P I J Q, cr z as lim sh P I J Q → mk_Met l d z as lim sh P I J Q
/-- a method's rows, all sound -/
def mk_Rows (y : Nat) : Prop := ∀ (p : Program) (l : Launch) (e : Env) (R : Room) (s : State) (m : MethodId) (args : Array Value) (below : List Frame) (meth : Method) (c : Code) (D : va_G) (cy : Nat → ClassId) (b : Nat) (sk : Nat → Value) (lim : Nat × Nat) (cr : mj_C) (Q : mj_Q) (n0 d : Nat), mk_Ev p l R s m args meth c D cy b sk lim cr n0 d y →
  ∀ q ∈ (mj_pr y).2, mk_Sn p l e R s m args below meth c (MQ below (mk_Qc D cy b sk n0 Q) args s lim.1 lim.2 (mk_A b)) (mk_cd y).2.1 D cy b sk lim cr Q q.1 q.2
set_option maxHeartbeats 4000000 in
theorem mk_met {l : Launch} {d y n : Nat} (ok : mk_ok y n) (rows : mk_Rows y) (ih : ∀ z as lim sh P I J Q, mj_ret mj_pr d z as lim sh P I J Q → mk_Met l d z as lim sh P I J Q) {as : List Value} {lim : Nat × Nat} {sh : mj_S} {P : mj_P} {I : mj_I} {J : mj_J} {Q : mj_Q} (h : mj_ret mj_pr (d + 1) y as lim sh P I J Q) : mk_Met l (d + 1) y as lim sh P I J Q := by
  intro D cy b sk
  obtain ⟨hs, h⟩ := h
  refine Met.ofW (cc := (mk_cd y).1) (maxL := (mk_cd y).2.1) (ret := (mk_cd y).2.2) ok.2.1 rfl ?_
  intro p e s m args below meth c s₁ B hml hv
  obtain ⟨rfl, hsz, hP, hK, hXt, hYt, hsr⟩ := hv
  have hts := atoms_spec (ws := mk_ws y) B.pre
  have hown : s.vm.findClass (mk_nm y).cls = some m.cls := findClass_of_methodNamed B.named
  have K : mk_Cx p (mk_rm (d + 1) lim) s m (as.map (mk_tv b sk)).toArray meth c (mk_cd y).1 (mk_nm y).cls (mk_cd y).2.1 D cy b sk lim := ⟨B.exec, B.bytes, hml, hown, fun w hw => hts w (List.mem_cons_of_mem _ hw), hK, by omega, B.notSynchronized, hXt, ⟨rfl, rfl⟩, ⟨by show 1 ≤ d + 1; omega, by show 60 ≤ 64 * (d + 1); omega⟩⟩
  have E : mk_Ev p l (mk_rm (d + 1) lim) s m (as.map (mk_tv b sk)).toArray meth c D cy b sk lim (mj_ret mj_pr d) (sh.length + lim.1) d y := ⟨K, B.returns, (name_of_methodNamed B.named B.method).1, hsr, hYt, ⟨Nat.le_refl _, Nat.le_refl _⟩, by omega, ih⟩
  have hle := Nat.le_of_ble_eq_true hs
  rw [ok.2.2.2.2.2] at hle
  rw [lg_entry_eq]
  have hX := h (mk_X p l e (mk_rm (d + 1) lim) s m (as.map (mk_tv b sk)).toArray below meth c (MQ below (mk_Qc D cy b sk (sh.length + lim.1) Q) (as.map (mk_tv b sk)).toArray s lim.1 lim.2 (mk_A b)) (mk_cd y).2.1 D cy b sk) (fun pc L st u sh P I J hq => mk_lk (rows p l e _ s m _ below meth c D cy b sk lim _ Q _ d E) pc L st u sh P I J hq)
  rw [ok.2.2.2.2.2] at hX
  exact hX s.heap [] _ (mk_entry (mk_skc K) as hle) (by simp only; omega) ⟨Nat.zero_le _, Nat.zero_le _⟩ hP va_S.rf
