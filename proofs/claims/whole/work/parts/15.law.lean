/-! the law's rows, and the law out of a run of the small machine (wip/tools/gen_law.py) -/
def R_law : String := "LostSevensLaw"
def lw_P (b : Addr) (xs : List Int32) (args : Array Value) (s : State) : Prop := args = #[.ref b] ∧ s.IntsAt b xs ∧ xs.length ≤ 3584 ∧ (Jvm.Cond.and given_1 narrow_1).before args s = true
def lw_Q (_ : Array Value) (s : State) (o : Outcome) (t : State) : Prop := o = .returned (some (.int 1)) ∧ Framed s o t [] 600000 7302250
def lw_Z (below : List Frame) (a : Array Value) (s : State) : State → Prop := fun t => ∃ o, t.status = .running ∧ Ended t below o ∧ lw_Q a s o t
/-- the law's own end, with 1 on the stack, nothing written that was there before, its room as the claim has it -/
theorem lw_ret {p : Program} {l : Launch} {e : Env} {s : State} {m : MethodId} {below : List Frame} {meth : Method} {c : Code} {b : Nat} (hx : p.tables.exec = Jvm.exec) (hb : c.code = code) (hr : meth.sig.returnType = ret) (hlocks : meth.locks = false) {pc : Nat} {H : Heap} {ls : Array Slot} (hdg : decode code pc = .ok (.ireturn, 1)) : W p l e room_1 s m #[Value.ref b] below meth c H [] 600000 7302250 (lw_Z below #[Value.ref b] s) (F0 m pc ls [.int 1]) := by
  intro T hT X
  obtain ⟨fs, hret, hrun, hended, hW, hframe⟩ := X.leave (v := some (.int 1)) (hlocks := hlocks) (fun h => by rw [hr] at h; cases h)
  have hmeth' : T.vm.method? m = some meth := X.method'
  refine ⟨T.setFrames fs, ?_, .returned (some (.int 1)), hrun, hended, rfl, ⟨_, rfl⟩, hW, hframe⟩
  jvm_step X.here [X.here.top, hx, hb, hdg, hmeth', hr, ret, narrow_b1]
  (try refine ⟨rfl, ?_⟩); (try refine ⟨rfl, ?_⟩)
  first | (intro acts; rw [hret _ acts rfl rfl rfl]) | rw [hret _ _ rfl rfl rfl]
  exact Steps.refl _
/-- what holds at the law's entry: the machine, the code, the tables' words (any of lw_tbl by 'hts w (by decide +kernel)'), the script of L ints xs at the cell b, what the Statement gives of the start (any of its parts by flat_of_before) -/
def lw_At (p : Program) (s : State) (m : MethodId) (meth : Method) (c : Code) (b L : Nat) (xs : Nat → Int32) : Prop :=
  p.tables.exec = Jvm.exec ∧ c.code = code ∧ meth.sig.returnType = ret ∧ c.maxLocals = 4 ∧ s.vm.findClass R_law = some m.cls ∧ (∀ w ∈ lw_tbl, w.before #[Value.ref b] s = true) ∧ va_X b L xs s s.heap ∧ b < s.heap.size ∧ meth.locks = false ∧ (Jvm.Cond.and given_1 narrow_1).before #[Value.ref b] s = true
section LAWR
variable {p : Program} {l : Launch} {e : Env} {R : Room} {s : State} {m : MethodId} {args : Array Value} {below : List Frame} {meth : Method} {c : Code} {Qs : State → Prop} {nL : Nat} {D : va_G} {cy : Nat → ClassId} {b : Nat} {sk : Nat → Value} {lim : Nat × Nat} {cc : ByteArray} {own : String} {cr : mj_C} {Q : mj_Q} {pc nx : Nat}
theorem sn_sld {bs n : Nat} {xs : Nat → Int32} (K : mk_Cx p R s m args meth c cc own nL D cy b sk lim) (hX : va_X bs n xs s s.heap) (hbl : bs < s.heap.size) (hbA : ¬ mk_A b bs) (hsk : sk 100 = .ref bs) (hd : decode cc pc = .ok (.iaload, 1)) : mk_Sn p l e R s m args below meth c Qs nL D cy b sk lim cr Q pc (pi_sld n xs (pc + 1)) := fun L st u sh P I J h H locs ls h1 h2 h3 h4 h5 => by
  unfold pi_sld at h
  split at h
  · rename_i i st
    have h6 := h.2 H locs ls h1 h2 h3 h4 h5
    have e : mk_tv b sk (.retAddr 100) = .ref bs := hsk
    rw [List.map_cons, List.map_cons, e]
    exact va_sld K.1 K.2.1 hX hbl hbA h5 h.1 hd h6
  · exact h.elim
theorem sn_slen {bs n : Nat} {xs : Nat → Int32} (K : mk_Cx p R s m args meth c cc own nL D cy b sk lim) (hX : va_X bs n xs s s.heap) (hbl : bs < s.heap.size) (hbA : ¬ mk_A b bs) (hsk : sk 100 = .ref bs) (hd : decode cc pc = .ok (.arraylength, 1)) : mk_Sn p l e R s m args below meth c Qs nL D cy b sk lim cr Q pc (pi_slen n (pc + 1)) := fun L st u sh P I J h H locs ls h1 h2 h3 h4 h5 => by
  unfold pi_slen at h
  split at h
  · rename_i st
    have h6 := h H locs ls h1 h2 h3 h4 h5
    have e : mk_tv b sk (.retAddr 100) = .ref bs := hsk
    rw [List.map_cons, e]
    exact va_slen K.1 K.2.1 hX hbl hbA h5 hd h6
  · exact h.elim
theorem sn_lwr {bs : Nat} (K : mk_Cx p room_1 s m #[Value.ref bs] meth c code own nL D cy b sk (600000, 7302250)) (hr : meth.sig.returnType = ret) (hb : s.heap.size ≤ b) (hd : decode code pc = .ok (.ireturn, 1)) : mk_Sn p l e room_1 s m #[Value.ref bs] below meth c (lw_Z below #[Value.ref bs] s) nL D cy b sk (600000, 7302250) cr Q pc pi_lwr := fun L st u sh P I J h H locs ls h1 h2 h3 h4 h5 => by
  unfold pi_lwr at h
  split at h
  · subst h
    refine va_forget (fun q hq => Nat.le_trans hb (h5.2.2 q hq)) ?_
    refine W.widen (k := 600000) (n := 7302250) h3.1 h3.2 ?_
    exact lw_ret K.1 K.2.1 hr K.2.2.2.2.2.2.2.1 hd
  · exact h.elim
end LAWR
set_option maxRecDepth 100000 in
set_option maxHeartbeats 4000000 in
theorem rw_Lw {p : Program} {l : Launch} {e : Env} {s : State} {m : MethodId} {below : List Frame} {meth : Method} {c : Code} {D : va_G} {cy : Nat → ClassId} {b : Nat} {sk : Nat → Value} {cr : mj_C} {Q : mj_Q} {bs n d : Nat} {xs : Nat → Int32} (K : mk_Cx p room_1 s m #[Value.ref bs] meth c code R_law 4 D cy b sk (600000, 7302250)) (hr : meth.sig.returnType = ret) (hb : s.heap.size ≤ b) (HS : mk_sr sk) (HY : mk_Yt sk s) (RD : d + 1 ≤ room_1.frames ∧ 64 * (d + 1) ≤ room_1.locals) (CR : ∀ z as lim sh P I J Q, cr z as lim sh P I J Q → mk_Met l d z as lim sh P I J Q) (hX : va_X bs n xs s s.heap) (hbl : bs < s.heap.size) (hbA : ¬ mk_A b bs) (hsk : sk 100 = .ref bs) :
    ∀ q ∈ t_Lw n xs, mk_Sn p l e room_1 s m #[Value.ref bs] below meth c (lw_Z below #[Value.ref bs] s) 4 D cy b sk (600000, 7302250) cr Q q.1 q.2 := by
  refine mk_cons (sn_new (i := 7) K cls_11 rfl kk_Law_7 ki_LS kz_LS (by decide +kernel)) ?_
  refine mk_cons (sn_dup K (by decide +kernel)) ?_
  refine mk_cons (sn_callI (i := 9) K HS HY RD (CR n_LS_init) ok_LS_init rfl rfl km_Law_9 kn_LS_init (by decide +kernel)) ?_
  refine mk_cons (sn_astore_n (k := 1) K (by decide +kernel) rfl (by decide +kernel)) ?_
  refine mk_cons (sn_new (i := 10) K cls_12 rfl kk_Law_10 ki_Mo kz_Mo (by decide +kernel)) ?_
  refine mk_cons (sn_dup K (by decide +kernel)) ?_
  refine mk_cons (sn_callI (i := 12) K HS HY RD (CR n_Mo_init) ok_Mo_init rfl rfl km_Law_12 kn_Mo_init (by decide +kernel)) ?_
  refine mk_cons (sn_astore_n (k := 2) K (by decide +kernel) rfl (by decide +kernel)) ?_
  refine mk_cons (sn_iconst (n := 0) K (by decide +kernel) (by decide +kernel)) ?_
  refine mk_cons (sn_istore_n (k := 3) K (by decide +kernel) rfl (by decide +kernel)) ?_
  refine mk_cons (sn_iload_n (k := 3) K (by decide +kernel) rfl) ?_
  refine mk_cons (sn_aload_n (k := 0) K HS (by decide +kernel) rfl) ?_
  refine mk_cons (sn_slen K hX hbl hbA hsk (by decide +kernel)) ?_
  refine mk_cons (sn_bipush (n := 7) K (by decide +kernel) (by decide +kernel)) ?_
  refine mk_cons (sn_isub K (by decide +kernel)) ?_
  refine mk_cons (sn_cgt (off := 1021) K (by decide +kernel) (by decide +kernel)) ?_
  refine mk_cons (sn_aload_n (k := 0) K HS (by decide +kernel) rfl) ?_
  refine mk_cons (sn_iload_n (k := 3) K (by decide +kernel) rfl) ?_
  refine mk_cons (sn_sld K hX hbl hbA hsk (by decide +kernel)) ?_
  refine mk_cons (sn_bipush (n := 31) K (by decide +kernel) (by decide +kernel)) ?_
  refine mk_cons (sn_iand K (by decide +kernel)) ?_
  refine mk_cons (sn_tsw (dflt := 1006) (lo := 0) (hi := 25) (offs := #[119, 142, 217, 260, 293, 316, 349, 412, 435, 458, 481, 544, 557, 590, 623, 637, 680, 733, 776, 819, 862, 875, 898, 931, 944, 983]) (len := 119) K (by decide +kernel) (by decide +kernel) (by decide +kernel) (by decide +kernel) (by decide +kernel) (by decide +kernel)) ?_
  refine mk_cons (sn_aload_n (k := 1) K HS (by decide +kernel) rfl) ?_
  refine mk_cons (sn_aload_n (k := 0) K HS (by decide +kernel) rfl) ?_
  refine mk_cons (sn_iload_n (k := 3) K (by decide +kernel) rfl) ?_
  refine mk_cons (sn_iconst (n := 1) K (by decide +kernel) (by decide +kernel)) ?_
  refine mk_cons (sn_iadd K (by decide +kernel)) ?_
  refine mk_cons (sn_sld K hX hbl hbA hsk (by decide +kernel)) ?_
  refine mk_cons (sn_callV (i := 13) K HS HY RD (CR n_LS_state) ok_LS_state cls_11 rfl km_Law_13 kn_LS_state kv_LS_state (by decide +kernel)) ?_
  refine mk_cons (sn_aload_n (k := 2) K HS (by decide +kernel) rfl) ?_
  refine mk_cons (sn_aload_n (k := 0) K HS (by decide +kernel) rfl) ?_
  refine mk_cons (sn_iload_n (k := 3) K (by decide +kernel) rfl) ?_
  refine mk_cons (sn_iconst (n := 1) K (by decide +kernel) (by decide +kernel)) ?_
  refine mk_cons (sn_iadd K (by decide +kernel)) ?_
  refine mk_cons (sn_sld K hX hbl hbA hsk (by decide +kernel)) ?_
  refine mk_cons (sn_callV (i := 17) K HS HY RD (CR n_Mo_state) ok_Mo_state cls_12 rfl km_Law_17 kn_Mo_state kv_Mo_state (by decide +kernel)) ?_
  refine mk_cons (sn_ceq (off := 869) K (by decide +kernel) (by decide +kernel)) ?_
  refine mk_cons (sn_iconst (n := 0) K (by decide +kernel) (by decide +kernel)) ?_
  refine mk_cons (sn_lwr K hr hb (by decide +kernel)) ?_
  refine mk_cons (sn_aload_n (k := 1) K HS (by decide +kernel) rfl) ?_
  refine mk_cons (sn_aload_n (k := 0) K HS (by decide +kernel) rfl) ?_
  refine mk_cons (sn_iload_n (k := 3) K (by decide +kernel) rfl) ?_
  refine mk_cons (sn_iconst (n := 1) K (by decide +kernel) (by decide +kernel)) ?_
  refine mk_cons (sn_iadd K (by decide +kernel)) ?_
  refine mk_cons (sn_sld K hX hbl hbA hsk (by decide +kernel)) ?_
  refine mk_cons (sn_aload_n (k := 0) K HS (by decide +kernel) rfl) ?_
  refine mk_cons (sn_iload_n (k := 3) K (by decide +kernel) rfl) ?_
  refine mk_cons (sn_iconst (n := 2) K (by decide +kernel) (by decide +kernel)) ?_
  refine mk_cons (sn_iadd K (by decide +kernel)) ?_
  refine mk_cons (sn_sld K hX hbl hbA hsk (by decide +kernel)) ?_
  refine mk_cons (sn_aload_n (k := 0) K HS (by decide +kernel) rfl) ?_
  refine mk_cons (sn_iload_n (k := 3) K (by decide +kernel) rfl) ?_
  refine mk_cons (sn_iconst (n := 3) K (by decide +kernel) (by decide +kernel)) ?_
  refine mk_cons (sn_iadd K (by decide +kernel)) ?_
  refine mk_cons (sn_sld K hX hbl hbA hsk (by decide +kernel)) ?_
  refine mk_cons (sn_aload_n (k := 0) K HS (by decide +kernel) rfl) ?_
  refine mk_cons (sn_iload_n (k := 3) K (by decide +kernel) rfl) ?_
  refine mk_cons (sn_iconst (n := 4) K (by decide +kernel) (by decide +kernel)) ?_
  refine mk_cons (sn_iadd K (by decide +kernel)) ?_
  refine mk_cons (sn_sld K hX hbl hbA hsk (by decide +kernel)) ?_
  refine mk_cons (sn_aload_n (k := 0) K HS (by decide +kernel) rfl) ?_
  refine mk_cons (sn_iload_n (k := 3) K (by decide +kernel) rfl) ?_
  refine mk_cons (sn_iconst (n := 5) K (by decide +kernel) (by decide +kernel)) ?_
  refine mk_cons (sn_iadd K (by decide +kernel)) ?_
  refine mk_cons (sn_sld K hX hbl hbA hsk (by decide +kernel)) ?_
  refine mk_cons (sn_aload_n (k := 0) K HS (by decide +kernel) rfl) ?_
  refine mk_cons (sn_iload_n (k := 3) K (by decide +kernel) rfl) ?_
  refine mk_cons (sn_bipush (n := 6) K (by decide +kernel) (by decide +kernel)) ?_
  refine mk_cons (sn_iadd K (by decide +kernel)) ?_
  refine mk_cons (sn_sld K hX hbl hbA hsk (by decide +kernel)) ?_
  refine mk_cons (sn_callV (i := 18) K HS HY RD (CR n_LS_line) ok_LS_line cls_11 rfl km_Law_18 kn_LS_line kv_LS_line (by decide +kernel)) ?_
  refine mk_cons (sn_aload_n (k := 2) K HS (by decide +kernel) rfl) ?_
  refine mk_cons (sn_aload_n (k := 0) K HS (by decide +kernel) rfl) ?_
  refine mk_cons (sn_iload_n (k := 3) K (by decide +kernel) rfl) ?_
  refine mk_cons (sn_iconst (n := 1) K (by decide +kernel) (by decide +kernel)) ?_
  refine mk_cons (sn_iadd K (by decide +kernel)) ?_
  refine mk_cons (sn_sld K hX hbl hbA hsk (by decide +kernel)) ?_
  refine mk_cons (sn_aload_n (k := 0) K HS (by decide +kernel) rfl) ?_
  refine mk_cons (sn_iload_n (k := 3) K (by decide +kernel) rfl) ?_
  refine mk_cons (sn_iconst (n := 2) K (by decide +kernel) (by decide +kernel)) ?_
  refine mk_cons (sn_iadd K (by decide +kernel)) ?_
  refine mk_cons (sn_sld K hX hbl hbA hsk (by decide +kernel)) ?_
  refine mk_cons (sn_aload_n (k := 0) K HS (by decide +kernel) rfl) ?_
  refine mk_cons (sn_iload_n (k := 3) K (by decide +kernel) rfl) ?_
  refine mk_cons (sn_iconst (n := 3) K (by decide +kernel) (by decide +kernel)) ?_
  refine mk_cons (sn_iadd K (by decide +kernel)) ?_
  refine mk_cons (sn_sld K hX hbl hbA hsk (by decide +kernel)) ?_
  refine mk_cons (sn_aload_n (k := 0) K HS (by decide +kernel) rfl) ?_
  refine mk_cons (sn_iload_n (k := 3) K (by decide +kernel) rfl) ?_
  refine mk_cons (sn_iconst (n := 4) K (by decide +kernel) (by decide +kernel)) ?_
  refine mk_cons (sn_iadd K (by decide +kernel)) ?_
  refine mk_cons (sn_sld K hX hbl hbA hsk (by decide +kernel)) ?_
  refine mk_cons (sn_aload_n (k := 0) K HS (by decide +kernel) rfl) ?_
  refine mk_cons (sn_iload_n (k := 3) K (by decide +kernel) rfl) ?_
  refine mk_cons (sn_iconst (n := 5) K (by decide +kernel) (by decide +kernel)) ?_
  refine mk_cons (sn_iadd K (by decide +kernel)) ?_
  refine mk_cons (sn_sld K hX hbl hbA hsk (by decide +kernel)) ?_
  refine mk_cons (sn_aload_n (k := 0) K HS (by decide +kernel) rfl) ?_
  refine mk_cons (sn_iload_n (k := 3) K (by decide +kernel) rfl) ?_
  refine mk_cons (sn_bipush (n := 6) K (by decide +kernel) (by decide +kernel)) ?_
  refine mk_cons (sn_iadd K (by decide +kernel)) ?_
  refine mk_cons (sn_sld K hX hbl hbA hsk (by decide +kernel)) ?_
  refine mk_cons (sn_callV (i := 22) K HS HY RD (CR n_Mo_line) ok_Mo_line cls_12 rfl km_Law_22 kn_Mo_line kv_Mo_line (by decide +kernel)) ?_
  refine mk_cons (sn_ceq (off := 794) K (by decide +kernel) (by decide +kernel)) ?_
  refine mk_cons (sn_iconst (n := 0) K (by decide +kernel) (by decide +kernel)) ?_
  refine mk_cons (sn_lwr K hr hb (by decide +kernel)) ?_
  refine mk_cons (sn_aload_n (k := 1) K HS (by decide +kernel) rfl) ?_
  refine mk_cons (sn_aload_n (k := 0) K HS (by decide +kernel) rfl) ?_
  refine mk_cons (sn_iload_n (k := 3) K (by decide +kernel) rfl) ?_
  refine mk_cons (sn_iconst (n := 1) K (by decide +kernel) (by decide +kernel)) ?_
  refine mk_cons (sn_iadd K (by decide +kernel)) ?_
  refine mk_cons (sn_sld K hX hbl hbA hsk (by decide +kernel)) ?_
  refine mk_cons (sn_aload_n (k := 0) K HS (by decide +kernel) rfl) ?_
  refine mk_cons (sn_iload_n (k := 3) K (by decide +kernel) rfl) ?_
  refine mk_cons (sn_iconst (n := 2) K (by decide +kernel) (by decide +kernel)) ?_
  refine mk_cons (sn_iadd K (by decide +kernel)) ?_
  refine mk_cons (sn_sld K hX hbl hbA hsk (by decide +kernel)) ?_
  refine mk_cons (sn_aload_n (k := 0) K HS (by decide +kernel) rfl) ?_
  refine mk_cons (sn_iload_n (k := 3) K (by decide +kernel) rfl) ?_
  refine mk_cons (sn_iconst (n := 3) K (by decide +kernel) (by decide +kernel)) ?_
  refine mk_cons (sn_iadd K (by decide +kernel)) ?_
  refine mk_cons (sn_sld K hX hbl hbA hsk (by decide +kernel)) ?_
  refine mk_cons (sn_callV (i := 23) K HS HY RD (CR n_LS_set) ok_LS_set cls_11 rfl km_Law_23 kn_LS_set kv_LS_set (by decide +kernel)) ?_
  refine mk_cons (sn_aload_n (k := 2) K HS (by decide +kernel) rfl) ?_
  refine mk_cons (sn_aload_n (k := 0) K HS (by decide +kernel) rfl) ?_
  refine mk_cons (sn_iload_n (k := 3) K (by decide +kernel) rfl) ?_
  refine mk_cons (sn_iconst (n := 1) K (by decide +kernel) (by decide +kernel)) ?_
  refine mk_cons (sn_iadd K (by decide +kernel)) ?_
  refine mk_cons (sn_sld K hX hbl hbA hsk (by decide +kernel)) ?_
  refine mk_cons (sn_aload_n (k := 0) K HS (by decide +kernel) rfl) ?_
  refine mk_cons (sn_iload_n (k := 3) K (by decide +kernel) rfl) ?_
  refine mk_cons (sn_iconst (n := 2) K (by decide +kernel) (by decide +kernel)) ?_
  refine mk_cons (sn_iadd K (by decide +kernel)) ?_
  refine mk_cons (sn_sld K hX hbl hbA hsk (by decide +kernel)) ?_
  refine mk_cons (sn_aload_n (k := 0) K HS (by decide +kernel) rfl) ?_
  refine mk_cons (sn_iload_n (k := 3) K (by decide +kernel) rfl) ?_
  refine mk_cons (sn_iconst (n := 3) K (by decide +kernel) (by decide +kernel)) ?_
  refine mk_cons (sn_iadd K (by decide +kernel)) ?_
  refine mk_cons (sn_sld K hX hbl hbA hsk (by decide +kernel)) ?_
  refine mk_cons (sn_callV (i := 27) K HS HY RD (CR n_Mo_set) ok_Mo_set cls_12 rfl km_Law_27 kn_Mo_set kv_Mo_set (by decide +kernel)) ?_
  refine mk_cons (sn_ceq (off := 751) K (by decide +kernel) (by decide +kernel)) ?_
  refine mk_cons (sn_iconst (n := 0) K (by decide +kernel) (by decide +kernel)) ?_
  refine mk_cons (sn_lwr K hr hb (by decide +kernel)) ?_
  refine mk_cons (sn_aload_n (k := 1) K HS (by decide +kernel) rfl) ?_
  refine mk_cons (sn_aload_n (k := 0) K HS (by decide +kernel) rfl) ?_
  refine mk_cons (sn_iload_n (k := 3) K (by decide +kernel) rfl) ?_
  refine mk_cons (sn_iconst (n := 1) K (by decide +kernel) (by decide +kernel)) ?_
  refine mk_cons (sn_iadd K (by decide +kernel)) ?_
  refine mk_cons (sn_sld K hX hbl hbA hsk (by decide +kernel)) ?_
  refine mk_cons (sn_aload_n (k := 0) K HS (by decide +kernel) rfl) ?_
  refine mk_cons (sn_iload_n (k := 3) K (by decide +kernel) rfl) ?_
  refine mk_cons (sn_iconst (n := 2) K (by decide +kernel) (by decide +kernel)) ?_
  refine mk_cons (sn_iadd K (by decide +kernel)) ?_
  refine mk_cons (sn_sld K hX hbl hbA hsk (by decide +kernel)) ?_
  refine mk_cons (sn_callV (i := 28) K HS HY RD (CR n_LS_write) ok_LS_write cls_11 rfl km_Law_28 kn_LS_write kv_LS_write (by decide +kernel)) ?_
  refine mk_cons (sn_aload_n (k := 2) K HS (by decide +kernel) rfl) ?_
  refine mk_cons (sn_aload_n (k := 0) K HS (by decide +kernel) rfl) ?_
  refine mk_cons (sn_iload_n (k := 3) K (by decide +kernel) rfl) ?_
  refine mk_cons (sn_iconst (n := 1) K (by decide +kernel) (by decide +kernel)) ?_
  refine mk_cons (sn_iadd K (by decide +kernel)) ?_
  refine mk_cons (sn_sld K hX hbl hbA hsk (by decide +kernel)) ?_
  refine mk_cons (sn_aload_n (k := 0) K HS (by decide +kernel) rfl) ?_
  refine mk_cons (sn_iload_n (k := 3) K (by decide +kernel) rfl) ?_
  refine mk_cons (sn_iconst (n := 2) K (by decide +kernel) (by decide +kernel)) ?_
  refine mk_cons (sn_iadd K (by decide +kernel)) ?_
  refine mk_cons (sn_sld K hX hbl hbA hsk (by decide +kernel)) ?_
  refine mk_cons (sn_callV (i := 32) K HS HY RD (CR n_Mo_write) ok_Mo_write cls_12 rfl km_Law_32 kn_Mo_write kv_Mo_write (by decide +kernel)) ?_
  refine mk_cons (sn_ceq (off := 718) K (by decide +kernel) (by decide +kernel)) ?_
  refine mk_cons (sn_iconst (n := 0) K (by decide +kernel) (by decide +kernel)) ?_
  refine mk_cons (sn_lwr K hr hb (by decide +kernel)) ?_
  refine mk_cons (sn_aload_n (k := 1) K HS (by decide +kernel) rfl) ?_
  refine mk_cons (sn_aload_n (k := 0) K HS (by decide +kernel) rfl) ?_
  refine mk_cons (sn_iload_n (k := 3) K (by decide +kernel) rfl) ?_
  refine mk_cons (sn_iconst (n := 1) K (by decide +kernel) (by decide +kernel)) ?_
  refine mk_cons (sn_iadd K (by decide +kernel)) ?_
  refine mk_cons (sn_sld K hX hbl hbA hsk (by decide +kernel)) ?_
  refine mk_cons (sn_callV (i := 33) K HS HY RD (CR n_LS_blank) ok_LS_blank cls_11 rfl km_Law_33 kn_LS_blank kv_LS_blank (by decide +kernel)) ?_
  refine mk_cons (sn_aload_n (k := 2) K HS (by decide +kernel) rfl) ?_
  refine mk_cons (sn_aload_n (k := 0) K HS (by decide +kernel) rfl) ?_
  refine mk_cons (sn_iload_n (k := 3) K (by decide +kernel) rfl) ?_
  refine mk_cons (sn_iconst (n := 1) K (by decide +kernel) (by decide +kernel)) ?_
  refine mk_cons (sn_iadd K (by decide +kernel)) ?_
  refine mk_cons (sn_sld K hX hbl hbA hsk (by decide +kernel)) ?_
  refine mk_cons (sn_callV (i := 36) K HS HY RD (CR n_Mo_blank) ok_Mo_blank cls_12 rfl km_Law_36 kn_Mo_blank kv_Mo_blank (by decide +kernel)) ?_
  refine mk_cons (sn_ceq (off := 695) K (by decide +kernel) (by decide +kernel)) ?_
  refine mk_cons (sn_iconst (n := 0) K (by decide +kernel) (by decide +kernel)) ?_
  refine mk_cons (sn_lwr K hr hb (by decide +kernel)) ?_
  refine mk_cons (sn_aload_n (k := 1) K HS (by decide +kernel) rfl) ?_
  refine mk_cons (sn_aload_n (k := 0) K HS (by decide +kernel) rfl) ?_
  refine mk_cons (sn_iload_n (k := 3) K (by decide +kernel) rfl) ?_
  refine mk_cons (sn_iconst (n := 1) K (by decide +kernel) (by decide +kernel)) ?_
  refine mk_cons (sn_iadd K (by decide +kernel)) ?_
  refine mk_cons (sn_sld K hX hbl hbA hsk (by decide +kernel)) ?_
  refine mk_cons (sn_aload_n (k := 0) K HS (by decide +kernel) rfl) ?_
  refine mk_cons (sn_iload_n (k := 3) K (by decide +kernel) rfl) ?_
  refine mk_cons (sn_iconst (n := 2) K (by decide +kernel) (by decide +kernel)) ?_
  refine mk_cons (sn_iadd K (by decide +kernel)) ?_
  refine mk_cons (sn_sld K hX hbl hbA hsk (by decide +kernel)) ?_
  refine mk_cons (sn_callV (i := 37) K HS HY RD (CR n_LS_read) ok_LS_read cls_11 rfl km_Law_37 kn_LS_read kv_LS_read (by decide +kernel)) ?_
  refine mk_cons (sn_aload_n (k := 2) K HS (by decide +kernel) rfl) ?_
  refine mk_cons (sn_aload_n (k := 0) K HS (by decide +kernel) rfl) ?_
  refine mk_cons (sn_iload_n (k := 3) K (by decide +kernel) rfl) ?_
  refine mk_cons (sn_iconst (n := 1) K (by decide +kernel) (by decide +kernel)) ?_
  refine mk_cons (sn_iadd K (by decide +kernel)) ?_
  refine mk_cons (sn_sld K hX hbl hbA hsk (by decide +kernel)) ?_
  refine mk_cons (sn_aload_n (k := 0) K HS (by decide +kernel) rfl) ?_
  refine mk_cons (sn_iload_n (k := 3) K (by decide +kernel) rfl) ?_
  refine mk_cons (sn_iconst (n := 2) K (by decide +kernel) (by decide +kernel)) ?_
  refine mk_cons (sn_iadd K (by decide +kernel)) ?_
  refine mk_cons (sn_sld K hX hbl hbA hsk (by decide +kernel)) ?_
  refine mk_cons (sn_callV (i := 40) K HS HY RD (CR n_Mo_read) ok_Mo_read cls_12 rfl km_Law_40 kn_Mo_read kv_Mo_read (by decide +kernel)) ?_
  refine mk_cons (sn_ceq (off := 662) K (by decide +kernel) (by decide +kernel)) ?_
  refine mk_cons (sn_iconst (n := 0) K (by decide +kernel) (by decide +kernel)) ?_
  refine mk_cons (sn_lwr K hr hb (by decide +kernel)) ?_
  refine mk_cons (sn_aload_n (k := 1) K HS (by decide +kernel) rfl) ?_
  refine mk_cons (sn_aload_n (k := 0) K HS (by decide +kernel) rfl) ?_
  refine mk_cons (sn_iload_n (k := 3) K (by decide +kernel) rfl) ?_
  refine mk_cons (sn_iconst (n := 1) K (by decide +kernel) (by decide +kernel)) ?_
  refine mk_cons (sn_iadd K (by decide +kernel)) ?_
  refine mk_cons (sn_sld K hX hbl hbA hsk (by decide +kernel)) ?_
  refine mk_cons (sn_aload_n (k := 0) K HS (by decide +kernel) rfl) ?_
  refine mk_cons (sn_iload_n (k := 3) K (by decide +kernel) rfl) ?_
  refine mk_cons (sn_iconst (n := 2) K (by decide +kernel) (by decide +kernel)) ?_
  refine mk_cons (sn_iadd K (by decide +kernel)) ?_
  refine mk_cons (sn_sld K hX hbl hbA hsk (by decide +kernel)) ?_
  refine mk_cons (sn_aload_n (k := 0) K HS (by decide +kernel) rfl) ?_
  refine mk_cons (sn_iload_n (k := 3) K (by decide +kernel) rfl) ?_
  refine mk_cons (sn_iconst (n := 3) K (by decide +kernel) (by decide +kernel)) ?_
  refine mk_cons (sn_iadd K (by decide +kernel)) ?_
  refine mk_cons (sn_sld K hX hbl hbA hsk (by decide +kernel)) ?_
  refine mk_cons (sn_aload_n (k := 0) K HS (by decide +kernel) rfl) ?_
  refine mk_cons (sn_iload_n (k := 3) K (by decide +kernel) rfl) ?_
  refine mk_cons (sn_iconst (n := 4) K (by decide +kernel) (by decide +kernel)) ?_
  refine mk_cons (sn_iadd K (by decide +kernel)) ?_
  refine mk_cons (sn_sld K hX hbl hbA hsk (by decide +kernel)) ?_
  refine mk_cons (sn_aload_n (k := 0) K HS (by decide +kernel) rfl) ?_
  refine mk_cons (sn_iload_n (k := 3) K (by decide +kernel) rfl) ?_
  refine mk_cons (sn_iconst (n := 5) K (by decide +kernel) (by decide +kernel)) ?_
  refine mk_cons (sn_iadd K (by decide +kernel)) ?_
  refine mk_cons (sn_sld K hX hbl hbA hsk (by decide +kernel)) ?_
  refine mk_cons (sn_callV (i := 41) K HS HY RD (CR n_LS_feed) ok_LS_feed cls_11 rfl km_Law_41 kn_LS_feed kv_LS_feed (by decide +kernel)) ?_
  refine mk_cons (sn_aload_n (k := 2) K HS (by decide +kernel) rfl) ?_
  refine mk_cons (sn_aload_n (k := 0) K HS (by decide +kernel) rfl) ?_
  refine mk_cons (sn_iload_n (k := 3) K (by decide +kernel) rfl) ?_
  refine mk_cons (sn_iconst (n := 1) K (by decide +kernel) (by decide +kernel)) ?_
  refine mk_cons (sn_iadd K (by decide +kernel)) ?_
  refine mk_cons (sn_sld K hX hbl hbA hsk (by decide +kernel)) ?_
  refine mk_cons (sn_aload_n (k := 0) K HS (by decide +kernel) rfl) ?_
  refine mk_cons (sn_iload_n (k := 3) K (by decide +kernel) rfl) ?_
  refine mk_cons (sn_iconst (n := 2) K (by decide +kernel) (by decide +kernel)) ?_
  refine mk_cons (sn_iadd K (by decide +kernel)) ?_
  refine mk_cons (sn_sld K hX hbl hbA hsk (by decide +kernel)) ?_
  refine mk_cons (sn_aload_n (k := 0) K HS (by decide +kernel) rfl) ?_
  refine mk_cons (sn_iload_n (k := 3) K (by decide +kernel) rfl) ?_
  refine mk_cons (sn_iconst (n := 3) K (by decide +kernel) (by decide +kernel)) ?_
  refine mk_cons (sn_iadd K (by decide +kernel)) ?_
  refine mk_cons (sn_sld K hX hbl hbA hsk (by decide +kernel)) ?_
  refine mk_cons (sn_aload_n (k := 0) K HS (by decide +kernel) rfl) ?_
  refine mk_cons (sn_iload_n (k := 3) K (by decide +kernel) rfl) ?_
  refine mk_cons (sn_iconst (n := 4) K (by decide +kernel) (by decide +kernel)) ?_
  refine mk_cons (sn_iadd K (by decide +kernel)) ?_
  refine mk_cons (sn_sld K hX hbl hbA hsk (by decide +kernel)) ?_
  refine mk_cons (sn_aload_n (k := 0) K HS (by decide +kernel) rfl) ?_
  refine mk_cons (sn_iload_n (k := 3) K (by decide +kernel) rfl) ?_
  refine mk_cons (sn_iconst (n := 5) K (by decide +kernel) (by decide +kernel)) ?_
  refine mk_cons (sn_iadd K (by decide +kernel)) ?_
  refine mk_cons (sn_sld K hX hbl hbA hsk (by decide +kernel)) ?_
  refine mk_cons (sn_callV (i := 45) K HS HY RD (CR n_Mo_feed) ok_Mo_feed cls_12 rfl km_Law_45 kn_Mo_feed kv_Mo_feed (by decide +kernel)) ?_
  refine mk_cons (sn_ceq (off := 599) K (by decide +kernel) (by decide +kernel)) ?_
  refine mk_cons (sn_iconst (n := 0) K (by decide +kernel) (by decide +kernel)) ?_
  refine mk_cons (sn_lwr K hr hb (by decide +kernel)) ?_
  refine mk_cons (sn_aload_n (k := 1) K HS (by decide +kernel) rfl) ?_
  refine mk_cons (sn_aload_n (k := 0) K HS (by decide +kernel) rfl) ?_
  refine mk_cons (sn_iload_n (k := 3) K (by decide +kernel) rfl) ?_
  refine mk_cons (sn_iconst (n := 1) K (by decide +kernel) (by decide +kernel)) ?_
  refine mk_cons (sn_iadd K (by decide +kernel)) ?_
  refine mk_cons (sn_sld K hX hbl hbA hsk (by decide +kernel)) ?_
  refine mk_cons (sn_callV (i := 46) K HS HY RD (CR n_LS_end) ok_LS_end cls_11 rfl km_Law_46 kn_LS_end kv_LS_end (by decide +kernel)) ?_
  refine mk_cons (sn_aload_n (k := 2) K HS (by decide +kernel) rfl) ?_
  refine mk_cons (sn_aload_n (k := 0) K HS (by decide +kernel) rfl) ?_
  refine mk_cons (sn_iload_n (k := 3) K (by decide +kernel) rfl) ?_
  refine mk_cons (sn_iconst (n := 1) K (by decide +kernel) (by decide +kernel)) ?_
  refine mk_cons (sn_iadd K (by decide +kernel)) ?_
  refine mk_cons (sn_sld K hX hbl hbA hsk (by decide +kernel)) ?_
  refine mk_cons (sn_callV (i := 50) K HS HY RD (CR n_Mo_end) ok_Mo_end cls_12 rfl km_Law_50 kn_Mo_end kv_Mo_end (by decide +kernel)) ?_
  refine mk_cons (sn_ceq (off := 576) K (by decide +kernel) (by decide +kernel)) ?_
  refine mk_cons (sn_iconst (n := 0) K (by decide +kernel) (by decide +kernel)) ?_
  refine mk_cons (sn_lwr K hr hb (by decide +kernel)) ?_
  refine mk_cons (sn_aload_n (k := 1) K HS (by decide +kernel) rfl) ?_
  refine mk_cons (sn_aload_n (k := 0) K HS (by decide +kernel) rfl) ?_
  refine mk_cons (sn_iload_n (k := 3) K (by decide +kernel) rfl) ?_
  refine mk_cons (sn_iconst (n := 1) K (by decide +kernel) (by decide +kernel)) ?_
  refine mk_cons (sn_iadd K (by decide +kernel)) ?_
  refine mk_cons (sn_sld K hX hbl hbA hsk (by decide +kernel)) ?_
  refine mk_cons (sn_callV (i := 51) K HS HY RD (CR n_LS_text) ok_LS_text cls_11 rfl km_Law_51 kn_LS_text kv_LS_text (by decide +kernel)) ?_
  refine mk_cons (sn_aload_n (k := 2) K HS (by decide +kernel) rfl) ?_
  refine mk_cons (sn_aload_n (k := 0) K HS (by decide +kernel) rfl) ?_
  refine mk_cons (sn_iload_n (k := 3) K (by decide +kernel) rfl) ?_
  refine mk_cons (sn_iconst (n := 1) K (by decide +kernel) (by decide +kernel)) ?_
  refine mk_cons (sn_iadd K (by decide +kernel)) ?_
  refine mk_cons (sn_sld K hX hbl hbA hsk (by decide +kernel)) ?_
  refine mk_cons (sn_callV (i := 54) K HS HY RD (CR n_Mo_text) ok_Mo_text cls_12 rfl km_Law_54 kn_Mo_text kv_Mo_text (by decide +kernel)) ?_
  refine mk_cons (sn_ceq (off := 553) K (by decide +kernel) (by decide +kernel)) ?_
  refine mk_cons (sn_iconst (n := 0) K (by decide +kernel) (by decide +kernel)) ?_
  refine mk_cons (sn_lwr K hr hb (by decide +kernel)) ?_
  refine mk_cons (sn_aload_n (k := 1) K HS (by decide +kernel) rfl) ?_
  refine mk_cons (sn_aload_n (k := 0) K HS (by decide +kernel) rfl) ?_
  refine mk_cons (sn_iload_n (k := 3) K (by decide +kernel) rfl) ?_
  refine mk_cons (sn_iconst (n := 1) K (by decide +kernel) (by decide +kernel)) ?_
  refine mk_cons (sn_iadd K (by decide +kernel)) ?_
  refine mk_cons (sn_sld K hX hbl hbA hsk (by decide +kernel)) ?_
  refine mk_cons (sn_callV (i := 55) K HS HY RD (CR n_LS_fault) ok_LS_fault cls_11 rfl km_Law_55 kn_LS_fault kv_LS_fault (by decide +kernel)) ?_
  refine mk_cons (sn_aload_n (k := 2) K HS (by decide +kernel) rfl) ?_
  refine mk_cons (sn_aload_n (k := 0) K HS (by decide +kernel) rfl) ?_
  refine mk_cons (sn_iload_n (k := 3) K (by decide +kernel) rfl) ?_
  refine mk_cons (sn_iconst (n := 1) K (by decide +kernel) (by decide +kernel)) ?_
  refine mk_cons (sn_iadd K (by decide +kernel)) ?_
  refine mk_cons (sn_sld K hX hbl hbA hsk (by decide +kernel)) ?_
  refine mk_cons (sn_callV (i := 58) K HS HY RD (CR n_Mo_fault) ok_Mo_fault cls_12 rfl km_Law_58 kn_Mo_fault kv_Mo_fault (by decide +kernel)) ?_
  refine mk_cons (sn_ceq (off := 530) K (by decide +kernel) (by decide +kernel)) ?_
  refine mk_cons (sn_iconst (n := 0) K (by decide +kernel) (by decide +kernel)) ?_
  refine mk_cons (sn_lwr K hr hb (by decide +kernel)) ?_
  refine mk_cons (sn_aload_n (k := 1) K HS (by decide +kernel) rfl) ?_
  refine mk_cons (sn_aload_n (k := 0) K HS (by decide +kernel) rfl) ?_
  refine mk_cons (sn_iload_n (k := 3) K (by decide +kernel) rfl) ?_
  refine mk_cons (sn_iconst (n := 1) K (by decide +kernel) (by decide +kernel)) ?_
  refine mk_cons (sn_iadd K (by decide +kernel)) ?_
  refine mk_cons (sn_sld K hX hbl hbA hsk (by decide +kernel)) ?_
  refine mk_cons (sn_aload_n (k := 0) K HS (by decide +kernel) rfl) ?_
  refine mk_cons (sn_iload_n (k := 3) K (by decide +kernel) rfl) ?_
  refine mk_cons (sn_iconst (n := 2) K (by decide +kernel) (by decide +kernel)) ?_
  refine mk_cons (sn_iadd K (by decide +kernel)) ?_
  refine mk_cons (sn_sld K hX hbl hbA hsk (by decide +kernel)) ?_
  refine mk_cons (sn_aload_n (k := 0) K HS (by decide +kernel) rfl) ?_
  refine mk_cons (sn_iload_n (k := 3) K (by decide +kernel) rfl) ?_
  refine mk_cons (sn_iconst (n := 3) K (by decide +kernel) (by decide +kernel)) ?_
  refine mk_cons (sn_iadd K (by decide +kernel)) ?_
  refine mk_cons (sn_sld K hX hbl hbA hsk (by decide +kernel)) ?_
  refine mk_cons (sn_aload_n (k := 0) K HS (by decide +kernel) rfl) ?_
  refine mk_cons (sn_iload_n (k := 3) K (by decide +kernel) rfl) ?_
  refine mk_cons (sn_iconst (n := 4) K (by decide +kernel) (by decide +kernel)) ?_
  refine mk_cons (sn_iadd K (by decide +kernel)) ?_
  refine mk_cons (sn_sld K hX hbl hbA hsk (by decide +kernel)) ?_
  refine mk_cons (sn_aload_n (k := 0) K HS (by decide +kernel) rfl) ?_
  refine mk_cons (sn_iload_n (k := 3) K (by decide +kernel) rfl) ?_
  refine mk_cons (sn_iconst (n := 5) K (by decide +kernel) (by decide +kernel)) ?_
  refine mk_cons (sn_iadd K (by decide +kernel)) ?_
  refine mk_cons (sn_sld K hX hbl hbA hsk (by decide +kernel)) ?_
  refine mk_cons (sn_callV (i := 59) K HS HY RD (CR n_LS_send) ok_LS_send cls_11 rfl km_Law_59 kn_LS_send kv_LS_send (by decide +kernel)) ?_
  refine mk_cons (sn_aload_n (k := 2) K HS (by decide +kernel) rfl) ?_
  refine mk_cons (sn_aload_n (k := 0) K HS (by decide +kernel) rfl) ?_
  refine mk_cons (sn_iload_n (k := 3) K (by decide +kernel) rfl) ?_
  refine mk_cons (sn_iconst (n := 1) K (by decide +kernel) (by decide +kernel)) ?_
  refine mk_cons (sn_iadd K (by decide +kernel)) ?_
  refine mk_cons (sn_sld K hX hbl hbA hsk (by decide +kernel)) ?_
  refine mk_cons (sn_aload_n (k := 0) K HS (by decide +kernel) rfl) ?_
  refine mk_cons (sn_iload_n (k := 3) K (by decide +kernel) rfl) ?_
  refine mk_cons (sn_iconst (n := 2) K (by decide +kernel) (by decide +kernel)) ?_
  refine mk_cons (sn_iadd K (by decide +kernel)) ?_
  refine mk_cons (sn_sld K hX hbl hbA hsk (by decide +kernel)) ?_
  refine mk_cons (sn_aload_n (k := 0) K HS (by decide +kernel) rfl) ?_
  refine mk_cons (sn_iload_n (k := 3) K (by decide +kernel) rfl) ?_
  refine mk_cons (sn_iconst (n := 3) K (by decide +kernel) (by decide +kernel)) ?_
  refine mk_cons (sn_iadd K (by decide +kernel)) ?_
  refine mk_cons (sn_sld K hX hbl hbA hsk (by decide +kernel)) ?_
  refine mk_cons (sn_aload_n (k := 0) K HS (by decide +kernel) rfl) ?_
  refine mk_cons (sn_iload_n (k := 3) K (by decide +kernel) rfl) ?_
  refine mk_cons (sn_iconst (n := 4) K (by decide +kernel) (by decide +kernel)) ?_
  refine mk_cons (sn_iadd K (by decide +kernel)) ?_
  refine mk_cons (sn_sld K hX hbl hbA hsk (by decide +kernel)) ?_
  refine mk_cons (sn_aload_n (k := 0) K HS (by decide +kernel) rfl) ?_
  refine mk_cons (sn_iload_n (k := 3) K (by decide +kernel) rfl) ?_
  refine mk_cons (sn_iconst (n := 5) K (by decide +kernel) (by decide +kernel)) ?_
  refine mk_cons (sn_iadd K (by decide +kernel)) ?_
  refine mk_cons (sn_sld K hX hbl hbA hsk (by decide +kernel)) ?_
  refine mk_cons (sn_callV (i := 62) K HS HY RD (CR n_Mo_send) ok_Mo_send cls_12 rfl km_Law_62 kn_Mo_send kv_Mo_send (by decide +kernel)) ?_
  refine mk_cons (sn_ceq (off := 467) K (by decide +kernel) (by decide +kernel)) ?_
  refine mk_cons (sn_iconst (n := 0) K (by decide +kernel) (by decide +kernel)) ?_
  refine mk_cons (sn_lwr K hr hb (by decide +kernel)) ?_
  refine mk_cons (sn_aload_n (k := 1) K HS (by decide +kernel) rfl) ?_
  refine mk_cons (sn_callV (i := 63) K HS HY RD (CR n_LS_day) ok_LS_day cls_11 rfl km_Law_63 kn_LS_day kv_LS_day (by decide +kernel)) ?_
  refine mk_cons (sn_aload_n (k := 2) K HS (by decide +kernel) rfl) ?_
  refine mk_cons (sn_callV (i := 67) K HS HY RD (CR n_Mo_day) ok_Mo_day cls_12 rfl km_Law_67 kn_Mo_day kv_Mo_day (by decide +kernel)) ?_
  refine mk_cons (sn_ceq (off := 454) K (by decide +kernel) (by decide +kernel)) ?_
  refine mk_cons (sn_iconst (n := 0) K (by decide +kernel) (by decide +kernel)) ?_
  refine mk_cons (sn_lwr K hr hb (by decide +kernel)) ?_
  refine mk_cons (sn_aload_n (k := 1) K HS (by decide +kernel) rfl) ?_
  refine mk_cons (sn_aload_n (k := 0) K HS (by decide +kernel) rfl) ?_
  refine mk_cons (sn_iload_n (k := 3) K (by decide +kernel) rfl) ?_
  refine mk_cons (sn_iconst (n := 1) K (by decide +kernel) (by decide +kernel)) ?_
  refine mk_cons (sn_iadd K (by decide +kernel)) ?_
  refine mk_cons (sn_sld K hX hbl hbA hsk (by decide +kernel)) ?_
  refine mk_cons (sn_aload_n (k := 0) K HS (by decide +kernel) rfl) ?_
  refine mk_cons (sn_iload_n (k := 3) K (by decide +kernel) rfl) ?_
  refine mk_cons (sn_iconst (n := 2) K (by decide +kernel) (by decide +kernel)) ?_
  refine mk_cons (sn_iadd K (by decide +kernel)) ?_
  refine mk_cons (sn_sld K hX hbl hbA hsk (by decide +kernel)) ?_
  refine mk_cons (sn_callV (i := 68) K HS HY RD (CR n_LS_of) ok_LS_of cls_11 rfl km_Law_68 kn_LS_of kv_LS_of (by decide +kernel)) ?_
  refine mk_cons (sn_aload_n (k := 2) K HS (by decide +kernel) rfl) ?_
  refine mk_cons (sn_aload_n (k := 0) K HS (by decide +kernel) rfl) ?_
  refine mk_cons (sn_iload_n (k := 3) K (by decide +kernel) rfl) ?_
  refine mk_cons (sn_iconst (n := 1) K (by decide +kernel) (by decide +kernel)) ?_
  refine mk_cons (sn_iadd K (by decide +kernel)) ?_
  refine mk_cons (sn_sld K hX hbl hbA hsk (by decide +kernel)) ?_
  refine mk_cons (sn_aload_n (k := 0) K HS (by decide +kernel) rfl) ?_
  refine mk_cons (sn_iload_n (k := 3) K (by decide +kernel) rfl) ?_
  refine mk_cons (sn_iconst (n := 2) K (by decide +kernel) (by decide +kernel)) ?_
  refine mk_cons (sn_iadd K (by decide +kernel)) ?_
  refine mk_cons (sn_sld K hX hbl hbA hsk (by decide +kernel)) ?_
  refine mk_cons (sn_callV (i := 71) K HS HY RD (CR n_Mo_of) ok_Mo_of cls_12 rfl km_Law_71 kn_Mo_of kv_Mo_of (by decide +kernel)) ?_
  refine mk_cons (sn_ceq (off := 421) K (by decide +kernel) (by decide +kernel)) ?_
  refine mk_cons (sn_iconst (n := 0) K (by decide +kernel) (by decide +kernel)) ?_
  refine mk_cons (sn_lwr K hr hb (by decide +kernel)) ?_
  refine mk_cons (sn_aload_n (k := 1) K HS (by decide +kernel) rfl) ?_
  refine mk_cons (sn_aload_n (k := 0) K HS (by decide +kernel) rfl) ?_
  refine mk_cons (sn_iload_n (k := 3) K (by decide +kernel) rfl) ?_
  refine mk_cons (sn_iconst (n := 1) K (by decide +kernel) (by decide +kernel)) ?_
  refine mk_cons (sn_iadd K (by decide +kernel)) ?_
  refine mk_cons (sn_sld K hX hbl hbA hsk (by decide +kernel)) ?_
  refine mk_cons (sn_aload_n (k := 0) K HS (by decide +kernel) rfl) ?_
  refine mk_cons (sn_iload_n (k := 3) K (by decide +kernel) rfl) ?_
  refine mk_cons (sn_iconst (n := 2) K (by decide +kernel) (by decide +kernel)) ?_
  refine mk_cons (sn_iadd K (by decide +kernel)) ?_
  refine mk_cons (sn_sld K hX hbl hbA hsk (by decide +kernel)) ?_
  refine mk_cons (sn_callV (i := 72) K HS HY RD (CR n_LS_book) ok_LS_book cls_11 rfl km_Law_72 kn_LS_book kv_LS_book (by decide +kernel)) ?_
  refine mk_cons (sn_aload_n (k := 2) K HS (by decide +kernel) rfl) ?_
  refine mk_cons (sn_aload_n (k := 0) K HS (by decide +kernel) rfl) ?_
  refine mk_cons (sn_iload_n (k := 3) K (by decide +kernel) rfl) ?_
  refine mk_cons (sn_iconst (n := 1) K (by decide +kernel) (by decide +kernel)) ?_
  refine mk_cons (sn_iadd K (by decide +kernel)) ?_
  refine mk_cons (sn_sld K hX hbl hbA hsk (by decide +kernel)) ?_
  refine mk_cons (sn_aload_n (k := 0) K HS (by decide +kernel) rfl) ?_
  refine mk_cons (sn_iload_n (k := 3) K (by decide +kernel) rfl) ?_
  refine mk_cons (sn_iconst (n := 2) K (by decide +kernel) (by decide +kernel)) ?_
  refine mk_cons (sn_iadd K (by decide +kernel)) ?_
  refine mk_cons (sn_sld K hX hbl hbA hsk (by decide +kernel)) ?_
  refine mk_cons (sn_callV (i := 75) K HS HY RD (CR n_Mo_book) ok_Mo_book cls_12 rfl km_Law_75 kn_Mo_book kv_Mo_book (by decide +kernel)) ?_
  refine mk_cons (sn_ceq (off := 388) K (by decide +kernel) (by decide +kernel)) ?_
  refine mk_cons (sn_iconst (n := 0) K (by decide +kernel) (by decide +kernel)) ?_
  refine mk_cons (sn_lwr K hr hb (by decide +kernel)) ?_
  refine mk_cons (sn_aload_n (k := 1) K HS (by decide +kernel) rfl) ?_
  refine mk_cons (sn_callV (i := 76) K HS HY RD (CR n_LS_creep) ok_LS_creep cls_11 rfl km_Law_76 kn_LS_creep kv_LS_creep (by decide +kernel)) ?_
  refine mk_cons (sn_aload_n (k := 2) K HS (by decide +kernel) rfl) ?_
  refine mk_cons (sn_callV (i := 80) K HS HY RD (CR n_Mo_creep) ok_Mo_creep cls_12 rfl km_Law_80 kn_Mo_creep kv_Mo_creep (by decide +kernel)) ?_
  refine mk_cons (sn_lcmp K (by decide +kernel)) ?_
  refine mk_cons (sn_ifeq (off := 374) K (by decide +kernel) (by decide +kernel)) ?_
  refine mk_cons (sn_iconst (n := 0) K (by decide +kernel) (by decide +kernel)) ?_
  refine mk_cons (sn_lwr K hr hb (by decide +kernel)) ?_
  refine mk_cons (sn_aload_n (k := 1) K HS (by decide +kernel) rfl) ?_
  refine mk_cons (sn_aload_n (k := 0) K HS (by decide +kernel) rfl) ?_
  refine mk_cons (sn_iload_n (k := 3) K (by decide +kernel) rfl) ?_
  refine mk_cons (sn_iconst (n := 1) K (by decide +kernel) (by decide +kernel)) ?_
  refine mk_cons (sn_iadd K (by decide +kernel)) ?_
  refine mk_cons (sn_sld K hX hbl hbA hsk (by decide +kernel)) ?_
  refine mk_cons (sn_aload_n (k := 0) K HS (by decide +kernel) rfl) ?_
  refine mk_cons (sn_iload_n (k := 3) K (by decide +kernel) rfl) ?_
  refine mk_cons (sn_iconst (n := 2) K (by decide +kernel) (by decide +kernel)) ?_
  refine mk_cons (sn_iadd K (by decide +kernel)) ?_
  refine mk_cons (sn_sld K hX hbl hbA hsk (by decide +kernel)) ?_
  refine mk_cons (sn_aload_n (k := 0) K HS (by decide +kernel) rfl) ?_
  refine mk_cons (sn_iload_n (k := 3) K (by decide +kernel) rfl) ?_
  refine mk_cons (sn_iconst (n := 3) K (by decide +kernel) (by decide +kernel)) ?_
  refine mk_cons (sn_iadd K (by decide +kernel)) ?_
  refine mk_cons (sn_sld K hX hbl hbA hsk (by decide +kernel)) ?_
  refine mk_cons (sn_callV (i := 81) K HS HY RD (CR n_LS_comes) ok_LS_comes cls_11 rfl km_Law_81 kn_LS_comes kv_LS_comes (by decide +kernel)) ?_
  refine mk_cons (sn_aload_n (k := 2) K HS (by decide +kernel) rfl) ?_
  refine mk_cons (sn_aload_n (k := 0) K HS (by decide +kernel) rfl) ?_
  refine mk_cons (sn_iload_n (k := 3) K (by decide +kernel) rfl) ?_
  refine mk_cons (sn_iconst (n := 1) K (by decide +kernel) (by decide +kernel)) ?_
  refine mk_cons (sn_iadd K (by decide +kernel)) ?_
  refine mk_cons (sn_sld K hX hbl hbA hsk (by decide +kernel)) ?_
  refine mk_cons (sn_aload_n (k := 0) K HS (by decide +kernel) rfl) ?_
  refine mk_cons (sn_iload_n (k := 3) K (by decide +kernel) rfl) ?_
  refine mk_cons (sn_iconst (n := 2) K (by decide +kernel) (by decide +kernel)) ?_
  refine mk_cons (sn_iadd K (by decide +kernel)) ?_
  refine mk_cons (sn_sld K hX hbl hbA hsk (by decide +kernel)) ?_
  refine mk_cons (sn_aload_n (k := 0) K HS (by decide +kernel) rfl) ?_
  refine mk_cons (sn_iload_n (k := 3) K (by decide +kernel) rfl) ?_
  refine mk_cons (sn_iconst (n := 3) K (by decide +kernel) (by decide +kernel)) ?_
  refine mk_cons (sn_iadd K (by decide +kernel)) ?_
  refine mk_cons (sn_sld K hX hbl hbA hsk (by decide +kernel)) ?_
  refine mk_cons (sn_callV (i := 85) K HS HY RD (CR n_Mo_comes) ok_Mo_comes cls_12 rfl km_Law_85 kn_Mo_comes kv_Mo_comes (by decide +kernel)) ?_
  refine mk_cons (sn_ceq (off := 331) K (by decide +kernel) (by decide +kernel)) ?_
  refine mk_cons (sn_iconst (n := 0) K (by decide +kernel) (by decide +kernel)) ?_
  refine mk_cons (sn_lwr K hr hb (by decide +kernel)) ?_
  refine mk_cons (sn_aload_n (k := 1) K HS (by decide +kernel) rfl) ?_
  refine mk_cons (sn_aload_n (k := 0) K HS (by decide +kernel) rfl) ?_
  refine mk_cons (sn_iload_n (k := 3) K (by decide +kernel) rfl) ?_
  refine mk_cons (sn_iconst (n := 1) K (by decide +kernel) (by decide +kernel)) ?_
  refine mk_cons (sn_iadd K (by decide +kernel)) ?_
  refine mk_cons (sn_sld K hX hbl hbA hsk (by decide +kernel)) ?_
  refine mk_cons (sn_aload_n (k := 0) K HS (by decide +kernel) rfl) ?_
  refine mk_cons (sn_iload_n (k := 3) K (by decide +kernel) rfl) ?_
  refine mk_cons (sn_iconst (n := 2) K (by decide +kernel) (by decide +kernel)) ?_
  refine mk_cons (sn_iadd K (by decide +kernel)) ?_
  refine mk_cons (sn_sld K hX hbl hbA hsk (by decide +kernel)) ?_
  refine mk_cons (sn_aload_n (k := 0) K HS (by decide +kernel) rfl) ?_
  refine mk_cons (sn_iload_n (k := 3) K (by decide +kernel) rfl) ?_
  refine mk_cons (sn_iconst (n := 3) K (by decide +kernel) (by decide +kernel)) ?_
  refine mk_cons (sn_iadd K (by decide +kernel)) ?_
  refine mk_cons (sn_sld K hX hbl hbA hsk (by decide +kernel)) ?_
  refine mk_cons (sn_aload_n (k := 0) K HS (by decide +kernel) rfl) ?_
  refine mk_cons (sn_iload_n (k := 3) K (by decide +kernel) rfl) ?_
  refine mk_cons (sn_iconst (n := 4) K (by decide +kernel) (by decide +kernel)) ?_
  refine mk_cons (sn_iadd K (by decide +kernel)) ?_
  refine mk_cons (sn_sld K hX hbl hbA hsk (by decide +kernel)) ?_
  refine mk_cons (sn_callV (i := 86) K HS HY RD (CR n_LS_meant) ok_LS_meant cls_11 rfl km_Law_86 kn_LS_meant kv_LS_meant (by decide +kernel)) ?_
  refine mk_cons (sn_aload_n (k := 2) K HS (by decide +kernel) rfl) ?_
  refine mk_cons (sn_aload_n (k := 0) K HS (by decide +kernel) rfl) ?_
  refine mk_cons (sn_iload_n (k := 3) K (by decide +kernel) rfl) ?_
  refine mk_cons (sn_iconst (n := 1) K (by decide +kernel) (by decide +kernel)) ?_
  refine mk_cons (sn_iadd K (by decide +kernel)) ?_
  refine mk_cons (sn_sld K hX hbl hbA hsk (by decide +kernel)) ?_
  refine mk_cons (sn_aload_n (k := 0) K HS (by decide +kernel) rfl) ?_
  refine mk_cons (sn_iload_n (k := 3) K (by decide +kernel) rfl) ?_
  refine mk_cons (sn_iconst (n := 2) K (by decide +kernel) (by decide +kernel)) ?_
  refine mk_cons (sn_iadd K (by decide +kernel)) ?_
  refine mk_cons (sn_sld K hX hbl hbA hsk (by decide +kernel)) ?_
  refine mk_cons (sn_aload_n (k := 0) K HS (by decide +kernel) rfl) ?_
  refine mk_cons (sn_iload_n (k := 3) K (by decide +kernel) rfl) ?_
  refine mk_cons (sn_iconst (n := 3) K (by decide +kernel) (by decide +kernel)) ?_
  refine mk_cons (sn_iadd K (by decide +kernel)) ?_
  refine mk_cons (sn_sld K hX hbl hbA hsk (by decide +kernel)) ?_
  refine mk_cons (sn_aload_n (k := 0) K HS (by decide +kernel) rfl) ?_
  refine mk_cons (sn_iload_n (k := 3) K (by decide +kernel) rfl) ?_
  refine mk_cons (sn_iconst (n := 4) K (by decide +kernel) (by decide +kernel)) ?_
  refine mk_cons (sn_iadd K (by decide +kernel)) ?_
  refine mk_cons (sn_sld K hX hbl hbA hsk (by decide +kernel)) ?_
  refine mk_cons (sn_callV (i := 90) K HS HY RD (CR n_Mo_meant) ok_Mo_meant cls_12 rfl km_Law_90 kn_Mo_meant kv_Mo_meant (by decide +kernel)) ?_
  refine mk_cons (sn_ceq (off := 278) K (by decide +kernel) (by decide +kernel)) ?_
  refine mk_cons (sn_iconst (n := 0) K (by decide +kernel) (by decide +kernel)) ?_
  refine mk_cons (sn_lwr K hr hb (by decide +kernel)) ?_
  refine mk_cons (sn_aload_n (k := 1) K HS (by decide +kernel) rfl) ?_
  refine mk_cons (sn_aload_n (k := 0) K HS (by decide +kernel) rfl) ?_
  refine mk_cons (sn_iload_n (k := 3) K (by decide +kernel) rfl) ?_
  refine mk_cons (sn_iconst (n := 1) K (by decide +kernel) (by decide +kernel)) ?_
  refine mk_cons (sn_iadd K (by decide +kernel)) ?_
  refine mk_cons (sn_sld K hX hbl hbA hsk (by decide +kernel)) ?_
  refine mk_cons (sn_aload_n (k := 0) K HS (by decide +kernel) rfl) ?_
  refine mk_cons (sn_iload_n (k := 3) K (by decide +kernel) rfl) ?_
  refine mk_cons (sn_iconst (n := 2) K (by decide +kernel) (by decide +kernel)) ?_
  refine mk_cons (sn_iadd K (by decide +kernel)) ?_
  refine mk_cons (sn_sld K hX hbl hbA hsk (by decide +kernel)) ?_
  refine mk_cons (sn_aload_n (k := 0) K HS (by decide +kernel) rfl) ?_
  refine mk_cons (sn_iload_n (k := 3) K (by decide +kernel) rfl) ?_
  refine mk_cons (sn_iconst (n := 3) K (by decide +kernel) (by decide +kernel)) ?_
  refine mk_cons (sn_iadd K (by decide +kernel)) ?_
  refine mk_cons (sn_sld K hX hbl hbA hsk (by decide +kernel)) ?_
  refine mk_cons (sn_callV (i := 91) K HS HY RD (CR n_LS_twin) ok_LS_twin cls_11 rfl km_Law_91 kn_LS_twin kv_LS_twin (by decide +kernel)) ?_
  refine mk_cons (sn_aload_n (k := 2) K HS (by decide +kernel) rfl) ?_
  refine mk_cons (sn_aload_n (k := 0) K HS (by decide +kernel) rfl) ?_
  refine mk_cons (sn_iload_n (k := 3) K (by decide +kernel) rfl) ?_
  refine mk_cons (sn_iconst (n := 1) K (by decide +kernel) (by decide +kernel)) ?_
  refine mk_cons (sn_iadd K (by decide +kernel)) ?_
  refine mk_cons (sn_sld K hX hbl hbA hsk (by decide +kernel)) ?_
  refine mk_cons (sn_aload_n (k := 0) K HS (by decide +kernel) rfl) ?_
  refine mk_cons (sn_iload_n (k := 3) K (by decide +kernel) rfl) ?_
  refine mk_cons (sn_iconst (n := 2) K (by decide +kernel) (by decide +kernel)) ?_
  refine mk_cons (sn_iadd K (by decide +kernel)) ?_
  refine mk_cons (sn_sld K hX hbl hbA hsk (by decide +kernel)) ?_
  refine mk_cons (sn_aload_n (k := 0) K HS (by decide +kernel) rfl) ?_
  refine mk_cons (sn_iload_n (k := 3) K (by decide +kernel) rfl) ?_
  refine mk_cons (sn_iconst (n := 3) K (by decide +kernel) (by decide +kernel)) ?_
  refine mk_cons (sn_iadd K (by decide +kernel)) ?_
  refine mk_cons (sn_sld K hX hbl hbA hsk (by decide +kernel)) ?_
  refine mk_cons (sn_callV (i := 94) K HS HY RD (CR n_Mo_twin) ok_Mo_twin cls_12 rfl km_Law_94 kn_Mo_twin kv_Mo_twin (by decide +kernel)) ?_
  refine mk_cons (sn_ceq (off := 235) K (by decide +kernel) (by decide +kernel)) ?_
  refine mk_cons (sn_iconst (n := 0) K (by decide +kernel) (by decide +kernel)) ?_
  refine mk_cons (sn_lwr K hr hb (by decide +kernel)) ?_
  refine mk_cons (sn_aload_n (k := 1) K HS (by decide +kernel) rfl) ?_
  refine mk_cons (sn_aload_n (k := 0) K HS (by decide +kernel) rfl) ?_
  refine mk_cons (sn_iload_n (k := 3) K (by decide +kernel) rfl) ?_
  refine mk_cons (sn_iconst (n := 1) K (by decide +kernel) (by decide +kernel)) ?_
  refine mk_cons (sn_iadd K (by decide +kernel)) ?_
  refine mk_cons (sn_sld K hX hbl hbA hsk (by decide +kernel)) ?_
  refine mk_cons (sn_aload_n (k := 0) K HS (by decide +kernel) rfl) ?_
  refine mk_cons (sn_iload_n (k := 3) K (by decide +kernel) rfl) ?_
  refine mk_cons (sn_iconst (n := 2) K (by decide +kernel) (by decide +kernel)) ?_
  refine mk_cons (sn_iadd K (by decide +kernel)) ?_
  refine mk_cons (sn_sld K hX hbl hbA hsk (by decide +kernel)) ?_
  refine mk_cons (sn_aload_n (k := 0) K HS (by decide +kernel) rfl) ?_
  refine mk_cons (sn_iload_n (k := 3) K (by decide +kernel) rfl) ?_
  refine mk_cons (sn_iconst (n := 3) K (by decide +kernel) (by decide +kernel)) ?_
  refine mk_cons (sn_iadd K (by decide +kernel)) ?_
  refine mk_cons (sn_sld K hX hbl hbA hsk (by decide +kernel)) ?_
  refine mk_cons (sn_callV (i := 95) K HS HY RD (CR n_LS_code) ok_LS_code cls_11 rfl km_Law_95 kn_LS_code kv_LS_code (by decide +kernel)) ?_
  refine mk_cons (sn_aload_n (k := 2) K HS (by decide +kernel) rfl) ?_
  refine mk_cons (sn_aload_n (k := 0) K HS (by decide +kernel) rfl) ?_
  refine mk_cons (sn_iload_n (k := 3) K (by decide +kernel) rfl) ?_
  refine mk_cons (sn_iconst (n := 1) K (by decide +kernel) (by decide +kernel)) ?_
  refine mk_cons (sn_iadd K (by decide +kernel)) ?_
  refine mk_cons (sn_sld K hX hbl hbA hsk (by decide +kernel)) ?_
  refine mk_cons (sn_aload_n (k := 0) K HS (by decide +kernel) rfl) ?_
  refine mk_cons (sn_iload_n (k := 3) K (by decide +kernel) rfl) ?_
  refine mk_cons (sn_iconst (n := 2) K (by decide +kernel) (by decide +kernel)) ?_
  refine mk_cons (sn_iadd K (by decide +kernel)) ?_
  refine mk_cons (sn_sld K hX hbl hbA hsk (by decide +kernel)) ?_
  refine mk_cons (sn_aload_n (k := 0) K HS (by decide +kernel) rfl) ?_
  refine mk_cons (sn_iload_n (k := 3) K (by decide +kernel) rfl) ?_
  refine mk_cons (sn_iconst (n := 3) K (by decide +kernel) (by decide +kernel)) ?_
  refine mk_cons (sn_iadd K (by decide +kernel)) ?_
  refine mk_cons (sn_sld K hX hbl hbA hsk (by decide +kernel)) ?_
  refine mk_cons (sn_callV (i := 98) K HS HY RD (CR n_Mo_code) ok_Mo_code cls_12 rfl km_Law_98 kn_Mo_code kv_Mo_code (by decide +kernel)) ?_
  refine mk_cons (sn_ceq (off := 192) K (by decide +kernel) (by decide +kernel)) ?_
  refine mk_cons (sn_iconst (n := 0) K (by decide +kernel) (by decide +kernel)) ?_
  refine mk_cons (sn_lwr K hr hb (by decide +kernel)) ?_
  refine mk_cons (sn_aload_n (k := 1) K HS (by decide +kernel) rfl) ?_
  refine mk_cons (sn_aload_n (k := 0) K HS (by decide +kernel) rfl) ?_
  refine mk_cons (sn_iload_n (k := 3) K (by decide +kernel) rfl) ?_
  refine mk_cons (sn_iconst (n := 1) K (by decide +kernel) (by decide +kernel)) ?_
  refine mk_cons (sn_iadd K (by decide +kernel)) ?_
  refine mk_cons (sn_sld K hX hbl hbA hsk (by decide +kernel)) ?_
  refine mk_cons (sn_aload_n (k := 0) K HS (by decide +kernel) rfl) ?_
  refine mk_cons (sn_iload_n (k := 3) K (by decide +kernel) rfl) ?_
  refine mk_cons (sn_iconst (n := 2) K (by decide +kernel) (by decide +kernel)) ?_
  refine mk_cons (sn_iadd K (by decide +kernel)) ?_
  refine mk_cons (sn_sld K hX hbl hbA hsk (by decide +kernel)) ?_
  refine mk_cons (sn_aload_n (k := 0) K HS (by decide +kernel) rfl) ?_
  refine mk_cons (sn_iload_n (k := 3) K (by decide +kernel) rfl) ?_
  refine mk_cons (sn_iconst (n := 3) K (by decide +kernel) (by decide +kernel)) ?_
  refine mk_cons (sn_iadd K (by decide +kernel)) ?_
  refine mk_cons (sn_sld K hX hbl hbA hsk (by decide +kernel)) ?_
  refine mk_cons (sn_callV (i := 99) K HS HY RD (CR n_LS_best) ok_LS_best cls_11 rfl km_Law_99 kn_LS_best kv_LS_best (by decide +kernel)) ?_
  refine mk_cons (sn_aload_n (k := 2) K HS (by decide +kernel) rfl) ?_
  refine mk_cons (sn_aload_n (k := 0) K HS (by decide +kernel) rfl) ?_
  refine mk_cons (sn_iload_n (k := 3) K (by decide +kernel) rfl) ?_
  refine mk_cons (sn_iconst (n := 1) K (by decide +kernel) (by decide +kernel)) ?_
  refine mk_cons (sn_iadd K (by decide +kernel)) ?_
  refine mk_cons (sn_sld K hX hbl hbA hsk (by decide +kernel)) ?_
  refine mk_cons (sn_aload_n (k := 0) K HS (by decide +kernel) rfl) ?_
  refine mk_cons (sn_iload_n (k := 3) K (by decide +kernel) rfl) ?_
  refine mk_cons (sn_iconst (n := 2) K (by decide +kernel) (by decide +kernel)) ?_
  refine mk_cons (sn_iadd K (by decide +kernel)) ?_
  refine mk_cons (sn_sld K hX hbl hbA hsk (by decide +kernel)) ?_
  refine mk_cons (sn_aload_n (k := 0) K HS (by decide +kernel) rfl) ?_
  refine mk_cons (sn_iload_n (k := 3) K (by decide +kernel) rfl) ?_
  refine mk_cons (sn_iconst (n := 3) K (by decide +kernel) (by decide +kernel)) ?_
  refine mk_cons (sn_iadd K (by decide +kernel)) ?_
  refine mk_cons (sn_sld K hX hbl hbA hsk (by decide +kernel)) ?_
  refine mk_cons (sn_callV (i := 102) K HS HY RD (CR n_Mo_best) ok_Mo_best cls_12 rfl km_Law_102 kn_Mo_best kv_Mo_best (by decide +kernel)) ?_
  refine mk_cons (sn_ceq (off := 149) K (by decide +kernel) (by decide +kernel)) ?_
  refine mk_cons (sn_iconst (n := 0) K (by decide +kernel) (by decide +kernel)) ?_
  refine mk_cons (sn_lwr K hr hb (by decide +kernel)) ?_
  refine mk_cons (sn_aload_n (k := 1) K HS (by decide +kernel) rfl) ?_
  refine mk_cons (sn_callV (i := 103) K HS HY RD (CR n_LS_clerks) ok_LS_clerks cls_11 rfl km_Law_103 kn_LS_clerks kv_LS_clerks (by decide +kernel)) ?_
  refine mk_cons (sn_aload_n (k := 2) K HS (by decide +kernel) rfl) ?_
  refine mk_cons (sn_callV (i := 106) K HS HY RD (CR n_Mo_clerks) ok_Mo_clerks cls_12 rfl km_Law_106 kn_Mo_clerks kv_Mo_clerks (by decide +kernel)) ?_
  refine mk_cons (sn_ceq (off := 136) K (by decide +kernel) (by decide +kernel)) ?_
  refine mk_cons (sn_iconst (n := 0) K (by decide +kernel) (by decide +kernel)) ?_
  refine mk_cons (sn_lwr K hr hb (by decide +kernel)) ?_
  refine mk_cons (sn_aload_n (k := 1) K HS (by decide +kernel) rfl) ?_
  refine mk_cons (sn_aload_n (k := 0) K HS (by decide +kernel) rfl) ?_
  refine mk_cons (sn_iload_n (k := 3) K (by decide +kernel) rfl) ?_
  refine mk_cons (sn_iconst (n := 1) K (by decide +kernel) (by decide +kernel)) ?_
  refine mk_cons (sn_iadd K (by decide +kernel)) ?_
  refine mk_cons (sn_sld K hX hbl hbA hsk (by decide +kernel)) ?_
  refine mk_cons (sn_callV (i := 107) K HS HY RD (CR n_LS_look) ok_LS_look cls_11 rfl km_Law_107 kn_LS_look kv_LS_look (by decide +kernel)) ?_
  refine mk_cons (sn_aload_n (k := 2) K HS (by decide +kernel) rfl) ?_
  refine mk_cons (sn_aload_n (k := 0) K HS (by decide +kernel) rfl) ?_
  refine mk_cons (sn_iload_n (k := 3) K (by decide +kernel) rfl) ?_
  refine mk_cons (sn_iconst (n := 1) K (by decide +kernel) (by decide +kernel)) ?_
  refine mk_cons (sn_iadd K (by decide +kernel)) ?_
  refine mk_cons (sn_sld K hX hbl hbA hsk (by decide +kernel)) ?_
  refine mk_cons (sn_callV (i := 110) K HS HY RD (CR n_Mo_look) ok_Mo_look cls_12 rfl km_Law_110 kn_Mo_look kv_Mo_look (by decide +kernel)) ?_
  refine mk_cons (sn_ceq (off := 113) K (by decide +kernel) (by decide +kernel)) ?_
  refine mk_cons (sn_iconst (n := 0) K (by decide +kernel) (by decide +kernel)) ?_
  refine mk_cons (sn_lwr K hr hb (by decide +kernel)) ?_
  refine mk_cons (sn_aload_n (k := 1) K HS (by decide +kernel) rfl) ?_
  refine mk_cons (sn_aload_n (k := 0) K HS (by decide +kernel) rfl) ?_
  refine mk_cons (sn_iload_n (k := 3) K (by decide +kernel) rfl) ?_
  refine mk_cons (sn_iconst (n := 1) K (by decide +kernel) (by decide +kernel)) ?_
  refine mk_cons (sn_iadd K (by decide +kernel)) ?_
  refine mk_cons (sn_sld K hX hbl hbA hsk (by decide +kernel)) ?_
  refine mk_cons (sn_aload_n (k := 0) K HS (by decide +kernel) rfl) ?_
  refine mk_cons (sn_iload_n (k := 3) K (by decide +kernel) rfl) ?_
  refine mk_cons (sn_iconst (n := 2) K (by decide +kernel) (by decide +kernel)) ?_
  refine mk_cons (sn_iadd K (by decide +kernel)) ?_
  refine mk_cons (sn_sld K hX hbl hbA hsk (by decide +kernel)) ?_
  refine mk_cons (sn_callV (i := 111) K HS HY RD (CR n_LS_cure) ok_LS_cure cls_11 rfl km_Law_111 kn_LS_cure kv_LS_cure (by decide +kernel)) ?_
  refine mk_cons (sn_aload_n (k := 2) K HS (by decide +kernel) rfl) ?_
  refine mk_cons (sn_aload_n (k := 0) K HS (by decide +kernel) rfl) ?_
  refine mk_cons (sn_iload_n (k := 3) K (by decide +kernel) rfl) ?_
  refine mk_cons (sn_iconst (n := 1) K (by decide +kernel) (by decide +kernel)) ?_
  refine mk_cons (sn_iadd K (by decide +kernel)) ?_
  refine mk_cons (sn_sld K hX hbl hbA hsk (by decide +kernel)) ?_
  refine mk_cons (sn_aload_n (k := 0) K HS (by decide +kernel) rfl) ?_
  refine mk_cons (sn_iload_n (k := 3) K (by decide +kernel) rfl) ?_
  refine mk_cons (sn_iconst (n := 2) K (by decide +kernel) (by decide +kernel)) ?_
  refine mk_cons (sn_iadd K (by decide +kernel)) ?_
  refine mk_cons (sn_sld K hX hbl hbA hsk (by decide +kernel)) ?_
  refine mk_cons (sn_callV (i := 114) K HS HY RD (CR n_Mo_cure) ok_Mo_cure cls_12 rfl km_Law_114 kn_Mo_cure kv_Mo_cure (by decide +kernel)) ?_
  refine mk_cons (sn_ceq (off := 80) K (by decide +kernel) (by decide +kernel)) ?_
  refine mk_cons (sn_iconst (n := 0) K (by decide +kernel) (by decide +kernel)) ?_
  refine mk_cons (sn_lwr K hr hb (by decide +kernel)) ?_
  refine mk_cons (sn_aload_n (k := 1) K HS (by decide +kernel) rfl) ?_
  refine mk_cons (sn_callV (i := 115) K HS HY RD (CR n_LS_undo) ok_LS_undo cls_11 rfl km_Law_115 kn_LS_undo kv_LS_undo (by decide +kernel)) ?_
  refine mk_cons (sn_aload_n (k := 2) K HS (by decide +kernel) rfl) ?_
  refine mk_cons (sn_callV (i := 119) K HS HY RD (CR n_Mo_undo) ok_Mo_undo cls_12 rfl km_Law_119 kn_Mo_undo kv_Mo_undo (by decide +kernel)) ?_
  refine mk_cons (sn_ceq (off := 67) K (by decide +kernel) (by decide +kernel)) ?_
  refine mk_cons (sn_iconst (n := 0) K (by decide +kernel) (by decide +kernel)) ?_
  refine mk_cons (sn_lwr K hr hb (by decide +kernel)) ?_
  refine mk_cons (sn_aload_n (k := 1) K HS (by decide +kernel) rfl) ?_
  refine mk_cons (sn_aload_n (k := 0) K HS (by decide +kernel) rfl) ?_
  refine mk_cons (sn_iload_n (k := 3) K (by decide +kernel) rfl) ?_
  refine mk_cons (sn_iconst (n := 1) K (by decide +kernel) (by decide +kernel)) ?_
  refine mk_cons (sn_iadd K (by decide +kernel)) ?_
  refine mk_cons (sn_sld K hX hbl hbA hsk (by decide +kernel)) ?_
  refine mk_cons (sn_ifeq (off := 7) K (by decide +kernel) (by decide +kernel)) ?_
  refine mk_cons (sn_iconst (n := 1) K (by decide +kernel) (by decide +kernel)) ?_
  refine mk_cons (sn_goto (off := 4) K (by decide +kernel) (by decide +kernel)) ?_
  refine mk_cons (sn_iconst (n := 0) K (by decide +kernel) (by decide +kernel)) ?_
  refine mk_cons (sn_callE (i := 120) K HS HY RD (CR n_LS_image) ok_LS_image cls_11 rfl km_Law_120 kn_LS_image kv_LS_image (by decide +kernel)) ?_
  refine mk_cons (sn_aload_n (k := 2) K HS (by decide +kernel) rfl) ?_
  refine mk_cons (sn_aload_n (k := 0) K HS (by decide +kernel) rfl) ?_
  refine mk_cons (sn_iload_n (k := 3) K (by decide +kernel) rfl) ?_
  refine mk_cons (sn_iconst (n := 1) K (by decide +kernel) (by decide +kernel)) ?_
  refine mk_cons (sn_iadd K (by decide +kernel)) ?_
  refine mk_cons (sn_sld K hX hbl hbA hsk (by decide +kernel)) ?_
  refine mk_cons (sn_ifeq (off := 7) K (by decide +kernel) (by decide +kernel)) ?_
  refine mk_cons (sn_iconst (n := 1) K (by decide +kernel) (by decide +kernel)) ?_
  refine mk_cons (sn_goto (off := 4) K (by decide +kernel) (by decide +kernel)) ?_
  refine mk_cons (sn_iconst (n := 0) K (by decide +kernel) (by decide +kernel)) ?_
  refine mk_cons (sn_callV (i := 124) K HS HY RD (CR n_Mo_image) ok_Mo_image cls_12 rfl km_Law_124 kn_Mo_image kv_Mo_image (by decide +kernel)) ?_
  refine mk_cons (sn_ceq (off := 28) K (by decide +kernel) (by decide +kernel)) ?_
  refine mk_cons (sn_iconst (n := 0) K (by decide +kernel) (by decide +kernel)) ?_
  refine mk_cons (sn_lwr K hr hb (by decide +kernel)) ?_
  refine mk_cons (sn_aload_n (k := 1) K HS (by decide +kernel) rfl) ?_
  refine mk_cons (sn_aload_n (k := 0) K HS (by decide +kernel) rfl) ?_
  refine mk_cons (sn_iload_n (k := 3) K (by decide +kernel) rfl) ?_
  refine mk_cons (sn_iconst (n := 1) K (by decide +kernel) (by decide +kernel)) ?_
  refine mk_cons (sn_iadd K (by decide +kernel)) ?_
  refine mk_cons (sn_sld K hX hbl hbA hsk (by decide +kernel)) ?_
  refine mk_cons (sn_callV (i := 125) K HS HY RD (CR n_LS_tells) ok_LS_tells cls_11 rfl km_Law_125 kn_LS_tells kv_LS_tells (by decide +kernel)) ?_
  refine mk_cons (sn_aload_n (k := 2) K HS (by decide +kernel) rfl) ?_
  refine mk_cons (sn_aload_n (k := 0) K HS (by decide +kernel) rfl) ?_
  refine mk_cons (sn_iload_n (k := 3) K (by decide +kernel) rfl) ?_
  refine mk_cons (sn_iconst (n := 1) K (by decide +kernel) (by decide +kernel)) ?_
  refine mk_cons (sn_iadd K (by decide +kernel)) ?_
  refine mk_cons (sn_sld K hX hbl hbA hsk (by decide +kernel)) ?_
  refine mk_cons (sn_callV (i := 128) K HS HY RD (CR n_Mo_tells) ok_Mo_tells cls_12 rfl km_Law_128 kn_Mo_tells kv_Mo_tells (by decide +kernel)) ?_
  refine mk_cons (sn_ceq (off := 5) K (by decide +kernel) (by decide +kernel)) ?_
  refine mk_cons (sn_iconst (n := 0) K (by decide +kernel) (by decide +kernel)) ?_
  refine mk_cons (sn_lwr K hr hb (by decide +kernel)) ?_
  refine mk_cons (sn_iinc (n := 7) K (by decide +kernel) (by decide +kernel) (by decide +kernel)) ?_
  refine mk_cons (sn_goto (off := (-1024)) K (by decide +kernel) (by decide +kernel)) ?_
  refine mk_cons (sn_iconst (n := 1) K (by decide +kernel) (by decide +kernel)) ?_
  refine mk_cons (sn_lwr K hr hb (by decide +kernel)) ?_
  exact mk_nil
