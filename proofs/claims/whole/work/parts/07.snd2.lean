/-! rows of arithmetic and branches, by pattern (wip/tools/gen_snd.py) -/
section SNB
variable {p : Program} {l : Launch} {e : Env} {R : Room} {s : State} {m : MethodId} {args : Array Value} {below : List Frame} {meth : Method} {c : Code} {Qs : State → Prop} {nL : Nat} {D : va_G} {cy : Nat → ClassId} {b : Nat} {sk : Nat → Value} {lim : Nat × Nat} {cc : ByteArray} {own : String} {cr : mj_C} {Q : mj_Q} {pc nx : Nat}
theorem sn_iadd (K : mk_Cx p R s m args meth c cc own nL D cy b sk lim) (hd : decode cc pc = .ok (.iadd, 1)) : mk_Sn p l e R s m args below meth c Qs nL D cy b sk lim cr Q pc (pi_iadd (pc + 1)) := fun L st u sh P I J h H locs ls h1 h2 h3 h4 h5 => by
  unfold pi_iadd at h
  split at h
  · exact lv_iadd K.1 K.2.1 hd (h H locs ls h1 h2 h3 h4 h5)
  · exact h.elim
theorem sn_isub (K : mk_Cx p R s m args meth c cc own nL D cy b sk lim) (hd : decode cc pc = .ok (.isub, 1)) : mk_Sn p l e R s m args below meth c Qs nL D cy b sk lim cr Q pc (pi_isub (pc + 1)) := fun L st u sh P I J h H locs ls h1 h2 h3 h4 h5 => by
  unfold pi_isub at h
  split at h
  · exact lv_isub K.1 K.2.1 hd (h H locs ls h1 h2 h3 h4 h5)
  · exact h.elim
theorem sn_imul (K : mk_Cx p R s m args meth c cc own nL D cy b sk lim) (hd : decode cc pc = .ok (.imul, 1)) : mk_Sn p l e R s m args below meth c Qs nL D cy b sk lim cr Q pc (pi_imul (pc + 1)) := fun L st u sh P I J h H locs ls h1 h2 h3 h4 h5 => by
  unfold pi_imul at h
  split at h
  · exact lv_imul K.1 K.2.1 hd (h H locs ls h1 h2 h3 h4 h5)
  · exact h.elim
theorem sn_iand (K : mk_Cx p R s m args meth c cc own nL D cy b sk lim) (hd : decode cc pc = .ok (.iand, 1)) : mk_Sn p l e R s m args below meth c Qs nL D cy b sk lim cr Q pc (pi_iand (pc + 1)) := fun L st u sh P I J h H locs ls h1 h2 h3 h4 h5 => by
  unfold pi_iand at h
  split at h
  · exact lv_iand K.1 K.2.1 hd (h H locs ls h1 h2 h3 h4 h5)
  · exact h.elim
theorem sn_ior (K : mk_Cx p R s m args meth c cc own nL D cy b sk lim) (hd : decode cc pc = .ok (.ior, 1)) : mk_Sn p l e R s m args below meth c Qs nL D cy b sk lim cr Q pc (pi_ior (pc + 1)) := fun L st u sh P I J h H locs ls h1 h2 h3 h4 h5 => by
  unfold pi_ior at h
  split at h
  · exact lv_ior K.1 K.2.1 hd (h H locs ls h1 h2 h3 h4 h5)
  · exact h.elim
theorem sn_ixor (K : mk_Cx p R s m args meth c cc own nL D cy b sk lim) (hd : decode cc pc = .ok (.ixor, 1)) : mk_Sn p l e R s m args below meth c Qs nL D cy b sk lim cr Q pc (pi_ixor (pc + 1)) := fun L st u sh P I J h H locs ls h1 h2 h3 h4 h5 => by
  unfold pi_ixor at h
  split at h
  · exact lv_ixor K.1 K.2.1 hd (h H locs ls h1 h2 h3 h4 h5)
  · exact h.elim
theorem sn_ishl (K : mk_Cx p R s m args meth c cc own nL D cy b sk lim) (hd : decode cc pc = .ok (.ishl, 1)) : mk_Sn p l e R s m args below meth c Qs nL D cy b sk lim cr Q pc (pi_ishl (pc + 1)) := fun L st u sh P I J h H locs ls h1 h2 h3 h4 h5 => by
  unfold pi_ishl at h
  split at h
  · exact lv_ishl K.1 K.2.1 hd (h H locs ls h1 h2 h3 h4 h5)
  · exact h.elim
theorem sn_ishr (K : mk_Cx p R s m args meth c cc own nL D cy b sk lim) (hd : decode cc pc = .ok (.ishr, 1)) : mk_Sn p l e R s m args below meth c Qs nL D cy b sk lim cr Q pc (pi_ishr (pc + 1)) := fun L st u sh P I J h H locs ls h1 h2 h3 h4 h5 => by
  unfold pi_ishr at h
  split at h
  · exact lv_ishr K.1 K.2.1 hd (h H locs ls h1 h2 h3 h4 h5)
  · exact h.elim
theorem sn_ladd (K : mk_Cx p R s m args meth c cc own nL D cy b sk lim) (hd : decode cc pc = .ok (.ladd, 1)) : mk_Sn p l e R s m args below meth c Qs nL D cy b sk lim cr Q pc (pi_ladd (pc + 1)) := fun L st u sh P I J h H locs ls h1 h2 h3 h4 h5 => by
  unfold pi_ladd at h
  split at h
  · exact lv_ladd K.1 K.2.1 hd (h H locs ls h1 h2 h3 h4 h5)
  · exact h.elim
theorem sn_lsub (K : mk_Cx p R s m args meth c cc own nL D cy b sk lim) (hd : decode cc pc = .ok (.lsub, 1)) : mk_Sn p l e R s m args below meth c Qs nL D cy b sk lim cr Q pc (pi_lsub (pc + 1)) := fun L st u sh P I J h H locs ls h1 h2 h3 h4 h5 => by
  unfold pi_lsub at h
  split at h
  · exact lv_lsub K.1 K.2.1 hd (h H locs ls h1 h2 h3 h4 h5)
  · exact h.elim
theorem sn_lmul (K : mk_Cx p R s m args meth c cc own nL D cy b sk lim) (hd : decode cc pc = .ok (.lmul, 1)) : mk_Sn p l e R s m args below meth c Qs nL D cy b sk lim cr Q pc (pi_lmul (pc + 1)) := fun L st u sh P I J h H locs ls h1 h2 h3 h4 h5 => by
  unfold pi_lmul at h
  split at h
  · exact lv_lmul K.1 K.2.1 hd (h H locs ls h1 h2 h3 h4 h5)
  · exact h.elim
theorem sn_lcmp (K : mk_Cx p R s m args meth c cc own nL D cy b sk lim) (hd : decode cc pc = .ok (.lcmp, 1)) : mk_Sn p l e R s m args below meth c Qs nL D cy b sk lim cr Q pc (pi_lcmp (pc + 1)) := fun L st u sh P I J h H locs ls h1 h2 h3 h4 h5 => by
  unfold pi_lcmp at h
  split at h
  · exact W.lcmp K.1 K.2.1 hd (h H locs ls h1 h2 h3 h4 h5)
  · exact h.elim
theorem sn_iushr (K : mk_Cx p R s m args meth c cc own nL D cy b sk lim) (hd : decode cc pc = .ok (.iushr, 1)) : mk_Sn p l e R s m args below meth c Qs nL D cy b sk lim cr Q pc (pi_iushr (pc + 1)) := fun L st u sh P I J h H locs ls h1 h2 h3 h4 h5 => by
  unfold pi_iushr at h
  split at h
  · exact lv_iushr K.1 K.2.1 hd rfl (h H locs ls h1 h2 h3 h4 h5)
  · exact h.elim
theorem sn_i2l (K : mk_Cx p R s m args meth c cc own nL D cy b sk lim) (hd : decode cc pc = .ok (.i2l, 1)) : mk_Sn p l e R s m args below meth c Qs nL D cy b sk lim cr Q pc (pi_i2l (pc + 1)) := fun L st u sh P I J h H locs ls h1 h2 h3 h4 h5 => by
  unfold pi_i2l at h
  split at h
  · exact lv_i2l K.1 K.2.1 hd rfl (h H locs ls h1 h2 h3 h4 h5)
  · exact h.elim
theorem sn_i2c (K : mk_Cx p R s m args meth c cc own nL D cy b sk lim) (hd : decode cc pc = .ok (.i2c, 1)) : mk_Sn p l e R s m args below meth c Qs nL D cy b sk lim cr Q pc (pi_i2c (pc + 1)) := fun L st u sh P I J h H locs ls h1 h2 h3 h4 h5 => by
  unfold pi_i2c at h
  split at h
  · exact lv_i2c K.1 K.2.1 hd rfl (h H locs ls h1 h2 h3 h4 h5)
  · exact h.elim
theorem sn_i2b (K : mk_Cx p R s m args meth c cc own nL D cy b sk lim) (hd : decode cc pc = .ok (.i2b, 1)) : mk_Sn p l e R s m args below meth c Qs nL D cy b sk lim cr Q pc (pi_i2b (pc + 1)) := fun L st u sh P I J h H locs ls h1 h2 h3 h4 h5 => by
  unfold pi_i2b at h
  split at h
  · exact lv_i2b K.1 K.2.1 hd rfl (h H locs ls h1 h2 h3 h4 h5)
  · exact h.elim
theorem sn_idiv (K : mk_Cx p R s m args meth c cc own nL D cy b sk lim) (hd : decode cc pc = .ok (.idiv, 1)) : mk_Sn p l e R s m args below meth c Qs nL D cy b sk lim cr Q pc (pi_idiv (pc + 1)) := fun L st u sh P I J h H locs ls h1 h2 h3 h4 h5 => by
  unfold pi_idiv at h
  split at h
  · exact lv_idiv K.1 K.2.1 hd h.1 (h.2 H locs ls h1 h2 h3 h4 h5)
  · exact h.elim
theorem sn_irem (K : mk_Cx p R s m args meth c cc own nL D cy b sk lim) (hd : decode cc pc = .ok (.irem, 1)) : mk_Sn p l e R s m args below meth c Qs nL D cy b sk lim cr Q pc (pi_irem (pc + 1)) := fun L st u sh P I J h H locs ls h1 h2 h3 h4 h5 => by
  unfold pi_irem at h
  split at h
  · exact lv_irem K.1 K.2.1 hd h.1 (h.2 H locs ls h1 h2 h3 h4 h5)
  · exact h.elim
theorem sn_dup (K : mk_Cx p R s m args meth c cc own nL D cy b sk lim) (hd : decode cc pc = .ok (.dup, 1)) : mk_Sn p l e R s m args below meth c Qs nL D cy b sk lim cr Q pc (pi_dup (pc + 1)) := fun L st u sh P I J h H locs ls h1 h2 h3 h4 h5 => by
  unfold pi_dup at h
  split at h
  · exact lv_dup K.1 K.2.1 hd rfl (h H locs ls h1 h2 h3 h4 h5)
  · exact lv_dup K.1 K.2.1 hd rfl (h H locs ls h1 h2 h3 h4 h5)
  · exact h.elim
theorem sn_pop (K : mk_Cx p R s m args meth c cc own nL D cy b sk lim) (hd : decode cc pc = .ok (.pop, 1)) : mk_Sn p l e R s m args below meth c Qs nL D cy b sk lim cr Q pc (pi_pop (pc + 1)) := fun L st u sh P I J h H locs ls h1 h2 h3 h4 h5 => by
  unfold pi_pop at h
  split at h
  · exact lv_pop K.1 K.2.1 hd rfl (h H locs ls h1 h2 h3 h4 h5)
  · exact lv_pop K.1 K.2.1 hd rfl (h H locs ls h1 h2 h3 h4 h5)
  · exact h.elim
theorem sn_dup2 (K : mk_Cx p R s m args meth c cc own nL D cy b sk lim) (hd : decode cc pc = .ok (.dup2, 1)) : mk_Sn p l e R s m args below meth c Qs nL D cy b sk lim cr Q pc (pi_dup2 (pc + 1)) := fun L st u sh P I J h H locs ls h1 h2 h3 h4 h5 => by
  unfold pi_dup2 at h
  split at h
  · exact lv_dup2_11 K.1 K.2.1 hd rfl rfl (h H locs ls h1 h2 h3 h4 h5)
  · exact h.elim
theorem sn_ifeq (K : mk_Cx p R s m args meth c cc own nL D cy b sk lim) {off : Int} {t : Nat} (hd : decode cc pc = .ok (.ifCond .eq off, 3)) (ht : (pc : Int) + off = (t : Int)) : mk_Sn p l e R s m args below meth c Qs nL D cy b sk lim cr Q pc (pi_ifeq t (pc + 3)) := fun L st u sh P I J h H locs ls h1 h2 h3 h4 h5 => by
  unfold pi_ifeq at h
  split at h
  · exact lv_if_eq K.1 K.2.1 hd ht (fun q => h.1 q H locs ls h1 h2 h3 h4 h5) (fun q => h.2 q H locs ls h1 h2 h3 h4 h5)
  · exact h.elim
theorem sn_ceq (K : mk_Cx p R s m args meth c cc own nL D cy b sk lim) {off : Int} {t : Nat} (hd : decode cc pc = .ok (.if_icmp .eq off, 3)) (ht : (pc : Int) + off = (t : Int)) : mk_Sn p l e R s m args below meth c Qs nL D cy b sk lim cr Q pc (pi_ceq t (pc + 3)) := fun L st u sh P I J h H locs ls h1 h2 h3 h4 h5 => by
  unfold pi_ceq at h
  split at h
  · exact lv_icmp_eq K.1 K.2.1 hd ht (fun q => h.1 q H locs ls h1 h2 h3 h4 h5) (fun q => h.2 q H locs ls h1 h2 h3 h4 h5)
  · exact h.elim
theorem sn_ifne (K : mk_Cx p R s m args meth c cc own nL D cy b sk lim) {off : Int} {t : Nat} (hd : decode cc pc = .ok (.ifCond .ne off, 3)) (ht : (pc : Int) + off = (t : Int)) : mk_Sn p l e R s m args below meth c Qs nL D cy b sk lim cr Q pc (pi_ifne t (pc + 3)) := fun L st u sh P I J h H locs ls h1 h2 h3 h4 h5 => by
  unfold pi_ifne at h
  split at h
  · exact lv_if_ne K.1 K.2.1 hd ht (fun q => h.1 q H locs ls h1 h2 h3 h4 h5) (fun q => h.2 q H locs ls h1 h2 h3 h4 h5)
  · exact h.elim
theorem sn_cne (K : mk_Cx p R s m args meth c cc own nL D cy b sk lim) {off : Int} {t : Nat} (hd : decode cc pc = .ok (.if_icmp .ne off, 3)) (ht : (pc : Int) + off = (t : Int)) : mk_Sn p l e R s m args below meth c Qs nL D cy b sk lim cr Q pc (pi_cne t (pc + 3)) := fun L st u sh P I J h H locs ls h1 h2 h3 h4 h5 => by
  unfold pi_cne at h
  split at h
  · exact lv_icmp_ne K.1 K.2.1 hd ht (fun q => h.1 q H locs ls h1 h2 h3 h4 h5) (fun q => h.2 q H locs ls h1 h2 h3 h4 h5)
  · exact h.elim
theorem sn_iflt (K : mk_Cx p R s m args meth c cc own nL D cy b sk lim) {off : Int} {t : Nat} (hd : decode cc pc = .ok (.ifCond .lt off, 3)) (ht : (pc : Int) + off = (t : Int)) : mk_Sn p l e R s m args below meth c Qs nL D cy b sk lim cr Q pc (pi_iflt t (pc + 3)) := fun L st u sh P I J h H locs ls h1 h2 h3 h4 h5 => by
  unfold pi_iflt at h
  split at h
  · exact lv_if_lt K.1 K.2.1 hd ht (fun q => h.1 q H locs ls h1 h2 h3 h4 h5) (fun q => h.2 q H locs ls h1 h2 h3 h4 h5)
  · exact h.elim
theorem sn_clt (K : mk_Cx p R s m args meth c cc own nL D cy b sk lim) {off : Int} {t : Nat} (hd : decode cc pc = .ok (.if_icmp .lt off, 3)) (ht : (pc : Int) + off = (t : Int)) : mk_Sn p l e R s m args below meth c Qs nL D cy b sk lim cr Q pc (pi_clt t (pc + 3)) := fun L st u sh P I J h H locs ls h1 h2 h3 h4 h5 => by
  unfold pi_clt at h
  split at h
  · exact lv_icmp_lt K.1 K.2.1 hd ht (fun q => h.1 q H locs ls h1 h2 h3 h4 h5) (fun q => h.2 q H locs ls h1 h2 h3 h4 h5)
  · exact h.elim
theorem sn_ifge (K : mk_Cx p R s m args meth c cc own nL D cy b sk lim) {off : Int} {t : Nat} (hd : decode cc pc = .ok (.ifCond .ge off, 3)) (ht : (pc : Int) + off = (t : Int)) : mk_Sn p l e R s m args below meth c Qs nL D cy b sk lim cr Q pc (pi_ifge t (pc + 3)) := fun L st u sh P I J h H locs ls h1 h2 h3 h4 h5 => by
  unfold pi_ifge at h
  split at h
  · exact lv_if_ge K.1 K.2.1 hd ht (fun q => h.1 q H locs ls h1 h2 h3 h4 h5) (fun q => h.2 q H locs ls h1 h2 h3 h4 h5)
  · exact h.elim
theorem sn_cge (K : mk_Cx p R s m args meth c cc own nL D cy b sk lim) {off : Int} {t : Nat} (hd : decode cc pc = .ok (.if_icmp .ge off, 3)) (ht : (pc : Int) + off = (t : Int)) : mk_Sn p l e R s m args below meth c Qs nL D cy b sk lim cr Q pc (pi_cge t (pc + 3)) := fun L st u sh P I J h H locs ls h1 h2 h3 h4 h5 => by
  unfold pi_cge at h
  split at h
  · exact lv_icmp_ge K.1 K.2.1 hd ht (fun q => h.1 q H locs ls h1 h2 h3 h4 h5) (fun q => h.2 q H locs ls h1 h2 h3 h4 h5)
  · exact h.elim
theorem sn_ifgt (K : mk_Cx p R s m args meth c cc own nL D cy b sk lim) {off : Int} {t : Nat} (hd : decode cc pc = .ok (.ifCond .gt off, 3)) (ht : (pc : Int) + off = (t : Int)) : mk_Sn p l e R s m args below meth c Qs nL D cy b sk lim cr Q pc (pi_ifgt t (pc + 3)) := fun L st u sh P I J h H locs ls h1 h2 h3 h4 h5 => by
  unfold pi_ifgt at h
  split at h
  · exact lv_if_gt K.1 K.2.1 hd ht (fun q => h.1 q H locs ls h1 h2 h3 h4 h5) (fun q => h.2 q H locs ls h1 h2 h3 h4 h5)
  · exact h.elim
theorem sn_cgt (K : mk_Cx p R s m args meth c cc own nL D cy b sk lim) {off : Int} {t : Nat} (hd : decode cc pc = .ok (.if_icmp .gt off, 3)) (ht : (pc : Int) + off = (t : Int)) : mk_Sn p l e R s m args below meth c Qs nL D cy b sk lim cr Q pc (pi_cgt t (pc + 3)) := fun L st u sh P I J h H locs ls h1 h2 h3 h4 h5 => by
  unfold pi_cgt at h
  split at h
  · exact lv_icmp_gt K.1 K.2.1 hd ht (fun q => h.1 q H locs ls h1 h2 h3 h4 h5) (fun q => h.2 q H locs ls h1 h2 h3 h4 h5)
  · exact h.elim
theorem sn_ifle (K : mk_Cx p R s m args meth c cc own nL D cy b sk lim) {off : Int} {t : Nat} (hd : decode cc pc = .ok (.ifCond .le off, 3)) (ht : (pc : Int) + off = (t : Int)) : mk_Sn p l e R s m args below meth c Qs nL D cy b sk lim cr Q pc (pi_ifle t (pc + 3)) := fun L st u sh P I J h H locs ls h1 h2 h3 h4 h5 => by
  unfold pi_ifle at h
  split at h
  · exact lv_if_le K.1 K.2.1 hd ht (fun q => h.1 q H locs ls h1 h2 h3 h4 h5) (fun q => h.2 q H locs ls h1 h2 h3 h4 h5)
  · exact h.elim
theorem sn_cle (K : mk_Cx p R s m args meth c cc own nL D cy b sk lim) {off : Int} {t : Nat} (hd : decode cc pc = .ok (.if_icmp .le off, 3)) (ht : (pc : Int) + off = (t : Int)) : mk_Sn p l e R s m args below meth c Qs nL D cy b sk lim cr Q pc (pi_cle t (pc + 3)) := fun L st u sh P I J h H locs ls h1 h2 h3 h4 h5 => by
  unfold pi_cle at h
  split at h
  · exact lv_icmp_le K.1 K.2.1 hd ht (fun q => h.1 q H locs ls h1 h2 h3 h4 h5) (fun q => h.2 q H locs ls h1 h2 h3 h4 h5)
  · exact h.elim
theorem sn_goto (K : mk_Cx p R s m args meth c cc own nL D cy b sk lim) {off : Int} {t : Nat} (hd : decode cc pc = .ok (.goto off, 3)) (ht : (pc : Int) + off = (t : Int)) : mk_Sn p l e R s m args below meth c Qs nL D cy b sk lim cr Q pc (pi_goto t) := fun L st u sh P I J h H locs ls h1 h2 h3 h4 h5 => by
  exact lv_goto K.1 K.2.1 hd ht (h H locs ls h1 h2 h3 h4 h5)
theorem sn_ifnn (K : mk_Cx p R s m args meth c cc own nL D cy b sk lim) {off : Int} {t : Nat} (hd : decode cc pc = .ok (.ifnonnull off, 3)) (ht : (pc : Int) + off = (t : Int)) : mk_Sn p l e R s m args below meth c Qs nL D cy b sk lim cr Q pc (pi_ifnn t (pc + 3)) := fun L st u sh P I J h H locs ls h1 h2 h3 h4 h5 => by
  unfold pi_ifnn at h
  split at h
  · exact lv_ifnonnull K.1 K.2.1 hd ht (h H locs ls h1 h2 h3 h4 h5)
  · exact lv_ifnonnullN K.1 K.2.1 hd (h H locs ls h1 h2 h3 h4 h5)
  · exact h.elim
/-- where a switch goes -/
def mk_tg (x : Int32) : List (Int32 × Nat) → Nat → Nat
  | [], d => d
  | (v, t) :: r, d => if x = v then t else mk_tg x r d
theorem mk_sw_tg {x : Int32} {K : Nat → Prop} : ∀ (ps : List (Int32 × Nat)) (d : Nat), mj_sw x ps d K → K (mk_tg x ps d)
  | [], d, h => h
  | (v, t) :: r, d, h => by
    unfold mk_tg
    by_cases q : x = v
    · rw [if_pos q]; exact h.1 q
    · rw [if_neg q]; exact mk_sw_tg r d (h.2 q)
/-- a lookupswitch's pairs as targets -/
def mk_lp (pc : Nat) (qs : List (Int × Int)) : List (Int32 × Nat) := qs.map (fun q => (Int32.ofInt q.1, ((pc : Int) + q.2).toNat))
theorem mk_lp_off {x : Int32} {dflt : Int} {pc d : Nat} (hd : (pc : Int) + dflt = (d : Int)) : ∀ (qs : List (Int × Int)), (∀ q ∈ qs, (Int32.ofInt q.1).toInt = q.1 ∧ 0 ≤ (pc : Int) + q.2) → (pc : Int) + Op.lookupswitch.offset qs dflt x.toInt = (mk_tg x (mk_lp pc qs) d : Int)
  | [], _ => hd
  | (k, o) :: r, h => by
    have h0 := h (k, o) List.mem_cons_self
    have ih := mk_lp_off (x := x) hd r (fun q hq => h q (List.mem_cons_of_mem _ hq))
    show _ = (mk_tg x ((Int32.ofInt k, ((pc : Int) + o).toNat) :: mk_lp pc r) d : Int)
    unfold mk_tg
    by_cases q : x = Int32.ofInt k
    · rw [if_pos q]
      have e : x.toInt = k := by rw [q]; exact h0.1
      have e2 : Op.lookupswitch.offset ((k, o) :: r) dflt x.toInt = o := by simp [Op.lookupswitch.offset, e]
      rw [e2]
      have h2 : 0 ≤ (pc : Int) + o := h0.2
      omega
    · rw [if_neg q]
      have e : ¬ k = x.toInt := fun z => q (Int32.toInt_inj.mp (by rw [← z]; exact h0.1.symm))
      have e2 : Op.lookupswitch.offset ((k, o) :: r) dflt x.toInt = Op.lookupswitch.offset r dflt x.toInt := by
        simp only [Op.lookupswitch.offset]
        have e3 : ¬ x.toInt = k := fun z => e z.symm
        simp [e, e3]
      rw [e2]
      exact ih
theorem sn_lsw (K : mk_Cx p R s m args meth c cc own nL D cy b sk lim) {dflt : Int} {ps : Array (Int × Int)} {len d : Nat} {tp : List (Int32 × Nat)} (hd : decode cc pc = .ok (.lookupswitch dflt ps, len)) (hp : (ps.toList.zip (ps.toList.drop 1)).all (fun (a, next) => a.1 < next.1) = true) (hq : ∀ q ∈ ps.toList, (Int32.ofInt q.1).toInt = q.1 ∧ 0 ≤ (pc : Int) + q.2) (ht : (pc : Int) + dflt = (d : Int)) (htp : mk_lp pc ps.toList = tp) : mk_Sn p l e R s m args below meth c Qs nL D cy b sk lim cr Q pc (pi_sw tp d) := fun L st u sh P I J h H locs ls h1 h2 h3 h4 h5 => by
  unfold pi_sw at h
  split at h
  · rename_i x r
    subst htp
    have h := mk_sw_tg _ _ h
    exact lv_lookup K.1 K.2.1 hd hp rfl (mk_lp_off ht _ hq) (h H locs ls h1 h2 h3 h4 h5)
  · exact h.elim
/-- a tableswitch's offsets as targets -/
def mk_tp (pc : Nat) : Int → List Int → List (Int32 × Nat)
  | _, [] => []
  | lo, f :: r => (Int32.ofInt lo, ((pc : Int) + f).toNat) :: mk_tp pc (lo + 1) r
theorem mk_tp_in {x : Int32} {pc d : Nat} : ∀ (fs : List Int) (lo : Int), (∀ i : Nat, i < fs.length → (Int32.ofInt (lo + i)).toInt = lo + i) → (∀ f ∈ fs, 0 ≤ (pc : Int) + f) → ∀ (i : Nat) (f : Int), fs[i]? = some f → x.toInt = lo + i → (pc : Int) + f = (mk_tg x (mk_tp pc lo fs) d : Int)
  | [], lo, h1, h2, i, f, h, e => by simp at h
  | g :: r, lo, h1, h2, i, f, h, e => by
    unfold mk_tp mk_tg
    cases i with
    | zero =>
      have e0 : x = Int32.ofInt lo := Int32.toInt_inj.mp (by rw [e]; have := h1 0 (by simp); simpa using this.symm)
      rw [if_pos e0]
      simp at h
      subst h
      have := h2 g List.mem_cons_self
      omega
    | succ i =>
      have hi : i < r.length := by
        have := (List.getElem?_eq_some_iff.mp h).1
        simpa using this
      have en : ¬ x = Int32.ofInt lo := fun z => by
        have a0 := h1 0 (by simp)
        rw [z] at e
        simp only [Int.natCast_zero, Int.add_zero] at a0
        rw [a0] at e
        omega
      rw [if_neg en]
      exact mk_tp_in r (lo + 1) (fun j hj => by have := h1 (j + 1) (by simp; omega); rw [show lo + 1 + (j : Int) = lo + ((j + 1 : Nat) : Int) by omega]; exact this) (fun f hf => h2 f (List.mem_cons_of_mem _ hf)) i f (by simpa using h) (by rw [e]; omega)
theorem mk_tp_out {x : Int32} {pc d : Nat} : ∀ (fs : List Int) (lo : Int), (∀ i : Nat, i < fs.length → (Int32.ofInt (lo + i)).toInt = lo + i) → (x.toInt < lo ∨ lo + fs.length ≤ x.toInt) → mk_tg x (mk_tp pc lo fs) d = d
  | [], lo, h1, h => rfl
  | g :: r, lo, h1, h => by
    unfold mk_tp mk_tg
    have en : ¬ x = Int32.ofInt lo := fun z => by
      have a0 := h1 0 (by simp)
      simp only [Int.natCast_zero, Int.add_zero] at a0
      rw [z, a0] at h
      simp at h
      omega
    rw [if_neg en]
    exact mk_tp_out r (lo + 1) (fun j hj => by have := h1 (j + 1) (by simp; omega); rw [show lo + 1 + (j : Int) = lo + ((j + 1 : Nat) : Int) by omega]; exact this) (by simp at h; omega)
theorem sn_tsw (K : mk_Cx p R s m args meth c cc own nL D cy b sk lim) {dflt lo hi : Int} {offs : Array Int} {len d : Nat} {tp : List (Int32 × Nat)} (hd : decode cc pc = .ok (.tableswitch dflt lo hi offs, len)) (hz : lo + offs.size = hi + 1) (hw : ∀ i : Nat, i < offs.toList.length → (Int32.ofInt (lo + i)).toInt = lo + i) (hq : ∀ f ∈ offs.toList, 0 ≤ (pc : Int) + f) (ht : (pc : Int) + dflt = (d : Int)) (htp : mk_tp pc lo offs.toList = tp) : mk_Sn p l e R s m args below meth c Qs nL D cy b sk lim cr Q pc (pi_sw tp d) := fun L st u sh P I J h H locs ls h1 h2 h3 h4 h5 => by
  unfold pi_sw at h
  split at h
  · rename_i x r
    subst htp
    have h := mk_sw_tg _ _ h
    by_cases ho : x.toInt < lo ∨ hi < x.toInt
    · rw [mk_tp_out _ _ hw (by simp only [Array.length_toList]; omega)] at h
      exact lv_tableOut K.1 K.2.1 hd ho ht (h H locs ls h1 h2 h3 h4 h5)
    · have hlt : (x.toInt - lo).toNat < offs.size := by omega
      have hg : offs[(x.toInt - lo).toNat]? = some offs[(x.toInt - lo).toNat] := Array.getElem?_eq_getElem hlt
      exact lv_tableIn K.1 K.2.1 hd (fun q => ho (Or.inl q)) (fun q => ho (Or.inr q)) hg (mk_tp_in _ _ hw hq (x.toInt - lo).toNat _ (by rw [← hg]; simp) (by omega)) (h H locs ls h1 h2 h3 h4 h5)
  · exact h.elim
end SNB
