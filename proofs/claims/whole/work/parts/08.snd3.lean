/-! rows of fields, rows of numbers and references, new cells -/
def mk_df (c : Nat) : Value := match c with
  | 0 => .int 0
  | 3 => .int 0
  | 1 => .long 0
  | _ => .null
/-- a kind of object: its name, fields, types -/
def mk_cls (ci : Nat) (r : vw_C) (ty0 : Nat → FieldType) : Prop := (ci < 13 ∧ mk_cl[ci]? = some r) ∧ (∀ w ∈ u_ws r.1 r.2.1 r.2.2, w ∈ mk_wt) ∧ (∀ k, k < r.2.2 → parseFieldDescriptor (r.2.1 k).2.2.1 = some (ty0 k)) ∧ (∀ a, a < r.2.2 → ∀ b, b < r.2.2 → a ≠ b → (r.2.1 a).2.1 ≠ (r.2.1 b).2.1) ∧ (mk_ft.getD ci []).length = r.2.2 ∧ (∀ k, k < r.2.2 → defaultValue (ty0 k) = mk_df ((mk_ft.getD ci []).getD k 2)) ∧ ∀ k, k < r.2.2 → (r.2.1 k).1 = r.1
theorem cls_0 : mk_cls 0 (RX0, TX0, 3) tyX0 := ⟨⟨by decide, rfl⟩, inX0, tyX0_ok, nmX0, by decide, by decide +kernel, by decide +kernel⟩
theorem cls_1 : mk_cls 1 (RX1, TX1, 5) tyX1 := ⟨⟨by decide, rfl⟩, inX1, tyX1_ok, nmX1, by decide, by decide +kernel, by decide +kernel⟩
theorem cls_2 : mk_cls 2 (RX2, TX2, 7) tyX2 := ⟨⟨by decide, rfl⟩, inX2, tyX2_ok, nmX2, by decide, by decide +kernel, by decide +kernel⟩
theorem cls_3 : mk_cls 3 (RX3, TX3, 2) tyX3 := ⟨⟨by decide, rfl⟩, inX3, tyX3_ok, nmX3, by decide, by decide +kernel, by decide +kernel⟩
theorem cls_4 : mk_cls 4 (RX4, TX4, 9) tyX4 := ⟨⟨by decide, rfl⟩, inX4, tyX4_ok, nmX4, by decide, by decide +kernel, by decide +kernel⟩
theorem cls_5 : mk_cls 5 (RX5, TX5, 7) tyX5 := ⟨⟨by decide, rfl⟩, inX5, tyX5_ok, nmX5, by decide, by decide +kernel, by decide +kernel⟩
theorem cls_6 : mk_cls 6 (RX6, TX6, 7) tyX6 := ⟨⟨by decide, rfl⟩, inX6, tyX6_ok, nmX6, by decide, by decide +kernel, by decide +kernel⟩
theorem cls_7 : mk_cls 7 (RX7, TX7, 8) tyX7 := ⟨⟨by decide, rfl⟩, inX7, tyX7_ok, nmX7, by decide, by decide +kernel, by decide +kernel⟩
theorem cls_8 : mk_cls 8 (RX8, TX8, 8) tyX8 := ⟨⟨by decide, rfl⟩, inX8, tyX8_ok, nmX8, by decide, by decide +kernel, by decide +kernel⟩
theorem cls_9 : mk_cls 9 (RX9, TX9, 5) tyX9 := ⟨⟨by decide, rfl⟩, inX9, tyX9_ok, nmX9, by decide, by decide +kernel, by decide +kernel⟩
theorem cls_10 : mk_cls 10 (RX10, TX10, 17) tyX10 := ⟨⟨by decide, rfl⟩, inX10, tyX10_ok, nmX10, by decide, by decide +kernel, by decide +kernel⟩
theorem cls_11 : mk_cls 11 (RX11, TX11, 11) tyX11 := ⟨⟨by decide, rfl⟩, inX11, tyX11_ok, nmX11, by decide, by decide +kernel, by decide +kernel⟩
theorem cls_12 : mk_cls 12 (RX12, TX12, 40) tyX12 := ⟨⟨by decide, rfl⟩, inX12, tyX12_ok, nmX12, by decide, by decide +kernel, by decide +kernel⟩
theorem mk_tv_rf {b : Nat} {sk : Nat → Value} (r : Option Nat) : mk_tv b sk (va_rf r) = va_rf (r.map (b + ·)) := by cases r <;> rfl
theorem mj_u_row {α : Type} (f : Nat → Nat → α) (a k : Nat) (v : α) {c : Nat} (h : c ≠ a) : mj_u f a k v c = f c := by funext j; simp [mj_u, h]
theorem mj_w_row {α : Type} (f : Nat → Nat → α) (a : Nat) (r : Nat → α) {c : Nat} (h : c ≠ a) : mj_w f a r c = f c := by simp [mj_w, h]
section SNC
variable {p : Program} {l : Launch} {e : Env} {R : Room} {s : State} {m : MethodId} {args : Array Value} {below : List Frame} {meth : Method} {c : Code} {Qs : State → Prop} {nL : Nat} {D : va_G} {cy : Nat → ClassId} {b : Nat} {sk : Nat → Value} {lim : Nat × Nat} {cc : ByteArray} {own : String} {cr : mj_C} {Q : mj_Q} {pc nx : Nat}
theorem mk_same {s : State} {C O n d : String} (h : O = C) : ∀ x, s.fieldFound? O n d = some x → s.fieldFound? C n d = some x := fun x q => by rw [← h]; exact q
theorem sn_getI (K : mk_Cx p R s m args meth c cc own nL D cy b sk lim) {ci i k c0 : Nat} {r : vw_C} {ty0 : Nat → FieldType} (C : mk_cls ci r ty0) (hk : k < r.2.2) (hf : (mk_ft.getD ci [])[k]? = some c0) (h0 : c0 = 0 ∨ c0 = 3) (hl : Cond.fieldLink own i r.1 (r.2.1 k).2.1 (r.2.1 k).2.2.1 ∈ mk_wt) (hd : decode cc pc = .ok (.getfield i, 3)) : mk_Sn p l e R s m args below meth c Qs nL D cy b sk lim cr Q pc (pi_getI ci k (pc + 3)) := fun L st u sh P I J h H locs ls h1 h2 h3 h4 h5 => by
  unfold pi_getI at h
  split at h
  · rename_i a st
    have hq := mk_sh h.1 (by have := C.1.1; omega)
    refine va_get (D := D) (ci := ci) (v := .int (I a k)) (C := r.1) (T := r.2.1) (N := r.2.2) K.1 K.2.1 K.2.2.2.2.1 C.2.1 K.2.2.2.1 K.2.2.2.2.2.1 h4 a (by rw [mk_W_at hq, mk_E_obj C.1.1]) C.1.2 k hk (K.2.2.2.2.1 _ hl) (mk_same (C.2.2.2.2.2.2 k hk)) ?_ hd (h.2 H locs ls h1 h2 h3 h4 h5)
    rw [mk_fs_at, hf]
    rcases h0 with rfl | rfl <;> simp [mk_fv]
  · exact h.elim
theorem sn_getJ (K : mk_Cx p R s m args meth c cc own nL D cy b sk lim) {ci i k : Nat} {r : vw_C} {ty0 : Nat → FieldType} (C : mk_cls ci r ty0) (hk : k < r.2.2) (hf : (mk_ft.getD ci [])[k]? = some 1) (hl : Cond.fieldLink own i r.1 (r.2.1 k).2.1 (r.2.1 k).2.2.1 ∈ mk_wt) (hd : decode cc pc = .ok (.getfield i, 3)) : mk_Sn p l e R s m args below meth c Qs nL D cy b sk lim cr Q pc (pi_getJ ci k (pc + 3)) := fun L st u sh P I J h H locs ls h1 h2 h3 h4 h5 => by
  unfold pi_getJ at h
  split at h
  · rename_i a st
    have hq := mk_sh h.1 (by have := C.1.1; omega)
    refine va_get (D := D) (ci := ci) (v := .long (J a k)) (C := r.1) (T := r.2.1) (N := r.2.2) K.1 K.2.1 K.2.2.2.2.1 C.2.1 K.2.2.2.1 K.2.2.2.2.2.1 h4 a (by rw [mk_W_at hq, mk_E_obj C.1.1]) C.1.2 k hk (K.2.2.2.2.1 _ hl) (mk_same (C.2.2.2.2.2.2 k hk)) ?_ hd (h.2 H locs ls h1 h2 h3 h4 h5)
    rw [mk_fs_at, hf]
    simp [mk_fv]
  · exact h.elim
theorem sn_getR (K : mk_Cx p R s m args meth c cc own nL D cy b sk lim) {ci i k : Nat} {r : vw_C} {ty0 : Nat → FieldType} (C : mk_cls ci r ty0) (hk : k < r.2.2) (hf : (mk_ft.getD ci [])[k]? = some 2) (hl : Cond.fieldLink own i r.1 (r.2.1 k).2.1 (r.2.1 k).2.2.1 ∈ mk_wt) (hd : decode cc pc = .ok (.getfield i, 3)) : mk_Sn p l e R s m args below meth c Qs nL D cy b sk lim cr Q pc (pi_getR ci k (pc + 3)) := fun L st u sh P I J h H locs ls h1 h2 h3 h4 h5 => by
  unfold pi_getR at h
  split at h
  · rename_i a st
    have hq := mk_sh h.1 (by have := C.1.1; omega)
    have h6 := h.2 H locs ls h1 h2 h3 h4 h5
    rw [List.map_cons, mk_tv_rf] at h6
    refine va_get (D := D) (ci := ci) (v := va_rf ((P a k).map (b + ·))) (C := r.1) (T := r.2.1) (N := r.2.2) K.1 K.2.1 K.2.2.2.2.1 C.2.1 K.2.2.2.1 K.2.2.2.2.2.1 h4 a (by rw [mk_W_at hq, mk_E_obj C.1.1]) C.1.2 k hk (K.2.2.2.2.1 _ hl) (mk_same (C.2.2.2.2.2.2 k hk)) ?_ hd h6
    rw [mk_fs_at, hf]
    simp [mk_fv]
  · exact h.elim
/-- what a field's write does to the picture -/
theorem mk_putW {sh : mj_S} {P P' : mj_P} {I I' : mj_I} {J J' : mj_J} {a k c0 ci : Nat} {v : Value} (hci : ci < 13) (hq : sh[a]? = some (ci, mj_ln sh a)) (hf : (mk_ft.getD ci [])[k]? = some c0) (hv : mk_fv b P' I' J' a k c0 = v) (h1 : ∀ c, c ≠ a → P' c = P c ∧ I' c = I c ∧ J' c = J c) (h2 : ∀ j c', j ≠ k → mk_fv b P' I' J' a j c' = mk_fv b P I J a j c') :
    (mk_W cy b sh P I J).set a (b + a, .inr (ci, (mk_fs b P I J a (mk_ft.getD ci []) 0).set k v)) = mk_W cy b sh P' I' J' := by
  rw [mk_fs_set hf hv h2, ← mk_E_obj (cy := cy) (n := mj_ln sh a) hci]
  exact mk_W_set hq h1
theorem sn_putI (K : mk_Cx p R s m args meth c cc own nL D cy b sk lim) {ci i k : Nat} {r : vw_C} {ty0 : Nat → FieldType} (C : mk_cls ci r ty0) (hk : k < r.2.2) (hf : (mk_ft.getD ci [])[k]? = some 0) (ht : ty0 k = .int) (hfin : (r.2.1 k).2.2.2 = false) (hl : Cond.fieldLink own i r.1 (r.2.1 k).2.1 (r.2.1 k).2.2.1 ∈ mk_wt) (hd : decode cc pc = .ok (.putfield i, 3)) : mk_Sn p l e R s m args below meth c Qs nL D cy b sk lim cr Q pc (pi_putI ci k (pc + 3)) := fun L st u sh P I J h H locs ls h1 h2 h3 h4 h5 => by
  unfold pi_putI at h
  split at h
  · rename_i v a st
    have hq := mk_sh h.1 (by have := C.1.1; omega)
    have hw : (mk_W cy b sh P I J).set a (b + a, .inr (ci, (mk_fs b P I J a (mk_ft.getD ci []) 0).set k (.int v))) = mk_W cy b sh P (mj_u I a k v) J := mk_putW C.1.1 hq hf (by simp [mk_fv, mj_u_eq]) (fun c hc => ⟨rfl, mj_u_row I a k v hc, rfl⟩) (fun j c' hj => by unfold mk_fv; rw [mj_u_ne2 I a a v hj])
    exact va_put (D := D) (ci := ci) (v := .int v) (ty := .int) (C := r.1) (T := r.2.1) (N := r.2.2) K.1 K.2.1 K.2.2.2.2.1 C.2.1 ty0 C.2.2.1 C.2.2.2.1 K.2.2.2.1 K.2.2.2.2.2.1 h4 mk_D h5 a (by rw [mk_W_at hq, mk_E_obj C.1.1]) C.1.2 k hk (K.2.2.2.2.1 _ hl) (mk_same (C.2.2.2.2.2.2 k hk)) hfin (by rw [C.2.2.1 k hk, ht]) rfl rfl (by rw [mk_fs_len, C.2.2.2.2.1]; exact hk) hd (fun H1 locs1 q1 q2 q3 => h.2 H1 locs1 ls h1 h2 h3 (by rw [← hw]; exact q1) q3)
  · exact h.elim
theorem sn_putZ (K : mk_Cx p R s m args meth c cc own nL D cy b sk lim) {ci i k : Nat} {r : vw_C} {ty0 : Nat → FieldType} (C : mk_cls ci r ty0) (hk : k < r.2.2) (hf : (mk_ft.getD ci [])[k]? = some 3) (ht : ty0 k = .boolean) (hfin : (r.2.1 k).2.2.2 = false) (hl : Cond.fieldLink own i r.1 (r.2.1 k).2.1 (r.2.1 k).2.2.1 ∈ mk_wt) (hd : decode cc pc = .ok (.putfield i, 3)) : mk_Sn p l e R s m args below meth c Qs nL D cy b sk lim cr Q pc (pi_putZ ci k (pc + 3)) := fun L st u sh P I J h H locs ls h1 h2 h3 h4 h5 => by
  unfold pi_putZ at h
  split at h
  · rename_i v a st
    have hq := mk_sh h.1 (by have := C.1.1; omega)
    have hw : (mk_W cy b sh P I J).set a (b + a, .inr (ci, (mk_fs b P I J a (mk_ft.getD ci []) 0).set k (.int v))) = mk_W cy b sh P (mj_u I a k v) J := mk_putW C.1.1 hq hf (by simp [mk_fv, mj_u_eq]) (fun c hc => ⟨rfl, mj_u_row I a k v hc, rfl⟩) (fun j c' hj => by unfold mk_fv; rw [mj_u_ne2 I a a v hj])
    exact va_put (D := D) (ci := ci) (v := .int v) (ty := .boolean) (C := r.1) (T := r.2.1) (N := r.2.2) K.1 K.2.1 K.2.2.2.2.1 C.2.1 ty0 C.2.2.1 C.2.2.2.1 K.2.2.2.1 K.2.2.2.2.2.1 h4 mk_D h5 a (by rw [mk_W_at hq, mk_E_obj C.1.1]) C.1.2 k hk (K.2.2.2.2.1 _ hl) (mk_same (C.2.2.2.2.2.2 k hk)) hfin (by rw [C.2.2.1 k hk, ht]) (by rcases h.2.1 with rfl | rfl <;> decide) (by rcases h.2.1 with rfl | rfl <;> decide) (by rw [mk_fs_len, C.2.2.2.2.1]; exact hk) hd (fun H1 locs1 q1 q2 q3 => h.2.2 H1 locs1 ls h1 h2 h3 (by rw [← hw]; exact q1) q3)
  · exact h.elim
theorem sn_putJ (K : mk_Cx p R s m args meth c cc own nL D cy b sk lim) {ci i k : Nat} {r : vw_C} {ty0 : Nat → FieldType} (C : mk_cls ci r ty0) (hk : k < r.2.2) (hf : (mk_ft.getD ci [])[k]? = some 1) (ht : ty0 k = .long) (hfin : (r.2.1 k).2.2.2 = false) (hl : Cond.fieldLink own i r.1 (r.2.1 k).2.1 (r.2.1 k).2.2.1 ∈ mk_wt) (hd : decode cc pc = .ok (.putfield i, 3)) : mk_Sn p l e R s m args below meth c Qs nL D cy b sk lim cr Q pc (pi_putJ ci k (pc + 3)) := fun L st u sh P I J h H locs ls h1 h2 h3 h4 h5 => by
  unfold pi_putJ at h
  split at h
  · rename_i v a st
    have hq := mk_sh h.1 (by have := C.1.1; omega)
    have hw : (mk_W cy b sh P I J).set a (b + a, .inr (ci, (mk_fs b P I J a (mk_ft.getD ci []) 0).set k (.long v))) = mk_W cy b sh P I (mj_u J a k v) := mk_putW C.1.1 hq hf (by simp [mk_fv, mj_u_eq]) (fun c hc => ⟨rfl, rfl, mj_u_row J a k v hc⟩) (fun j c' hj => by unfold mk_fv; rw [mj_u_ne2 J a a v hj])
    exact va_put (D := D) (ci := ci) (v := .long v) (ty := .long) (C := r.1) (T := r.2.1) (N := r.2.2) K.1 K.2.1 K.2.2.2.2.1 C.2.1 ty0 C.2.2.1 C.2.2.2.1 K.2.2.2.1 K.2.2.2.2.2.1 h4 mk_D h5 a (by rw [mk_W_at hq, mk_E_obj C.1.1]) C.1.2 k hk (K.2.2.2.2.1 _ hl) (mk_same (C.2.2.2.2.2.2 k hk)) hfin (by rw [C.2.2.1 k hk, ht]) rfl rfl (by rw [mk_fs_len, C.2.2.2.2.1]; exact hk) hd (fun H1 locs1 q1 q2 q3 => h.2 H1 locs1 ls h1 h2 h3 (by rw [← hw]; exact q1) q3)
  · exact h.elim
theorem mk_putR {ci k : Nat} {L : mj_L} {st : List Value} {u : Nat × Nat} {sh : mj_S} {P : mj_P} {I : mj_I} {J : mj_J} {X : mj_X} (h : pi_putR ci k nx cr X Q lim L st u sh P I J) : ∃ (z : Option Nat) (a : Nat) (r : List Value), st = va_rf z :: .ref a :: r ∧ mj_kd sh a = ci ∧ X nx L r u sh (mj_u P a k z) I J := by
  unfold pi_putR at h
  split at h
  · rename_i z a r; exact ⟨some z, a, r, rfl, h.1, h.2⟩
  · rename_i a r; exact ⟨none, a, r, rfl, h.1, h.2⟩
  · exact h.elim
theorem mk_fitR {ty : FieldType} (ht : (∃ n, ty = .object n) ∨ ∃ t, ty = .array t) (z : Option Nat) : narrow ty (va_rf z) = va_rf z ∧ fits ty (va_rf z) = true := by
  rcases ht with ⟨n, rfl⟩ | ⟨t, rfl⟩ <;> cases z <;> exact ⟨rfl, rfl⟩
theorem mk_putRW {sh : mj_S} {P : mj_P} {I : mj_I} {J : mj_J} {a k ci : Nat} {z : Option Nat} (hci : ci < 13) (hq : sh[a]? = some (ci, mj_ln sh a)) (hf : (mk_ft.getD ci [])[k]? = some 2) : (mk_W cy b sh P I J).set a (b + a, .inr (ci, (mk_fs b P I J a (mk_ft.getD ci []) 0).set k (va_rf (z.map (b + ·))))) = mk_W cy b sh (mj_u P a k z) I J :=
  mk_putW hci hq hf (by simp [mk_fv, mj_u_eq]) (fun c hc => ⟨mj_u_row P a k z hc, rfl, rfl⟩) (fun j c' hj => by unfold mk_fv; rw [mj_u_ne2 P a a z hj])
theorem sn_putR (K : mk_Cx p R s m args meth c cc own nL D cy b sk lim) {ci i k : Nat} {r : vw_C} {ty0 : Nat → FieldType} (C : mk_cls ci r ty0) (hk : k < r.2.2) (hf : (mk_ft.getD ci [])[k]? = some 2) (ht : (∃ n, ty0 k = .object n) ∨ ∃ t, ty0 k = .array t) (hfin : (r.2.1 k).2.2.2 = false) (hl : Cond.fieldLink own i r.1 (r.2.1 k).2.1 (r.2.1 k).2.2.1 ∈ mk_wt) (hd : decode cc pc = .ok (.putfield i, 3)) : mk_Sn p l e R s m args below meth c Qs nL D cy b sk lim cr Q pc (pi_putR ci k (pc + 3)) := fun L st u sh P I J h H locs ls h1 h2 h3 h4 h5 => by
  obtain ⟨z, a, st, rfl, hkd, h⟩ := mk_putR h
  have hq := mk_sh hkd (by have := C.1.1; omega)
  rw [List.map_cons, mk_tv_rf]
  exact va_put (D := D) (ci := ci) (v := va_rf (z.map (b + ·))) (ty := ty0 k) (C := r.1) (T := r.2.1) (N := r.2.2) K.1 K.2.1 K.2.2.2.2.1 C.2.1 ty0 C.2.2.1 C.2.2.2.1 K.2.2.2.1 K.2.2.2.2.2.1 h4 mk_D h5 a (by rw [mk_W_at hq, mk_E_obj C.1.1]) C.1.2 k hk (K.2.2.2.2.1 _ hl) (mk_same (C.2.2.2.2.2.2 k hk)) hfin (C.2.2.1 k hk) (mk_fitR ht _).1 (mk_fitR ht _).2 (by rw [mk_fs_len, C.2.2.2.2.1]; exact hk) hd (fun H1 locs1 q1 q2 q3 => h H1 locs1 ls h1 h2 h3 (by rw [← mk_putRW C.1.1 hq hf]; exact q1) q3)
theorem sn_putRF (K : mk_Cx p R s m args meth c cc own nL D cy b sk lim) (hin : meth.name = "<init>") {ci i k : Nat} {r : vw_C} {ty0 : Nat → FieldType} (C : mk_cls ci r ty0) (hk : k < r.2.2) (hf : (mk_ft.getD ci [])[k]? = some 2) (ht : (∃ n, ty0 k = .object n) ∨ ∃ t, ty0 k = .array t) (hfin : (r.2.1 k).2.2.2 = true) (ho : r.1 = own) (hl : Cond.fieldLink own i r.1 (r.2.1 k).2.1 (r.2.1 k).2.2.1 ∈ mk_wt) (hd : decode cc pc = .ok (.putfield i, 3)) : mk_Sn p l e R s m args below meth c Qs nL D cy b sk lim cr Q pc (pi_putR ci k (pc + 3)) := fun L st u sh P I J h H locs ls h1 h2 h3 h4 h5 => by
  obtain ⟨z, a, st, rfl, hkd, h⟩ := mk_putR h
  have hq := mk_sh hkd (by have := C.1.1; omega)
  rw [List.map_cons, mk_tv_rf]
  exact va_putF (D := D) (ci := ci) (v := va_rf (z.map (b + ·))) (ty := ty0 k) (C := r.1) (T := r.2.1) (N := r.2.2) K.1 K.2.1 K.2.2.2.2.1 C.2.1 ty0 C.2.2.1 C.2.2.2.1 K.2.2.2.1 K.2.2.2.2.2.1 h4 mk_D h5 a (by rw [mk_W_at hq, mk_E_obj C.1.1]) C.1.2 k hk (K.2.2.2.2.1 _ hl) (mk_same (C.2.2.2.2.2.2 k hk)) hfin hin ((C.2.2.2.2.2.2 k hk).trans ho) (C.2.2.1 k hk) (mk_fitR ht _).1 (mk_fitR ht _).2 (by rw [mk_fs_len, C.2.2.2.2.1]; exact hk) hd (fun H1 locs1 q1 q2 q3 => h H1 locs1 ls h1 h2 h3 (by rw [← mk_putRW C.1.1 hq hf]; exact q1) q3)
theorem sn_iald (K : mk_Cx p R s m args meth c cc own nL D cy b sk lim) (hd : decode cc pc = .ok (.iaload, 1)) : mk_Sn p l e R s m args below meth c Qs nL D cy b sk lim cr Q pc (pi_iald (pc + 1)) := fun L st u sh P I J h H locs ls h1 h2 h3 h4 h5 => by
  unfold pi_iald at h
  split at h
  · rename_i i a st
    have hq := mk_sh h.1 (by omega)
    exact va_iald K.1 K.2.1 K.2.2.2.2.2.1 h4 a 0 (by rw [mk_W_at hq, mk_E_int]) rfl h.2.1 hd (h.2.2 H locs ls h1 h2 h3 h4 h5)
  · exact h.elim
theorem sn_lald (K : mk_Cx p R s m args meth c cc own nL D cy b sk lim) (hd : decode cc pc = .ok (.laload, 1)) : mk_Sn p l e R s m args below meth c Qs nL D cy b sk lim cr Q pc (pi_lald (pc + 1)) := fun L st u sh P I J h H locs ls h1 h2 h3 h4 h5 => by
  unfold pi_lald at h
  split at h
  · rename_i i a st
    have hq := mk_sh h.1 (by omega)
    exact va_lald K.1 K.2.1 K.2.2.2.2.2.1 h4 a 1 (by rw [mk_W_at hq, mk_E_lng]) rfl h.2.1 hd (h.2.2 H locs ls h1 h2 h3 h4 h5)
  · exact h.elim
/-- the type of what a row of references holds -/
theorem mk_ry (k : Nat) (h : 15 ≤ k ∧ k < 19) : ∃ ty : FieldType, ty.isReference = true ∧ (mk_tys cy)[k - 13]? = some (cy k, ty) := by
  obtain ⟨h1, h2⟩ := h
  rcases (show k = 15 ∨ k = 16 ∨ k = 17 ∨ k = 18 by omega) with rfl | rfl | rfl | rfl
  · exact ⟨_, rfl, rfl⟩
  · exact ⟨_, rfl, rfl⟩
  · exact ⟨_, rfl, rfl⟩
  · exact ⟨_, rfl, rfl⟩
theorem sn_aald (K : mk_Cx p R s m args meth c cc own nL D cy b sk lim) (hd : decode cc pc = .ok (.aaload, 1)) : mk_Sn p l e R s m args below meth c Qs nL D cy b sk lim cr Q pc (pi_aald (pc + 1)) := fun L st u sh P I J h H locs ls h1 h2 h3 h4 h5 => by
  unfold pi_aald at h
  split at h
  · rename_i i a st
    have hq := mk_sh (rfl : mj_kd sh a = mj_kd sh a) (by omega)
    obtain ⟨ty, hr, hty⟩ := mk_ry (cy := cy) (mj_kd sh a) h.1
    have h6 := h.2.2 H locs ls h1 h2 h3 h4 h5
    rw [List.map_cons, mk_tv_rf] at h6
    have ha : (mk_W cy b sh P I J)[a]? = some (b + a, .inl (cy (mj_kd sh a), mj_ln sh a, .inr (.inr (.inr (.inr (fun j => (P a j).map (b + ·))))))) := by rw [mk_W_at hq, mk_E_ref h.1.1]
    have hin := h.2.1
    have hlt : i.toNatClampNeg < mj_ln sh a := Nat.not_le.mp fun q => hin (Or.inr q)
    exact W.aald (v := va_rf ((P a i.toNatClampNeg).map (b + ·))) (ty := ty) K.1 K.2.1 (h4 a _ ha) ((K.2.2.2.2.2.1.2 _ _ hty).1 (mj_ln sh a) (fun j => va_rf ((P a j).map (b + ·)))) hr (fun q => by cases q) (by show ¬ (i < 0 ∨ (arrV _ _ _).slots.size ≤ _); rw [arrV_size]; exact hin) (by show (arrV _ _ _).slots[_]? = _; rw [arrV_read _ _ hlt]) rfl rfl hd h6
  · exact h.elim
theorem mk_uI (I : mj_I) (a k : Nat) (x : Int32) : mj_u I a k x a = upd (I a) k x := by funext j; simp [mj_u, upd]
theorem sn_iast (K : mk_Cx p R s m args meth c cc own nL D cy b sk lim) (hd : decode cc pc = .ok (.iastore, 1)) : mk_Sn p l e R s m args below meth c Qs nL D cy b sk lim cr Q pc (pi_iast (pc + 1)) := fun L st u sh P I J h H locs ls h1 h2 h3 h4 h5 => by
  unfold pi_iast at h
  split at h
  · rename_i x i a st
    have hq := mk_sh h.1 (by omega)
    have hw : (mk_W cy b sh P I J).set a (b + a, .inl (cy 13, mj_ln sh a, .inl (upd (I a) i.toNatClampNeg x))) = mk_W cy b sh P (mj_u I a i.toNatClampNeg x) J := by
      rw [← mk_uI, ← mk_E_int (P := P) (J := J) (b := b)]
      exact mk_W_set hq (fun c hc => ⟨rfl, mj_u_row I a _ x hc, rfl⟩)
    exact va_iast K.1 K.2.1 K.2.2.2.2.2.1 h4 mk_D h5 a 0 (by rw [mk_W_at hq, mk_E_int]) rfl h.2.1 hd (fun H1 locs1 q1 q2 q3 => h.2.2 H1 locs1 ls h1 h2 h3 (by rw [← hw]; exact q1) q3)
  · exact h.elim
theorem mk_uJ (J : mj_J) (a k : Nat) (x : Int64) : mj_u J a k x a = vp_updL (J a) k x := by funext j; simp [mj_u, vp_updL]
theorem sn_last (K : mk_Cx p R s m args meth c cc own nL D cy b sk lim) (hd : decode cc pc = .ok (.lastore, 1)) : mk_Sn p l e R s m args below meth c Qs nL D cy b sk lim cr Q pc (pi_last (pc + 1)) := fun L st u sh P I J h H locs ls h1 h2 h3 h4 h5 => by
  unfold pi_last at h
  split at h
  · rename_i x i a st
    have hq := mk_sh h.1 (by omega)
    have hw : (mk_W cy b sh P I J).set a (b + a, .inl (cy 14, mj_ln sh a, .inr (.inl (vp_updL (J a) i.toNatClampNeg x)))) = mk_W cy b sh P I (mj_u J a i.toNatClampNeg x) := by
      rw [← mk_uJ, ← mk_E_lng (P := P) (I := I) (b := b)]
      exact mk_W_set hq (fun c hc => ⟨rfl, rfl, mj_u_row J a _ x hc⟩)
    exact va_last K.1 K.2.1 K.2.2.2.2.2.1 h4 mk_D h5 a 1 (by rw [mk_W_at hq, mk_E_lng]) rfl h.2.1 hd (fun H1 locs1 q1 q2 q3 => h.2.2 H1 locs1 ls h1 h2 h3 (by rw [← hw]; exact q1) q3)
  · exact h.elim
theorem mk_uP (P : mj_P) (b a k v : Nat) : (fun j => (mj_u P a k (some v) a j).map (b + ·)) = va_up (fun j => (P a j).map (b + ·)) k (some (b + v)) := by
  funext j
  by_cases h : j = k
  · subst h; simp [mj_u, va_up]
  · simp [mj_u, va_up, h]
theorem sn_aast (K : mk_Cx p R s m args meth c cc own nL D cy b sk lim) (hd : decode cc pc = .ok (.aastore, 1)) : mk_Sn p l e R s m args below meth c Qs nL D cy b sk lim cr Q pc (pi_aast (pc + 1)) := fun L st u sh P I J h H locs ls h1 h2 h3 h4 h5 => by
  unfold pi_aast at h
  split at h
  · rename_i v i a st
    have hq := mk_sh (rfl : mj_kd sh a = mj_kd sh a) (by omega)
    obtain ⟨⟨h6, hv⟩, hin, h⟩ := h
    generalize hk : mj_kd sh a = k at h6 hv hq
    have hw : (mk_W cy b sh P I J).set a (b + a, .inl (cy k, mj_ln sh a, .inr (.inr (.inr (.inr (va_up (fun j => (P a j).map (b + ·)) i.toNatClampNeg (some (b + v)))))))) = mk_W cy b sh (mj_u P a i.toNatClampNeg (some v)) I J := by
      rw [← mk_uP, ← mk_E_ref (I := I) (J := J) h6.1]
      exact mk_W_set hq (fun c hc => ⟨mj_u_row P a _ _ hc, rfl, rfl⟩)
    have ha : (mk_W cy b sh P I J)[a]? = some (b + a, .inl (cy k, mj_ln sh a, .inr (.inr (.inr (.inr (fun j => (P a j).map (b + ·))))))) := by rw [mk_W_at hq, mk_E_ref h6.1]
    have kk := fun (H1 : Heap) (locs1 : List Loc) (q1 : va_P D mk_cl ((mk_W cy b sh P I J).set a (b + a, .inl (cy k, mj_ln sh a, .inr (.inr (.inr (.inr (va_up (fun j => (P a j).map (b + ·)) i.toNatClampNeg (some (b + v))))))))) H1) (_ : va_D (mk_A b) ((mk_W cy b sh P I J).set a (b + a, .inl (cy k, mj_ln sh a, .inr (.inr (.inr (.inr (va_up (fun j => (P a j).map (b + ·)) i.toNatClampNeg (some (b + v)))))))))) (q3 : va_S (mk_A b) s.heap H1 locs1) => h H1 locs1 ls h1 h2 h3 (by rw [← hw]; exact q1) q3
    rcases (show k = 15 ∨ k = 16 ∨ k = 17 by omega) with rfl | rfl | rfl
    · have hqv := mk_sh hv (by decide)
      exact va_astq K.1 K.2.1 K.2.2.2.2.2.1 h4 mk_D h5 a 2 v 2 (r := (RX2, TX2, 7)) ha rfl (by rw [mk_W_at hqv]; rfl) rfl hin hd kk
    · have hqv := mk_sh hv (by decide)
      exact va_astq K.1 K.2.1 K.2.2.2.2.2.1 h4 mk_D h5 a 3 v 3 (r := (RX3, TX3, 2)) ha rfl (by rw [mk_W_at hqv]; rfl) rfl hin hd kk
    · have hqv := mk_sh hv (by decide)
      exact va_astq K.1 K.2.1 K.2.2.2.2.2.1 h4 mk_D h5 a 4 v 7 (r := (RX7, TX7, 8)) ha rfl (by rw [mk_W_at hqv]; rfl) rfl hin hd kk
  · exact h.elim
theorem mk_ty (k : Nat) (h : 13 ≤ k ∧ k < 19) : ∃ ty : FieldType, (mk_tys cy)[k - 13]? = some (cy k, ty) := by
  obtain ⟨h1, h2⟩ := h
  rcases (show k = 13 ∨ k = 14 ∨ k = 15 ∨ k = 16 ∨ k = 17 ∨ k = 18 by omega) with rfl | rfl | rfl | rfl | rfl | rfl <;> exact ⟨_, rfl⟩
theorem sn_alen (K : mk_Cx p R s m args meth c cc own nL D cy b sk lim) (hd : decode cc pc = .ok (.arraylength, 1)) : mk_Sn p l e R s m args below meth c Qs nL D cy b sk lim cr Q pc (pi_alen (pc + 1)) := fun L st u sh P I J h H locs ls h1 h2 h3 h4 h5 => by
  unfold pi_alen at h
  split at h
  · rename_i a st
    have hq := mk_sh (rfl : mj_kd sh a = mj_kd sh a) (by omega)
    obtain ⟨h6, h⟩ := h
    generalize hk : mj_kd sh a = k at h6 hq
    obtain ⟨ty, hty⟩ := mk_ty (cy := cy) k h6
    have hx : ∃ x : vp_A, x.1 = mj_ln sh a ∧ mk_E cy b P I J a (k, mj_ln sh a) = .inl (cy k, x) := by
      rcases (show k = 13 ∨ k = 14 ∨ 15 ≤ k by omega) with rfl | rfl | h9
      · exact ⟨_, rfl, mk_E_int⟩
      · exact ⟨_, rfl, mk_E_lng⟩
      · exact ⟨_, rfl, mk_E_ref h9⟩
    obtain ⟨x, hx1, hx2⟩ := hx
    exact va_alen K.1 K.2.1 K.2.2.2.2.2.1 h4 a (k - 13) (x := x) (by rw [mk_W_at hq, hx2]) hty (by rw [hx1]) hd (h H locs ls h1 h2 h3 h4 h5)
  · exact h.elim
end SNC
