/-! rows: new cells, copies, texts, max and min, returns -/
theorem W_sz {p : Program} {l : Launch} {e : Env} {R : Room} {s : State} {m : MethodId} {args : Array Value} {below : List Frame} {meth : Method} {c : Code} {H : Heap} {locs : List Loc} {cells slots : Nat} {Q : State → Prop} {g : JFrame} (k : H.size ≤ s.heap.size + cells → W p l e R s m args below meth c H locs cells slots Q g) : W p l e R s m args below meth c H locs cells slots Q g :=
  fun T hT X => k (by rw [← hT]; exact X.heapSize) T hT X
theorem mk_size {D : va_G} {cy : Nat → ClassId} {b : Nat} {sh : mj_S} {P : mj_P} {I : mj_I} {J : mj_J} {H H0 : Heap} {locs : List Loc} {n : Nat} (hP : va_P D mk_cl (mk_W cy b sh P I J) H) (hS : va_S (mk_A b) H0 H locs) (hb : b ≤ H0.size) (h1 : H.size ≤ H0.size + n) (h2 : H0.size + n = b + sh.length) : H.size = b + sh.length := by
  have h3 : b + sh.length ≤ H.size := by
    cases hn : sh.length with
    | zero => have := hS.1; omega
    | succ k =>
      have hk : k < sh.length := by omega
      have := (hP k _ (mk_W_at (List.getElem?_eq_getElem hk))).lt
      simp only at this
      omega
  omega
theorem mk_W_push {cy : Nat → ClassId} {b : Nat} {sh : mj_S} {P P' : mj_P} {I I' : mj_I} {J J' : mj_J} (q : Nat × Nat) (h : ∀ a, a < sh.length → P' a = P a ∧ I' a = I a ∧ J' a = J a) : mk_W cy b (sh ++ [q]) P' I' J' = mk_W cy b sh P I J ++ [(b + sh.length, mk_E cy b P' I' J' sh.length q)] := by
  unfold mk_W
  rw [List.mapIdx_append]
  congr 1
  · apply List.ext_getElem?
    intro i
    rw [List.getElem?_mapIdx, List.getElem?_mapIdx]
    cases hq : sh[i]? with
    | none => rfl
    | some z =>
      obtain ⟨h1, h2, h3⟩ := h i (List.getElem?_eq_some_iff.mp hq).1
      simp only [Option.map_some]
      rw [mk_E_congr h1 h2 h3]
  · simp [List.mapIdx_cons]
theorem mk_one {D : va_G} {cl : List vw_C} {z : Nat × va_E} {H : Heap} (h : va_at D cl z H) : va_P D cl [z] H := fun k q hk => by
  have h0 : k < 1 := (List.getElem?_eq_some_iff.mp hk).1
  rw [show k = 0 by omega] at hk
  cases hk
  exact h
theorem mk_kept {D : va_G} {cl : List vw_C} {ws : va_W} {H H1 : Heap} (hP : va_P D cl ws H) (ho : ∀ q, q < H.size → H1[q]? = H[q]?) : va_P D cl ws H1 := hP.kept (fun k x hx => ho x.1 ((hP k x hx).lt))
theorem mk_dfv (b z : Nat) (P : mj_P) (I : mj_I) (J : mj_J) (a k : Nat) (hP : P a k = none) (hI : I a k = 0) (hJ : J a k = 0) : mk_df z = mk_fv b P I J a k z := by
  unfold mk_df mk_fv
  rw [hP, hI, hJ]
  rfl
section SND4
variable {p : Program} {l : Launch} {e : Env} {R : Room} {s : State} {m : MethodId} {args : Array Value} {below : List Frame} {meth : Method} {c : Code} {Qs : State → Prop} {nL : Nat} {D : va_G} {cy : Nat → ClassId} {b : Nat} {sk : Nat → Value} {lim : Nat × Nat} {cc : ByteArray} {own : String} {cr : mj_C} {Q : mj_Q} {pc nx : Nat}
theorem mk_Sgrow {H H1 : Heap} {locs : List Loc} (h5 : va_S (mk_A b) s.heap H locs) (z1 : H.size ≤ H1.size) (o1 : ∀ q, q < H.size → H1[q]? = H[q]?) : va_S (mk_A b) s.heap H1 locs :=
  ⟨Nat.le_trans h5.1 z1, fun x a1 a2 => (o1 x (Nat.lt_of_lt_of_le a1 h5.1)).trans (h5.2.1 x a1 a2), h5.2.2⟩
theorem sn_new (K : mk_Cx p R s m args meth c cc own nL D cy b sk lim) {ci i N : Nat} {r : vw_C} {ty0 : Nat → FieldType} (C : mk_cls ci r ty0) (hN : r.2.2 = N) (hl : Cond.classLink own i r.1 ∈ mk_wt) (h7 : Cond.instantiable r.1 r.2.2 ∈ mk_wt) (h8 : Cond.initialized r.1 ∈ mk_wt) (hd : decode cc pc = .ok (.new i, 3)) : mk_Sn p l e R s m args below meth c Qs nL D cy b sk lim cr Q pc (pi_new ci N (pc + 3)) := fun L st u sh P I J h H locs ls h1 h2 h3 h4 h5 => by
  subst hN
  obtain ⟨⟨q1, q2⟩, h⟩ := h
  obtain ⟨hx, hbb, hml, hown, hts, hK, hb0, hlk, hXt, ⟨hR1, hR2⟩, hRf⟩ := id K
  refine W_sz fun hz => ?_
  have hsz := mk_size h4 h5 hb0 hz h2
  have hKn := hK.1 ci _ C.1.2
  refine W.newcK hx hbb hown (hts _ hl) (hts _ h7) (hts _ h8) rfl hd (by omega) (by omega) hKn.2.1 hsz fun H1 kC hkC e1 z1 o1 => ?_
  have o2 : ∀ q, q < H.size → H1[q]? = H[q]? := fun q hq => o1 q (by omega)
  refine h H1 locs ls h1 (by simp; omega) ⟨by simp; omega, by simp; omega⟩ ?_ (mk_Sgrow h5 (by omega) o2)
  rw [mk_W_push (P := P) (I := I) (J := J) (ci, 0) (fun a ha => ⟨mj_w_row _ _ _ (by omega), mj_w_row _ _ _ (by omega), mj_w_row _ _ _ (by omega)⟩)]
  refine (mk_kept h4 o2).app (mk_one ?_)
  rw [mk_E_obj C.1.1]
  refine ⟨r, C.1.2, (u_born ty0 hts C.2.1 hKn hkC e1 C.2.2.1).to (fun j hj => ?_)⟩
  rw [C.2.2.2.2.2.1 j hj]
  unfold vp_V
  dsimp only
  rw [List.getD_eq_getElem?_getD (l := mk_fs _ _ _ _ _ _ _), mk_fs_at]
  have hjl : j < (mk_ft.getD ci []).length := by rw [C.2.2.2.2.1]; exact hj
  rw [List.getD_eq_getElem?_getD, List.getElem?_eq_getElem hjl]
  simp only [Option.getD_some, Option.map_some, Nat.zero_add]
  generalize (mk_ft.getD ci [])[j] = z
  exact mk_dfv b z _ _ _ _ _ (by simp [mj_w]) (by simp [mj_w]) (by simp [mj_w])
theorem mk_cyI (K : mk_Cx p R s m args meth c cc own nL D cy b sk lim) {cA : ClassId} (h : s.vm.findClass ("[" ++ FieldType.int.toString) = some cA) : cA = cy 13 := by
  have h1 : s.vm.findClass ("[" ++ FieldType.int.toString) = some (cy 13) := (K.2.2.2.2.2.1.2 0 (cy 13, .int) rfl).2
  exact Option.some.inj (h.symm.trans h1)
theorem mk_cyJ (K : mk_Cx p R s m args meth c cc own nL D cy b sk lim) {cA : ClassId} (h : s.vm.findClass ("[" ++ FieldType.long.toString) = some cA) : cA = cy 14 := by
  have h1 : s.vm.findClass ("[" ++ FieldType.long.toString) = some (cy 14) := (K.2.2.2.2.2.1.2 1 (cy 14, .long) rfl).2
  exact Option.some.inj (h.symm.trans h1)
theorem sn_newI (K : mk_Cx p R s m args meth c cc own nL D cy b sk lim) (hw : Cond.arrayClass .int ∈ mk_wt) (hd : decode cc pc = .ok (.newarray .int, 2)) : mk_Sn p l e R s m args below meth c Qs nL D cy b sk lim cr Q pc (pi_newI (pc + 2)) := fun L st u sh P I J h H locs ls h1 h2 h3 h4 h5 => by
  unfold pi_newI at h
  split at h
  · rename_i n st
    obtain ⟨⟨q0, q9, q1, q2⟩, h⟩ := h
    obtain ⟨hx, hbb, hml, hown, hts, hK, hb0, hlk, hXt, ⟨hR1, hR2⟩, hRf⟩ := id K
    refine W_sz fun hz => ?_
    have hsz := mk_size h4 h5 hb0 hz h2
    refine va_newaK (atype := .int) hx hbb (hts _ hw) rfl hd rfl q0 rfl (by show n.toNatClampNeg * 4 ≤ _; omega) (by omega) (by omega) hsz fun H1 cA e1 z1 o1 hAr hNm => ?_
    have hc := mk_cyI K hNm
    subst hc
    have o2 : ∀ q, q < H.size → H1[q]? = H[q]? := fun q hq => o1 q (by omega)
    refine h H1 locs ls h1 (by simp; omega) ⟨by simp; omega, by simp; omega⟩ ?_ (mk_Sgrow h5 (by omega) o2)
    rw [mk_W_push (P := P) (I := I) (J := J) (13, n.toNatClampNeg) (fun a ha => ⟨rfl, mj_w_row _ _ _ (by omega), rfl⟩)]
    refine (mk_kept h4 o2).app (mk_one ?_)
    rw [mk_E_int, mj_w_eq]
    show H1[b + sh.length]? = some (vp_cell _ _)
    rw [vp_cell_i]
    exact e1
  · exact h.elim
theorem sn_newJ (K : mk_Cx p R s m args meth c cc own nL D cy b sk lim) (hw : Cond.arrayClass .long ∈ mk_wt) (hd : decode cc pc = .ok (.newarray .long, 2)) : mk_Sn p l e R s m args below meth c Qs nL D cy b sk lim cr Q pc (pi_newJ (pc + 2)) := fun L st u sh P I J h H locs ls h1 h2 h3 h4 h5 => by
  unfold pi_newJ at h
  split at h
  · rename_i n st
    obtain ⟨⟨q0, q9, q1, q2⟩, h⟩ := h
    obtain ⟨hx, hbb, hml, hown, hts, hK, hb0, hlk, hXt, ⟨hR1, hR2⟩, hRf⟩ := id K
    refine W_sz fun hz => ?_
    have hsz := mk_size h4 h5 hb0 hz h2
    refine va_newaK (atype := .long) hx hbb (hts _ hw) rfl hd rfl q0 rfl (by show n.toNatClampNeg * 8 ≤ _; omega) (by omega) (by omega) hsz fun H1 cA e1 z1 o1 hAr hNm => ?_
    have hc := mk_cyJ K hNm
    subst hc
    have o2 : ∀ q, q < H.size → H1[q]? = H[q]? := fun q hq => o1 q (by omega)
    refine h H1 locs ls h1 (by simp; omega) ⟨by simp; omega, by simp; omega⟩ ?_ (mk_Sgrow h5 (by omega) o2)
    rw [mk_W_push (P := P) (I := I) (J := J) (14, n.toNatClampNeg) (fun a ha => ⟨rfl, rfl, mj_w_row _ _ _ (by omega)⟩)]
    refine (mk_kept h4 o2).app (mk_one ?_)
    rw [mk_E_lng, mj_w_eq]
    show H1[b + sh.length]? = some (vp_cell _ _)
    rw [vp_cell_l]
    exact e1
  · exact h.elim
theorem sn_newR (K : mk_Cx p R s m args meth c cc own nL D cy b sk lim) {kd i : Nat} {C : String} (hkd : 15 ≤ kd ∧ (mk_tys cy)[kd - 13]? = some (cy kd, .object C)) (hl : Cond.classLink own i C ∈ mk_wt) (hw : va_AO C s) (hd : decode cc pc = .ok (.anewarray i, 3)) : mk_Sn p l e R s m args below meth c Qs nL D cy b sk lim cr Q pc (pi_newR kd (pc + 3)) := fun L st u sh P I J h H locs ls h1 h2 h3 h4 h5 => by
  unfold pi_newR at h
  split at h
  · rename_i n st
    obtain ⟨⟨q0, q9, q1, q2⟩, h⟩ := h
    obtain ⟨hx, hbb, hml, hown, hts, hK, hb0, hlk, hXt, ⟨hR1, hR2⟩, hRf⟩ := id K
    refine W_sz fun hz => ?_
    have hsz := mk_size h4 h5 hb0 hz h2
    refine W.anew hx hbb hown (hts _ hl) (va_AO.use hw) rfl hd rfl q0 (by omega) (by omega) (by omega) fun cA kA comp f1 f2 f3 f4 => ?_
    obtain ⟨-, -, -, -, -, g4⟩ := (hK.2 _ _ hkd.2).2
    have hc : cA = cy kd := Option.some.inj (f1.symm.trans g4)
    subst hc
    generalize hH1 : H.push ({ cls := cy kd, slots := Array.replicate n.toNatClampNeg .null, vm := .none } : Cell) = H1
    have z1 : H1.size = H.size + 1 := by rw [← hH1, Array.size_push]
    have e1 : H1[H.size]? = some (arrV (cy kd) n.toNatClampNeg (fun _ => .null)) := by rw [← hH1, Array.getElem?_push_size, ← arrV_new]
    have o2 : ∀ q : Nat, q < H.size → H1[q]? = H[q]? := fun q hq => by rw [← hH1, Array.getElem?_push, if_neg (Nat.ne_of_lt hq)]
    have h := h H1 locs ls h1 (by simp; omega) ⟨by simp; omega, by simp; omega⟩ (by
      rw [mk_W_push (P := P) (I := I) (J := J) (kd, n.toNatClampNeg) (fun a ha => ⟨mj_w_row _ _ _ (by omega), rfl, rfl⟩)]
      refine (mk_kept h4 o2).app (mk_one ?_)
      rw [mk_E_ref hkd.1, mj_w_eq]
      show H1[b + sh.length]? = some (vp_cell _ _)
      rw [vp_cell_q, ← hsz]
      exact e1) (mk_Sgrow h5 (by omega) o2)
    rw [hsz]
    exact h
  · exact h.elim
theorem mk_isS {j : Nat} (h : mj_isS j = true) : ∃ i, i < 14 ∧ j = 2 * i := by
  unfold mj_isS at h
  rw [Bool.and_eq_true] at h
  have h1 := Nat.eq_of_beq_eq_true h.1
  have h2 := Nat.le_of_ble_eq_true h.2
  exact ⟨j / 2, by omega, by omega⟩
theorem sn_ldcS (K : mk_Cx p R s m args meth c cc own nL D cy b sk lim) {i j : Nat} {tx : String} (hj : j < 14) (hR : ∀ a, sk (2 * j) = .ref a → vk_R own i tx a s) (hd : decode cc pc = .ok (.ldc i, 2)) : mk_Sn p l e R s m args below meth c Qs nL D cy b sk lim cr Q pc (pi_ldcS j (pc + 2)) := fun L st u sh P I J h H locs ls h1 h2 h3 h4 h5 => by
  obtain ⟨-, -, -, -, -, -, -, -, ⟨adK, adV, q1, q2, -⟩, -⟩ := id K
  have h := h H locs ls h1 h2 h3 h4 h5
  have e : mk_tv b sk (.retAddr (2 * j)) = .ref (adK j) := (q2 j hj).1
  rw [List.map_cons, e] at h
  exact va_ldcS K.1 K.2.1 K.2.2.2.1 (hR _ (q2 j hj).1) hd h
theorem sn_compact (K : mk_Cx p R s m args meth c cc own nL D cy b sk lim) {i : Nat} (hl : Cond.fieldLink own i "java/lang/String" "COMPACT_STRINGS" "Z" ∈ mk_wt) (hd : decode cc pc = .ok (.getstatic i, 3)) : mk_Sn p l e R s m args below meth c Qs nL D cy b sk lim cr Q pc (pi_int 1 (pc + 3)) := fun L st u sh P I J h H locs ls h1 h2 h3 h4 h5 => by
  obtain ⟨-, -, -, -, -, -, -, -, ⟨adK, adV, q1, q2, q3, -⟩, -⟩ := id K
  exact va_gets K.1 K.2.1 q3 h5 K.2.2.2.1 (K.2.2.2.2.1 _ hl) (fun _ z => z) hd (h H locs ls h1 h2 h3 h4 h5)
theorem sn_ldcF (K : mk_Cx p R s m args meth c cc own nL D cy b sk lim) {i : Nat} (hl : Cond.fieldLink own i "jdk/internal/util/Preconditions" "SIOOBE_FORMATTER" "Ljava/util/function/BiFunction;" ∈ mk_wt) (hd : decode cc pc = .ok (.getstatic i, 3)) : mk_Sn p l e R s m args below meth c Qs nL D cy b sk lim cr Q pc (pi_ldcF (pc + 3)) := fun L st u sh P I J h H locs ls h1 h2 h3 h4 h5 => by
  obtain ⟨-, -, -, -, -, -, -, -, ⟨adK, adV, q1, q2, q3, q4, -⟩, -⟩ := id K
  exact va_gets K.1 K.2.1 q4 h5 K.2.2.2.1 (K.2.2.2.2.1 _ hl) (fun _ z => z) hd (h H locs ls h1 h2 h3 h4 h5)
theorem sn_sval (K : mk_Cx p R s m args meth c cc own nL D cy b sk lim) {i : Nat} (hl : Cond.fieldLink own i "java/lang/String" "value" "[B" ∈ mk_wt) (hd : decode cc pc = .ok (.getfield i, 3)) : mk_Sn p l e R s m args below meth c Qs nL D cy b sk lim cr Q pc (pi_sval (pc + 3)) := fun L st u sh P I J h H locs ls h1 h2 h3 h4 h5 => by
  unfold pi_sval at h
  split at h
  · rename_i j st
    obtain ⟨hj, h⟩ := h
    obtain ⟨k, hk, rfl⟩ := mk_isS hj
    obtain ⟨-, -, -, -, -, -, -, -, ⟨adK, adV, q1, q2, -⟩, -⟩ := id K
    have h := h H locs ls h1 h2 h3 h4 h5
    have e1 : mk_tv b sk (.retAddr (2 * k)) = .ref (adK k) := (q2 k hk).1
    have e2 : mk_tv b sk (.retAddr (2 * k + 1)) = .ref (adV k) := (q2 k hk).2
    rw [List.map_cons, e2] at h
    rw [List.map_cons, e1]
    exact vk_getf K.1 K.2.1 (q1.1 k hk).2.2.1 h5 K.2.2.2.1 (K.2.2.2.2.1 _ hl) (fun _ z => z) hd h
  · exact h.elim
theorem sn_scod (K : mk_Cx p R s m args meth c cc own nL D cy b sk lim) {i : Nat} (hl : Cond.fieldLink own i "java/lang/String" "coder" "B" ∈ mk_wt) (hd : decode cc pc = .ok (.getfield i, 3)) : mk_Sn p l e R s m args below meth c Qs nL D cy b sk lim cr Q pc (pi_scod (pc + 3)) := fun L st u sh P I J h H locs ls h1 h2 h3 h4 h5 => by
  unfold pi_scod at h
  split at h
  · rename_i j st
    obtain ⟨hj, h⟩ := h
    obtain ⟨k, hk, rfl⟩ := mk_isS hj
    obtain ⟨-, -, -, -, -, -, -, -, ⟨adK, adV, q1, q2, -⟩, -⟩ := id K
    have h := h H locs ls h1 h2 h3 h4 h5
    have e1 : mk_tv b sk (.retAddr (2 * k)) = .ref (adK k) := (q2 k hk).1
    rw [List.map_cons, e1]
    exact vk_getf K.1 K.2.1 (q1.1 k hk).2.1 h5 K.2.2.2.1 (K.2.2.2.2.1 _ hl) (fun _ z => z) hd h
  · exact h.elim
theorem mk_btl (k : Nat) : (mj_bt.map List.length).getD k 0 = (mj_bt.getD k []).length := by
  rw [List.getD_eq_getElem?_getD, List.getD_eq_getElem?_getD, List.getElem?_map]
  cases mj_bt[k]? <;> rfl
theorem sn_blen (K : mk_Cx p R s m args meth c cc own nL D cy b sk lim) (hd : decode cc pc = .ok (.arraylength, 1)) : mk_Sn p l e R s m args below meth c Qs nL D cy b sk lim cr Q pc (pi_blen mj_bt (pc + 1)) := fun L st u sh P I J h H locs ls h1 h2 h3 h4 h5 => by
  unfold pi_blen at h
  split at h
  · rename_i j st
    obtain ⟨hj, h⟩ := h
    obtain ⟨k, hk, rfl⟩ := mk_isS hj
    obtain ⟨-, -, -, -, -, -, -, -, ⟨adK, adV, q1, q2, -⟩, -⟩ := id K
    have h := h H locs ls h1 h2 h3 h4 h5
    have e2 : mk_tv b sk (.retAddr (2 * k + 1)) = .ref (adV k) := (q2 k hk).2
    rw [List.map_cons, e2]
    have e3 : 2 * k / 2 = k := by omega
    rw [e3] at h
    exact va_tlen K.1 K.2.1 (q1.1 k hk).2.2.2 h5 (by rw [mk_btl]) hd h
  · exact h.elim
theorem sn_bald (K : mk_Cx p R s m args meth c cc own nL D cy b sk lim) (hd : decode cc pc = .ok (.baload, 1)) : mk_Sn p l e R s m args below meth c Qs nL D cy b sk lim cr Q pc (pi_bald mj_bt (pc + 1)) := fun L st u sh P I J h H locs ls h1 h2 h3 h4 h5 => by
  unfold pi_bald at h
  split at h
  · rename_i i j st
    obtain ⟨hj, hin, h⟩ := h
    obtain ⟨k, hk, rfl⟩ := mk_isS hj
    obtain ⟨-, -, -, -, -, -, -, -, ⟨adK, adV, q1, q2, -⟩, -⟩ := id K
    have h := h H locs ls h1 h2 h3 h4 h5
    have e2 : mk_tv b sk (.retAddr (2 * k + 1)) = .ref (adV k) := (q2 k hk).2
    rw [List.map_cons, List.map_cons, e2]
    have e3 : 2 * k / 2 = k := by omega
    rw [e3] at h hin
    exact va_tb K.1 K.2.1 (q1.1 k hk).2.2.2 h5 (by rw [mk_btl]; exact hin) rfl hd h
  · exact h.elim
theorem mk_rest (hsk : ∀ j, (sk j).category = 1) {st : List Value} (h : st.length ≤ 4) : ((st.map (mk_tv b sk)).map fun v => v.category).sum ≤ 8 := by
  have key : ∀ l : List Value, ((l.map (mk_tv b sk)).map fun v => v.category).sum ≤ 2 * l.length := by
    intro l
    induction l with
    | nil => simp
    | cons v r ih =>
      simp only [List.map_cons, List.sum_cons, List.length_cons]
      have := lv_cat (mk_tv b sk v)
      omega
  have := key st
  omega
theorem mk_mlS (K : mk_Cx p R s m args meth c cc own nL D cy b sk lim) {ls : Array Slot} {L : mj_L} (h1 : mk_lv b sk ls nL L) : c.maxLocals = ls.size := K.2.2.1.trans h1.1.symm
theorem sn_mmax (K : mk_Cx p R s m args meth c cc own nL D cy b sk lim) {i : Nat} (hl : Cond.methodLink own i Lib.Math.max.name ∈ mk_wt) (hst : Cond.static Lib.Math.max.name ∈ mk_wt) (hi : Cond.initialized "java/lang/Math" ∈ mk_wt) (hc : Cond.code Lib.Math.max.name Lib.Math.max.code 2 (some .int) ∈ mk_wt) (hd : decode cc pc = .ok (.invokestatic i, 3)) : mk_Sn p l e R s m args below meth c Qs nL D cy b sk lim cr Q pc (pi_mmax (pc + 3)) := fun L st u sh P I J h H locs ls h1 h2 h3 h4 h5 => by
  unfold pi_mmax at h
  split at h
  · rename_i y x st
    split at h
    · rename_i hle
      have hr := mk_rest (b := b) (mk_skc K) (Nat.le_of_ble_eq_true hle)
      have hR := K.2.2.2.2.2.2.2.2.2.2
      exact va_mmax K.1 K.2.1 (mk_mlS K h1) K.2.2.2.1 (K.2.2.2.2.1 _ hl) (K.2.2.2.2.1 _ hst) (K.2.2.2.2.1 _ hi) (K.2.2.2.2.1 _ hc) hR.1 (by omega) h3.1 h3.2 hd (h H locs ls h1 h2 h3 h4 h5)
    · exact h.elim
  · exact h.elim
theorem sn_mmin (K : mk_Cx p R s m args meth c cc own nL D cy b sk lim) {i : Nat} (hl : Cond.methodLink own i Lib.Math.min.name ∈ mk_wt) (hst : Cond.static Lib.Math.min.name ∈ mk_wt) (hi : Cond.initialized "java/lang/Math" ∈ mk_wt) (hc : Cond.code Lib.Math.min.name Lib.Math.min.code 2 (some .int) ∈ mk_wt) (hd : decode cc pc = .ok (.invokestatic i, 3)) : mk_Sn p l e R s m args below meth c Qs nL D cy b sk lim cr Q pc (pi_mmin (pc + 3)) := fun L st u sh P I J h H locs ls h1 h2 h3 h4 h5 => by
  unfold pi_mmin at h
  split at h
  · rename_i y x st
    split at h
    · rename_i hle
      have hr := mk_rest (b := b) (mk_skc K) (Nat.le_of_ble_eq_true hle)
      have hR := K.2.2.2.2.2.2.2.2.2.2
      exact va_mmin K.1 K.2.1 (mk_mlS K h1) K.2.2.2.1 (K.2.2.2.2.1 _ hl) (K.2.2.2.2.1 _ hst) (K.2.2.2.2.1 _ hi) (K.2.2.2.2.1 _ hc) hR.1 (by omega) h3.1 h3.2 hd (h H locs ls h1 h2 h3 h4 h5)
    · exact h.elim
  · exact h.elim
theorem sn_oini (K : mk_Cx p R s m args meth c cc own nL D cy b sk lim) {i : Nat} (hl : Cond.methodLink own i objectInit ∈ mk_wt) (hi : Cond.instanceMethod objectInit ∈ mk_wt) (hc : Cond.code objectInit ⟨#[0xb1]⟩ 1 none ∈ mk_wt) (hd : decode cc pc = .ok (.invokespecial i, 3)) : mk_Sn p l e R s m args below meth c Qs nL D cy b sk lim cr Q pc (pi_oini (pc + 3)) := fun L st u sh P I J h H locs ls h1 h2 h3 h4 h5 => by
  unfold pi_oini at h
  split at h
  · rename_i a st
    split at h
    · rename_i hle
      have hr := mk_rest (b := b) (mk_skc K) (Nat.le_of_ble_eq_true hle)
      have hR := K.2.2.2.2.2.2.2.2.2.2
      exact W.objInit K.1 K.2.1 K.2.2.2.1 (K.2.2.2.2.1 _ hl) (K.2.2.2.2.1 _ hi) (K.2.2.2.2.1 _ hc) (g := F0 m pc ls (.ref (b + a) :: st.map (mk_tv b sk))) rfl (mk_mlS K h1).symm rfl hd hR.1 (by show 2 * 0 + _ + 12 ≤ _; omega) (h H locs ls h1 h2 h3 h4 h5)
    · exact h.elim
  · exact h.elim
theorem mk_nfw : nativeFrameWords "java/lang/System" "arraycopy" 5 ≤ 40 := by decide +kernel
theorem sn_copy (K : mk_Cx p R s m args meth c cc own nL D cy b sk lim) {i : Nat} (hl : Cond.methodLink own i arraycopyName ∈ mk_wt) (hn : Cond.native arraycopyName ∈ mk_wt) (hst : Cond.static arraycopyName ∈ mk_wt) (hi : Cond.initialized "java/lang/System" ∈ mk_wt) (hd : decode cc pc = .ok (.invokestatic i, 3)) : mk_Sn p l e R s m args below meth c Qs nL D cy b sk lim cr Q pc (pi_copy (pc + 3)) := fun L st u sh P I J h H locs ls h1 h2 h3 h4 h5 => by
  unfold pi_copy at h
  split at h
  · rename_i n dp z sp a st
    split at h
    · rename_i hle
      have hr := mk_rest (b := b) (mk_skc K) (Nat.le_of_ble_eq_true hle)
      have hR := K.2.2.2.2.2.2.2.2.2.2
      obtain ⟨⟨k1, k2⟩, ⟨n1, n2, n3⟩, ⟨l1, l2⟩, h⟩ := h
      have hq1 := mk_sh k1 (by omega)
      have hq2 := mk_sh k2 (by omega)
      have hw : (mk_W cy b sh P I J).set z (b + z, .inl (cy 13, mj_ln sh z, .inl (va_cpy (I a) (I z) sp.toNatClampNeg dp.toNatClampNeg n.toNatClampNeg))) = mk_W cy b sh P (mj_w I z (va_cpy (I a) (I z) sp.toNatClampNeg dp.toNatClampNeg n.toNatClampNeg)) J := by
        rw [← mk_W_set (P := P) (I := I) (J := J) (P' := P) (J' := J) hq2 (fun c hc => ⟨rfl, mj_w_row I z _ hc, rfl⟩), mk_E_int, mj_w_eq]
      exact va_copyi K.1 K.2.1 (mk_mlS K h1) K.2.2.2.1 (K.2.2.2.2.1 _ hl) (K.2.2.2.2.1 _ hn) (K.2.2.2.2.1 _ hst) (K.2.2.2.2.1 _ hi) K.2.2.2.2.2.1 h4 mk_D h5 a z 0 0 (ty := .int) (by rw [mk_W_at hq1, mk_E_int]) (by rw [mk_W_at hq2, mk_E_int]) rfl rfl rfl n1 n2 n3 l1 l2 (fun _ _ => rfl) hR.1 (by have e := mk_nfw; omega) hd (fun H1 locs1 q1 q2 q3 => h H1 locs1 ls h1 h2 h3 (by rw [← hw]; exact q1) q3)
    · exact h.elim
  · exact h.elim
/-- what stands behind a method -/
def mk_Qc (D : va_G) (cy : Nat → ClassId) (b : Nat) (sk : Nat → Value) (n : Nat) (Q : mj_Q) : Array Value → State → Outcome → State → Prop := fun _ st oc t =>
  (∃ v sh P I J, oc = .returned (Option.map (mk_tv b sk) v) ∧ Q v sh P I J ∧ t.heap.size = b + sh.length ∧ sh.length = n ∧ va_P D mk_cl (mk_W cy b sh P I J) t.heap) ∧ va_F (mk_A b) st t
theorem mk_post {n : Nat} {v : Option Value} {sh : mj_S} {P : mj_P} {I : mj_I} {J : mj_J} {H : Heap} {locs : List Loc} (hQ : Q v sh P I J) (hz : H.size = b + sh.length) (hn : sh.length = n) (h4 : va_P D mk_cl (mk_W cy b sh P I J) H) (h5 : va_S (mk_A b) s.heap H locs) : ∀ t : State, t.heap = H → s.WarmedH t.vm → mk_Qc D cy b sk n Q args s (.returned (Option.map (mk_tv b sk) v)) t :=
  fun t ht _ => ⟨⟨v, sh, P, I, J, rfl, hQ, by rw [ht]; exact hz, hn, by rw [ht]; exact h4⟩, h5.F ht⟩
theorem sn_iret {n0 : Nat} (K : mk_Cx p R s m args meth c cc own nL D cy b sk lim) (hr : meth.sig.returnType = some .int) (hn0 : s.heap.size + lim.1 = b + n0) (hd : decode cc pc = .ok (.ireturn, 1)) : mk_Sn p l e R s m args below meth c (MQ below (mk_Qc D cy b sk n0 Q) args s lim.1 lim.2 (mk_A b)) nL D cy b sk lim cr Q pc pi_iret := fun L st u sh P I J h H locs ls h1 h2 h3 h4 h5 => by
  unfold pi_iret at h
  split at h
  · rename_i v
    obtain ⟨rfl, hQ⟩ := h
    have hlocks := K.2.2.2.2.2.2.2.1
    refine W_sz fun hz => ?_
    exact W.iret K.1 K.2.1 hr (mk_post (v := some (.int v)) hQ (mk_size h4 h5 K.2.2.2.2.2.2.1 hz h2) (by omega) h4 h5) h5.2.2 hd
  · exact h.elim
theorem sn_zret {n0 : Nat} {ty : FieldType} (K : mk_Cx p R s m args meth c cc own nL D cy b sk lim) (hr : meth.sig.returnType = some ty) (hn0 : s.heap.size + lim.1 = b + n0) (hd : decode cc pc = .ok (.ireturn, 1)) : mk_Sn p l e R s m args below meth c (MQ below (mk_Qc D cy b sk n0 Q) args s lim.1 lim.2 (mk_A b)) nL D cy b sk lim cr Q pc (pi_zret ty) := fun L st u sh P I J h H locs ls h1 h2 h3 h4 h5 => by
  unfold pi_zret at h
  split at h
  · rename_i v
    obtain ⟨rfl, hnw, hQ⟩ := h
    have hlocks := K.2.2.2.2.2.2.2.1
    refine W_sz fun hz => ?_
    exact W.zret K.1 K.2.1 hr hnw (mk_post (v := some (.int v)) hQ (mk_size h4 h5 K.2.2.2.2.2.2.1 hz h2) (by omega) h4 h5) h5.2.2 hd
  · exact h.elim
theorem sn_lret {n0 : Nat} (K : mk_Cx p R s m args meth c cc own nL D cy b sk lim) (hr : meth.sig.returnType = some .long) (hn0 : s.heap.size + lim.1 = b + n0) (hd : decode cc pc = .ok (.lreturn, 1)) : mk_Sn p l e R s m args below meth c (MQ below (mk_Qc D cy b sk n0 Q) args s lim.1 lim.2 (mk_A b)) nL D cy b sk lim cr Q pc pi_lret := fun L st u sh P I J h H locs ls h1 h2 h3 h4 h5 => by
  unfold pi_lret at h
  split at h
  · rename_i v
    obtain ⟨rfl, hQ⟩ := h
    have hlocks := K.2.2.2.2.2.2.2.1
    refine W_sz fun hz => ?_
    exact W.lret K.1 K.2.1 hr (mk_post (v := some (.long v)) hQ (mk_size h4 h5 K.2.2.2.2.2.2.1 hz h2) (by omega) h4 h5) h5.2.2 hd
  · exact h.elim
theorem sn_aret {n0 : Nat} {rt : FieldType} (K : mk_Cx p R s m args meth c cc own nL D cy b sk lim) (hr : meth.sig.returnType = some rt) (hrt : (∃ n, rt = .object n) ∨ ∃ t, rt = .array t) (hn0 : s.heap.size + lim.1 = b + n0) (hd : decode cc pc = .ok (.areturn, 1)) : mk_Sn p l e R s m args below meth c (MQ below (mk_Qc D cy b sk n0 Q) args s lim.1 lim.2 (mk_A b)) nL D cy b sk lim cr Q pc pi_aret := fun L st u sh P I J h H locs ls h1 h2 h3 h4 h5 => by
  unfold pi_aret at h
  split at h
  · rename_i v
    obtain ⟨rfl, hQ⟩ := h
    have hlocks := K.2.2.2.2.2.2.2.1
    refine W_sz fun hz => ?_
    exact W.aret K.1 K.2.1 hr hrt (Or.inr ⟨_, rfl⟩) (mk_post (v := some (.ref v)) hQ (mk_size h4 h5 K.2.2.2.2.2.2.1 hz h2) (by omega) h4 h5) h5.2.2 hd
  · exact h.elim
theorem sn_ret {n0 : Nat} (K : mk_Cx p R s m args meth c cc own nL D cy b sk lim) (hr : meth.sig.returnType = none) (hn0 : s.heap.size + lim.1 = b + n0) (hd : decode cc pc = .ok (.return_, 1)) : mk_Sn p l e R s m args below meth c (MQ below (mk_Qc D cy b sk n0 Q) args s lim.1 lim.2 (mk_A b)) nL D cy b sk lim cr Q pc pi_ret := fun L st u sh P I J h H locs ls h1 h2 h3 h4 h5 => by
  unfold pi_ret at h
  split at h
  · obtain ⟨rfl, hQ⟩ := h
    have hlocks := K.2.2.2.2.2.2.2.1
    refine W_sz fun hz => ?_
    exact W.vret K.1 K.2.1 hr (mk_post (v := none) hQ (mk_size h4 h5 K.2.2.2.2.2.2.1 hz h2) (by omega) h4 h5) h5.2.2 hd
  · exact h.elim
end SND4
