set_option maxRecDepth 100000 in
set_option maxHeartbeats 4000000 in
theorem rw_Line_copyFrom : mk_Rows n_Line_copyFrom := by
  intro p l e R s m args below meth c D cy b sk lim cr Q n0 d E
  show ∀ q ∈ t_Line_copyFrom, _
  refine mk_cons (sn_aload_n (k := 0) E.1 E.2.2.2.1 (by decide +kernel) rfl) ?_
  refine mk_cons (sn_aload_n (k := 1) E.1 E.2.2.2.1 (by decide +kernel) rfl) ?_
  refine mk_cons (sn_getI (i := 9) (c0 := 0) E.1 cls_2 (by decide) rfl (by decide) kf_Line_9 (by decide +kernel)) ?_
  refine mk_cons (sn_putI (i := 9) E.1 cls_2 (by decide) rfl rfl rfl kf_Line_9 (by decide +kernel)) ?_
  refine mk_cons (sn_aload_n (k := 0) E.1 E.2.2.2.1 (by decide +kernel) rfl) ?_
  refine mk_cons (sn_aload_n (k := 1) E.1 E.2.2.2.1 (by decide +kernel) rfl) ?_
  refine mk_cons (sn_getI (i := 15) (c0 := 0) E.1 cls_2 (by decide) rfl (by decide) kf_Line_15 (by decide +kernel)) ?_
  refine mk_cons (sn_putI (i := 15) E.1 cls_2 (by decide) rfl rfl rfl kf_Line_15 (by decide +kernel)) ?_
  refine mk_cons (sn_aload_n (k := 0) E.1 E.2.2.2.1 (by decide +kernel) rfl) ?_
  refine mk_cons (sn_aload_n (k := 1) E.1 E.2.2.2.1 (by decide +kernel) rfl) ?_
  refine mk_cons (sn_getI (i := 18) (c0 := 0) E.1 cls_2 (by decide) rfl (by decide) kf_Line_18 (by decide +kernel)) ?_
  refine mk_cons (sn_putI (i := 18) E.1 cls_2 (by decide) rfl rfl rfl kf_Line_18 (by decide +kernel)) ?_
  refine mk_cons (sn_aload_n (k := 0) E.1 E.2.2.2.1 (by decide +kernel) rfl) ?_
  refine mk_cons (sn_aload_n (k := 1) E.1 E.2.2.2.1 (by decide +kernel) rfl) ?_
  refine mk_cons (sn_getI (i := 21) (c0 := 0) E.1 cls_2 (by decide) rfl (by decide) kf_Line_21 (by decide +kernel)) ?_
  refine mk_cons (sn_putI (i := 21) E.1 cls_2 (by decide) rfl rfl rfl kf_Line_21 (by decide +kernel)) ?_
  refine mk_cons (sn_aload_n (k := 0) E.1 E.2.2.2.1 (by decide +kernel) rfl) ?_
  refine mk_cons (sn_aload_n (k := 1) E.1 E.2.2.2.1 (by decide +kernel) rfl) ?_
  refine mk_cons (sn_getI (i := 24) (c0 := 0) E.1 cls_2 (by decide) rfl (by decide) kf_Line_24 (by decide +kernel)) ?_
  refine mk_cons (sn_putI (i := 24) E.1 cls_2 (by decide) rfl rfl rfl kf_Line_24 (by decide +kernel)) ?_
  refine mk_cons (sn_aload_n (k := 0) E.1 E.2.2.2.1 (by decide +kernel) rfl) ?_
  refine mk_cons (sn_aload_n (k := 1) E.1 E.2.2.2.1 (by decide +kernel) rfl) ?_
  refine mk_cons (sn_getI (i := 27) (c0 := 0) E.1 cls_2 (by decide) rfl (by decide) kf_Line_27 (by decide +kernel)) ?_
  refine mk_cons (sn_putI (i := 27) E.1 cls_2 (by decide) rfl rfl rfl kf_Line_27 (by decide +kernel)) ?_
  refine mk_cons (sn_aload_n (k := 0) E.1 E.2.2.2.1 (by decide +kernel) rfl) ?_
  refine mk_cons (sn_aload_n (k := 1) E.1 E.2.2.2.1 (by decide +kernel) rfl) ?_
  refine mk_cons (sn_getI (i := 30) (c0 := 0) E.1 cls_2 (by decide) rfl (by decide) kf_Line_30 (by decide +kernel)) ?_
  refine mk_cons (sn_putI (i := 30) E.1 cls_2 (by decide) rfl rfl rfl kf_Line_30 (by decide +kernel)) ?_
  refine mk_cons (sn_ret E.1 E.2.1 E.2.2.2.2.2.2.1 (by decide +kernel)) ?_
  exact mk_nil
set_option maxRecDepth 100000 in
set_option maxHeartbeats 4000000 in
theorem rw_Message_init : mk_Rows n_Message_init := by
  intro p l e R s m args below meth c D cy b sk lim cr Q n0 d E
  show ∀ q ∈ t_Message_init, _
  refine mk_cons (sn_aload_n (k := 0) E.1 E.2.2.2.1 (by decide +kernel) rfl) ?_
  refine mk_cons (sn_oini (i := 3) E.1 km_Message_3 kn_oini kd_oini (by decide +kernel)) ?_
  refine mk_cons (sn_aload_n (k := 0) E.1 E.2.2.2.1 (by decide +kernel) rfl) ?_
  refine mk_cons (sn_bipush (n := 36) E.1 (by decide +kernel) (by decide +kernel)) ?_
  refine mk_cons (sn_newI E.1 ka_int (by decide +kernel)) ?_
  refine mk_cons (sn_putRF (i := 9) E.1 E.2.2.1 cls_3 (by decide) rfl (Or.inr ⟨_, rfl⟩) rfl rfl kf_Message_9 (by decide +kernel)) ?_
  refine mk_cons (sn_aload_n (k := 0) E.1 E.2.2.2.1 (by decide +kernel) rfl) ?_
  refine mk_cons (sn_iconst (n := 0) E.1 (by decide +kernel) (by decide +kernel)) ?_
  refine mk_cons (sn_putI (i := 15) E.1 cls_3 (by decide) rfl rfl rfl kf_Message_15 (by decide +kernel)) ?_
  refine mk_cons (sn_ret E.1 E.2.1 E.2.2.2.2.2.2.1 (by decide +kernel)) ?_
  exact mk_nil
set_option maxRecDepth 100000 in
set_option maxHeartbeats 4000000 in
theorem rw_Message_clear : mk_Rows n_Message_clear := by
  intro p l e R s m args below meth c D cy b sk lim cr Q n0 d E
  show ∀ q ∈ t_Message_clear, _
  refine mk_cons (sn_aload_n (k := 0) E.1 E.2.2.2.1 (by decide +kernel) rfl) ?_
  refine mk_cons (sn_iconst (n := 0) E.1 (by decide +kernel) (by decide +kernel)) ?_
  refine mk_cons (sn_putI (i := 15) E.1 cls_3 (by decide) rfl rfl rfl kf_Message_15 (by decide +kernel)) ?_
  refine mk_cons (sn_ret E.1 E.2.1 E.2.2.2.2.2.2.1 (by decide +kernel)) ?_
  exact mk_nil
set_option maxRecDepth 100000 in
set_option maxHeartbeats 4000000 in
theorem rw_Message_append : mk_Rows n_Message_append := by
  intro p l e R s m args below meth c D cy b sk lim cr Q n0 d E
  show ∀ q ∈ t_Message_append, _
  refine mk_cons (sn_aload_n (k := 0) E.1 E.2.2.2.1 (by decide +kernel) rfl) ?_
  refine mk_cons (sn_getI (i := 15) (c0 := 0) E.1 cls_3 (by decide) rfl (by decide) kf_Message_15 (by decide +kernel)) ?_
  refine mk_cons (sn_aload_n (k := 0) E.1 E.2.2.2.1 (by decide +kernel) rfl) ?_
  refine mk_cons (sn_getR (i := 9) E.1 cls_3 (by decide) rfl kf_Message_9 (by decide +kernel)) ?_
  refine mk_cons (sn_alen E.1 (by decide +kernel)) ?_
  refine mk_cons (sn_cge (off := 23) E.1 (by decide +kernel) (by decide +kernel)) ?_
  refine mk_cons (sn_aload_n (k := 0) E.1 E.2.2.2.1 (by decide +kernel) rfl) ?_
  refine mk_cons (sn_getR (i := 9) E.1 cls_3 (by decide) rfl kf_Message_9 (by decide +kernel)) ?_
  refine mk_cons (sn_aload_n (k := 0) E.1 E.2.2.2.1 (by decide +kernel) rfl) ?_
  refine mk_cons (sn_getI (i := 15) (c0 := 0) E.1 cls_3 (by decide) rfl (by decide) kf_Message_15 (by decide +kernel)) ?_
  refine mk_cons (sn_iload_n (k := 1) E.1 (by decide +kernel) rfl) ?_
  refine mk_cons (sn_iast E.1 (by decide +kernel)) ?_
  refine mk_cons (sn_aload_n (k := 0) E.1 E.2.2.2.1 (by decide +kernel) rfl) ?_
  refine mk_cons (sn_dup E.1 (by decide +kernel)) ?_
  refine mk_cons (sn_getI (i := 15) (c0 := 0) E.1 cls_3 (by decide) rfl (by decide) kf_Message_15 (by decide +kernel)) ?_
  refine mk_cons (sn_iconst (n := 1) E.1 (by decide +kernel) (by decide +kernel)) ?_
  refine mk_cons (sn_iadd E.1 (by decide +kernel)) ?_
  refine mk_cons (sn_putI (i := 15) E.1 cls_3 (by decide) rfl rfl rfl kf_Message_15 (by decide +kernel)) ?_
  refine mk_cons (sn_ret E.1 E.2.1 E.2.2.2.2.2.2.1 (by decide +kernel)) ?_
  exact mk_nil
set_option maxRecDepth 100000 in
set_option maxHeartbeats 4000000 in
theorem rw_Message_digitAt : mk_Rows n_Message_digitAt := by
  intro p l e R s m args below meth c D cy b sk lim cr Q n0 d E
  show ∀ q ∈ t_Message_digitAt, _
  refine mk_cons (sn_iload_n (k := 1) E.1 (by decide +kernel) rfl) ?_
  refine mk_cons (sn_iflt (off := 20) E.1 (by decide +kernel) (by decide +kernel)) ?_
  refine mk_cons (sn_iload_n (k := 1) E.1 (by decide +kernel) rfl) ?_
  refine mk_cons (sn_aload_n (k := 0) E.1 E.2.2.2.1 (by decide +kernel) rfl) ?_
  refine mk_cons (sn_getI (i := 15) (c0 := 0) E.1 cls_3 (by decide) rfl (by decide) kf_Message_15 (by decide +kernel)) ?_
  refine mk_cons (sn_cge (off := 12) E.1 (by decide +kernel) (by decide +kernel)) ?_
  refine mk_cons (sn_aload_n (k := 0) E.1 E.2.2.2.1 (by decide +kernel) rfl) ?_
  refine mk_cons (sn_getR (i := 9) E.1 cls_3 (by decide) rfl kf_Message_9 (by decide +kernel)) ?_
  refine mk_cons (sn_iload_n (k := 1) E.1 (by decide +kernel) rfl) ?_
  refine mk_cons (sn_iald E.1 (by decide +kernel)) ?_
  refine mk_cons (sn_goto (off := 4) E.1 (by decide +kernel) (by decide +kernel)) ?_
  refine mk_cons (sn_iload_n (k := 2) E.1 (by decide +kernel) rfl) ?_
  refine mk_cons (sn_iret E.1 E.2.1 E.2.2.2.2.2.2.1 (by decide +kernel)) ?_
  exact mk_nil
set_option maxRecDepth 100000 in
set_option maxHeartbeats 4000000 in
theorem rw_Message_copyFrom : mk_Rows n_Message_copyFrom := by
  intro p l e R s m args below meth c D cy b sk lim cr Q n0 d E
  show ∀ q ∈ t_Message_copyFrom, _
  refine mk_cons (sn_aload_n (k := 1) E.1 E.2.2.2.1 (by decide +kernel) rfl) ?_
  refine mk_cons (sn_getR (i := 9) E.1 cls_3 (by decide) rfl kf_Message_9 (by decide +kernel)) ?_
  refine mk_cons (sn_iconst (n := 0) E.1 (by decide +kernel) (by decide +kernel)) ?_
  refine mk_cons (sn_aload_n (k := 0) E.1 E.2.2.2.1 (by decide +kernel) rfl) ?_
  refine mk_cons (sn_getR (i := 9) E.1 cls_3 (by decide) rfl kf_Message_9 (by decide +kernel)) ?_
  refine mk_cons (sn_iconst (n := 0) E.1 (by decide +kernel) (by decide +kernel)) ?_
  refine mk_cons (sn_bipush (n := 36) E.1 (by decide +kernel) (by decide +kernel)) ?_
  refine mk_cons (sn_copy (i := 19) E.1 km_Message_19 kn_copy ks_copy kz_System (by decide +kernel)) ?_
  refine mk_cons (sn_aload_n (k := 0) E.1 E.2.2.2.1 (by decide +kernel) rfl) ?_
  refine mk_cons (sn_aload_n (k := 1) E.1 E.2.2.2.1 (by decide +kernel) rfl) ?_
  refine mk_cons (sn_getI (i := 15) (c0 := 0) E.1 cls_3 (by decide) rfl (by decide) kf_Message_15 (by decide +kernel)) ?_
  refine mk_cons (sn_putI (i := 15) E.1 cls_3 (by decide) rfl rfl rfl kf_Message_15 (by decide +kernel)) ?_
  refine mk_cons (sn_ret E.1 E.2.1 E.2.2.2.2.2.2.1 (by decide +kernel)) ?_
  exact mk_nil
set_option maxRecDepth 100000 in
set_option maxHeartbeats 4000000 in
theorem rw_Message_sameAs : mk_Rows n_Message_sameAs := by
  intro p l e R s m args below meth c D cy b sk lim cr Q n0 d E
  show ∀ q ∈ t_Message_sameAs, _
  refine mk_cons (sn_aload_n (k := 0) E.1 E.2.2.2.1 (by decide +kernel) rfl) ?_
  refine mk_cons (sn_getI (i := 15) (c0 := 0) E.1 cls_3 (by decide) rfl (by decide) kf_Message_15 (by decide +kernel)) ?_
  refine mk_cons (sn_aload_n (k := 1) E.1 E.2.2.2.1 (by decide +kernel) rfl) ?_
  refine mk_cons (sn_getI (i := 15) (c0 := 0) E.1 cls_3 (by decide) rfl (by decide) kf_Message_15 (by decide +kernel)) ?_
  refine mk_cons (sn_ceq (off := 5) E.1 (by decide +kernel) (by decide +kernel)) ?_
  refine mk_cons (sn_iconst (n := 0) E.1 (by decide +kernel) (by decide +kernel)) ?_
  refine mk_cons (sn_zret E.1 E.2.1 E.2.2.2.2.2.2.1 (by decide +kernel)) ?_
  refine mk_cons (sn_iconst (n := 0) E.1 (by decide +kernel) (by decide +kernel)) ?_
  refine mk_cons (sn_istore_n (k := 2) E.1 (by decide +kernel) rfl (by decide +kernel)) ?_
  refine mk_cons (sn_iload_n (k := 2) E.1 (by decide +kernel) rfl) ?_
  refine mk_cons (sn_aload_n (k := 0) E.1 E.2.2.2.1 (by decide +kernel) rfl) ?_
  refine mk_cons (sn_getI (i := 15) (c0 := 0) E.1 cls_3 (by decide) rfl (by decide) kf_Message_15 (by decide +kernel)) ?_
  refine mk_cons (sn_cge (off := 26) E.1 (by decide +kernel) (by decide +kernel)) ?_
  refine mk_cons (sn_aload_n (k := 0) E.1 E.2.2.2.1 (by decide +kernel) rfl) ?_
  refine mk_cons (sn_getR (i := 9) E.1 cls_3 (by decide) rfl kf_Message_9 (by decide +kernel)) ?_
  refine mk_cons (sn_iload_n (k := 2) E.1 (by decide +kernel) rfl) ?_
  refine mk_cons (sn_iald E.1 (by decide +kernel)) ?_
  refine mk_cons (sn_aload_n (k := 1) E.1 E.2.2.2.1 (by decide +kernel) rfl) ?_
  refine mk_cons (sn_getR (i := 9) E.1 cls_3 (by decide) rfl kf_Message_9 (by decide +kernel)) ?_
  refine mk_cons (sn_iload_n (k := 2) E.1 (by decide +kernel) rfl) ?_
  refine mk_cons (sn_iald E.1 (by decide +kernel)) ?_
  refine mk_cons (sn_ceq (off := 5) E.1 (by decide +kernel) (by decide +kernel)) ?_
  refine mk_cons (sn_iconst (n := 0) E.1 (by decide +kernel) (by decide +kernel)) ?_
  refine mk_cons (sn_zret E.1 E.2.1 E.2.2.2.2.2.2.1 (by decide +kernel)) ?_
  refine mk_cons (sn_iinc (n := 1) E.1 (by decide +kernel) (by decide +kernel) (by decide +kernel)) ?_
  refine mk_cons (sn_goto (off := (-28)) E.1 (by decide +kernel) (by decide +kernel)) ?_
  refine mk_cons (sn_iconst (n := 1) E.1 (by decide +kernel) (by decide +kernel)) ?_
  refine mk_cons (sn_zret E.1 E.2.1 E.2.2.2.2.2.2.1 (by decide +kernel)) ?_
  exact mk_nil
set_option maxRecDepth 100000 in
set_option maxHeartbeats 4000000 in
theorem rw_Message_value : mk_Rows n_Message_value := by
  intro p l e R s m args below meth c D cy b sk lim cr Q n0 d E
  show ∀ q ∈ t_Message_value, _
  refine mk_cons (sn_lconst (n := 0) E.1 (by decide +kernel) (by decide +kernel)) ?_
  refine mk_cons (sn_lstore_n (k := 1) E.1 (by decide +kernel) rfl (by decide +kernel)) ?_
  refine mk_cons (sn_iconst (n := 0) E.1 (by decide +kernel) (by decide +kernel)) ?_
  refine mk_cons (sn_aload_n (k := 0) E.1 E.2.2.2.1 (by decide +kernel) rfl) ?_
  refine mk_cons (sn_getI (i := 15) (c0 := 0) E.1 cls_3 (by decide) rfl (by decide) kf_Message_15 (by decide +kernel)) ?_
  refine mk_cons (sn_bipush (n := 9) E.1 (by decide +kernel) (by decide +kernel)) ?_
  refine mk_cons (sn_isub E.1 (by decide +kernel)) ?_
  refine mk_cons (sn_mmax (i := 25) E.1 km_Message_25 ks_mmax kz_Math kd_mmax (by decide +kernel)) ?_
  refine mk_cons (sn_istore_n (k := 3) E.1 (by decide +kernel) rfl (by decide +kernel)) ?_
  refine mk_cons (sn_iload_n (k := 3) E.1 (by decide +kernel) rfl) ?_
  refine mk_cons (sn_aload_n (k := 0) E.1 E.2.2.2.1 (by decide +kernel) rfl) ?_
  refine mk_cons (sn_getI (i := 15) (c0 := 0) E.1 cls_3 (by decide) rfl (by decide) kf_Message_15 (by decide +kernel)) ?_
  refine mk_cons (sn_cge (off := 23) E.1 (by decide +kernel) (by decide +kernel)) ?_
  refine mk_cons (sn_lload_n (k := 1) E.1 (by decide +kernel) rfl) ?_
  refine mk_cons (sn_ldc2 (i := 31) E.1 kl_Message_31 (by decide +kernel)) ?_
  refine mk_cons (sn_lmul E.1 (by decide +kernel)) ?_
  refine mk_cons (sn_aload_n (k := 0) E.1 E.2.2.2.1 (by decide +kernel) rfl) ?_
  refine mk_cons (sn_getR (i := 9) E.1 cls_3 (by decide) rfl kf_Message_9 (by decide +kernel)) ?_
  refine mk_cons (sn_iload_n (k := 3) E.1 (by decide +kernel) rfl) ?_
  refine mk_cons (sn_iald E.1 (by decide +kernel)) ?_
  refine mk_cons (sn_i2l E.1 (by decide +kernel)) ?_
  refine mk_cons (sn_ladd E.1 (by decide +kernel)) ?_
  refine mk_cons (sn_lstore_n (k := 1) E.1 (by decide +kernel) rfl (by decide +kernel)) ?_
  refine mk_cons (sn_iinc (n := 1) E.1 (by decide +kernel) (by decide +kernel) (by decide +kernel)) ?_
  refine mk_cons (sn_goto (off := (-25)) E.1 (by decide +kernel) (by decide +kernel)) ?_
  refine mk_cons (sn_lload_n (k := 1) E.1 (by decide +kernel) rfl) ?_
  refine mk_cons (sn_lret E.1 E.2.1 E.2.2.2.2.2.2.1 (by decide +kernel)) ?_
  exact mk_nil
set_option maxRecDepth 100000 in
set_option maxHeartbeats 4000000 in
theorem rw_Message_digitSet : mk_Rows n_Message_digitSet := by
  intro p l e R s m args below meth c D cy b sk lim cr Q n0 d E
  show ∀ q ∈ t_Message_digitSet, _
  refine mk_cons (sn_iconst (n := 0) E.1 (by decide +kernel) (by decide +kernel)) ?_
  refine mk_cons (sn_istore_n (k := 1) E.1 (by decide +kernel) rfl (by decide +kernel)) ?_
  refine mk_cons (sn_iconst (n := 0) E.1 (by decide +kernel) (by decide +kernel)) ?_
  refine mk_cons (sn_istore_n (k := 2) E.1 (by decide +kernel) rfl (by decide +kernel)) ?_
  refine mk_cons (sn_iload_n (k := 2) E.1 (by decide +kernel) rfl) ?_
  refine mk_cons (sn_aload_n (k := 0) E.1 E.2.2.2.1 (by decide +kernel) rfl) ?_
  refine mk_cons (sn_getI (i := 15) (c0 := 0) E.1 cls_3 (by decide) rfl (by decide) kf_Message_15 (by decide +kernel)) ?_
  refine mk_cons (sn_cge (off := 20) E.1 (by decide +kernel) (by decide +kernel)) ?_
  refine mk_cons (sn_iload_n (k := 1) E.1 (by decide +kernel) rfl) ?_
  refine mk_cons (sn_iconst (n := 1) E.1 (by decide +kernel) (by decide +kernel)) ?_
  refine mk_cons (sn_aload_n (k := 0) E.1 E.2.2.2.1 (by decide +kernel) rfl) ?_
  refine mk_cons (sn_getR (i := 9) E.1 cls_3 (by decide) rfl kf_Message_9 (by decide +kernel)) ?_
  refine mk_cons (sn_iload_n (k := 2) E.1 (by decide +kernel) rfl) ?_
  refine mk_cons (sn_iald E.1 (by decide +kernel)) ?_
  refine mk_cons (sn_ishl E.1 (by decide +kernel)) ?_
  refine mk_cons (sn_ior E.1 (by decide +kernel)) ?_
  refine mk_cons (sn_istore_n (k := 1) E.1 (by decide +kernel) rfl (by decide +kernel)) ?_
  refine mk_cons (sn_iinc (n := 1) E.1 (by decide +kernel) (by decide +kernel) (by decide +kernel)) ?_
  refine mk_cons (sn_goto (off := (-22)) E.1 (by decide +kernel) (by decide +kernel)) ?_
  refine mk_cons (sn_iload_n (k := 1) E.1 (by decide +kernel) rfl) ?_
  refine mk_cons (sn_iret E.1 E.2.1 E.2.2.2.2.2.2.1 (by decide +kernel)) ?_
  exact mk_nil
set_option maxRecDepth 100000 in
set_option maxHeartbeats 4000000 in
theorem rw_Message_keepFrom : mk_Rows n_Message_keepFrom := by
  intro p l e R s m args below meth c D cy b sk lim cr Q n0 d E
  show ∀ q ∈ t_Message_keepFrom, _
  refine mk_cons (sn_aload_n (k := 1) E.1 E.2.2.2.1 (by decide +kernel) rfl) ?_
  refine mk_cons (sn_getI (i := 15) (c0 := 0) E.1 cls_3 (by decide) rfl (by decide) kf_Message_15 (by decide +kernel)) ?_
  refine mk_cons (sn_istore_n (k := 3) E.1 (by decide +kernel) rfl (by decide +kernel)) ?_
  refine mk_cons (sn_aload_n (k := 0) E.1 E.2.2.2.1 (by decide +kernel) rfl) ?_
  refine mk_cons (sn_iconst (n := 0) E.1 (by decide +kernel) (by decide +kernel)) ?_
  refine mk_cons (sn_putI (i := 15) E.1 cls_3 (by decide) rfl rfl rfl kf_Message_15 (by decide +kernel)) ?_
  refine mk_cons (sn_iconst (n := 0) E.1 (by decide +kernel) (by decide +kernel)) ?_
  refine mk_cons (sn_istore E.1 (by decide +kernel) (by decide +kernel)) ?_
  refine mk_cons (sn_iload E.1 (by decide +kernel)) ?_
  refine mk_cons (sn_iload_n (k := 3) E.1 (by decide +kernel) rfl) ?_
  refine mk_cons (sn_cge (off := 33) E.1 (by decide +kernel) (by decide +kernel)) ?_
  refine mk_cons (sn_aload_n (k := 1) E.1 E.2.2.2.1 (by decide +kernel) rfl) ?_
  refine mk_cons (sn_getR (i := 9) E.1 cls_3 (by decide) rfl kf_Message_9 (by decide +kernel)) ?_
  refine mk_cons (sn_iload E.1 (by decide +kernel)) ?_
  refine mk_cons (sn_iald E.1 (by decide +kernel)) ?_
  refine mk_cons (sn_istore E.1 (by decide +kernel) (by decide +kernel)) ?_
  refine mk_cons (sn_iload_n (k := 2) E.1 (by decide +kernel) rfl) ?_
  refine mk_cons (sn_iload E.1 (by decide +kernel)) ?_
  refine mk_cons (sn_ishr E.1 (by decide +kernel)) ?_
  refine mk_cons (sn_iconst (n := 1) E.1 (by decide +kernel) (by decide +kernel)) ?_
  refine mk_cons (sn_iand E.1 (by decide +kernel)) ?_
  refine mk_cons (sn_ifne (off := 9) E.1 (by decide +kernel) (by decide +kernel)) ?_
  refine mk_cons (sn_aload_n (k := 0) E.1 E.2.2.2.1 (by decide +kernel) rfl) ?_
  refine mk_cons (sn_iload E.1 (by decide +kernel)) ?_
  refine mk_cons (sn_callV (i := 33) E.1 E.2.2.2.1 E.2.2.2.2.1 E.2.2.2.2.2.1 (E.2.2.2.2.2.2.2 n_Message_append) ok_Message_append cls_3 rfl km_Message_33 kn_Message_append kv_Message_append (by decide +kernel)) ?_
  refine mk_cons (sn_iinc (n := 1) E.1 (by decide +kernel) (by decide +kernel) (by decide +kernel)) ?_
  refine mk_cons (sn_goto (off := (-33)) E.1 (by decide +kernel) (by decide +kernel)) ?_
  refine mk_cons (sn_iload_n (k := 3) E.1 (by decide +kernel) rfl) ?_
  refine mk_cons (sn_aload_n (k := 0) E.1 E.2.2.2.1 (by decide +kernel) rfl) ?_
  refine mk_cons (sn_getI (i := 15) (c0 := 0) E.1 cls_3 (by decide) rfl (by decide) kf_Message_15 (by decide +kernel)) ?_
  refine mk_cons (sn_isub E.1 (by decide +kernel)) ?_
  refine mk_cons (sn_iret E.1 E.2.1 E.2.2.2.2.2.2.1 (by decide +kernel)) ?_
  exact mk_nil
set_option maxRecDepth 100000 in
set_option maxHeartbeats 4000000 in
theorem rw_Parser_init : mk_Rows n_Parser_init := by
  intro p l e R s m args below meth c D cy b sk lim cr Q n0 d E
  show ∀ q ∈ t_Parser_init, _
  refine mk_cons (sn_aload_n (k := 0) E.1 E.2.2.2.1 (by decide +kernel) rfl) ?_
  refine mk_cons (sn_oini (i := 3) E.1 km_Parser_3 kn_oini kd_oini (by decide +kernel)) ?_
  refine mk_cons (sn_aload_n (k := 0) E.1 E.2.2.2.1 (by decide +kernel) rfl) ?_
  refine mk_cons (sn_bipush (n := 32) E.1 (by decide +kernel) (by decide +kernel)) ?_
  refine mk_cons (sn_newI E.1 ka_int (by decide +kernel)) ?_
  refine mk_cons (sn_putRF (i := 9) E.1 E.2.2.1 cls_4 (by decide) rfl (Or.inr ⟨_, rfl⟩) rfl rfl kf_Parser_9 (by decide +kernel)) ?_
  refine mk_cons (sn_aload_n (k := 0) E.1 E.2.2.2.1 (by decide +kernel) rfl) ?_
  refine mk_cons (sn_iconst (n := 0) E.1 (by decide +kernel) (by decide +kernel)) ?_
  refine mk_cons (sn_putI (i := 15) E.1 cls_4 (by decide) rfl rfl rfl kf_Parser_15 (by decide +kernel)) ?_
  refine mk_cons (sn_aload_n (k := 0) E.1 E.2.2.2.1 (by decide +kernel) rfl) ?_
  refine mk_cons (sn_iconst (n := 0) E.1 (by decide +kernel) (by decide +kernel)) ?_
  refine mk_cons (sn_putI (i := 19) E.1 cls_4 (by decide) rfl rfl rfl kf_Parser_19 (by decide +kernel)) ?_
  refine mk_cons (sn_aload_n (k := 0) E.1 E.2.2.2.1 (by decide +kernel) rfl) ?_
  refine mk_cons (sn_iconst (n := 0) E.1 (by decide +kernel) (by decide +kernel)) ?_
  refine mk_cons (sn_putI (i := 22) E.1 cls_4 (by decide) rfl rfl rfl kf_Parser_22 (by decide +kernel)) ?_
  refine mk_cons (sn_aload_n (k := 0) E.1 E.2.2.2.1 (by decide +kernel) rfl) ?_
  refine mk_cons (sn_iconst (n := 0) E.1 (by decide +kernel) (by decide +kernel)) ?_
  refine mk_cons (sn_putZ (i := 25) E.1 cls_4 (by decide) rfl rfl rfl kf_Parser_25 (by decide +kernel)) ?_
  refine mk_cons (sn_aload_n (k := 0) E.1 E.2.2.2.1 (by decide +kernel) rfl) ?_
  refine mk_cons (sn_new (i := 29) E.1 cls_7 rfl kk_Parser_29 ki_Rules kz_Rules (by decide +kernel)) ?_
  refine mk_cons (sn_dup E.1 (by decide +kernel)) ?_
  refine mk_cons (sn_callI (i := 31) E.1 E.2.2.2.1 E.2.2.2.2.1 E.2.2.2.2.2.1 (E.2.2.2.2.2.2.2 n_Rules_init) ok_Rules_init rfl rfl km_Parser_31 kn_Rules_init (by decide +kernel)) ?_
  refine mk_cons (sn_putR (i := 32) E.1 cls_4 (by decide) rfl (Or.inl ⟨_, rfl⟩) rfl kf_Parser_32 (by decide +kernel)) ?_
  refine mk_cons (sn_aload_n (k := 0) E.1 E.2.2.2.1 (by decide +kernel) rfl) ?_
  refine mk_cons (sn_iconst (n := 0) E.1 (by decide +kernel) (by decide +kernel)) ?_
  refine mk_cons (sn_putI (i := 36) E.1 cls_4 (by decide) rfl rfl rfl kf_Parser_36 (by decide +kernel)) ?_
  refine mk_cons (sn_aload_n (k := 0) E.1 E.2.2.2.1 (by decide +kernel) rfl) ?_
  refine mk_cons (sn_iconst (n := (-1)) E.1 (by decide +kernel) (by decide +kernel)) ?_
  refine mk_cons (sn_putI (i := 39) E.1 cls_4 (by decide) rfl rfl rfl kf_Parser_39 (by decide +kernel)) ?_
  refine mk_cons (sn_aload_n (k := 0) E.1 E.2.2.2.1 (by decide +kernel) rfl) ?_
  refine mk_cons (sn_aload_n (k := 1) E.1 E.2.2.2.1 (by decide +kernel) rfl) ?_
  refine mk_cons (sn_putRF (i := 42) E.1 E.2.2.1 cls_4 (by decide) rfl (Or.inl ⟨_, rfl⟩) rfl rfl kf_Parser_42 (by decide +kernel)) ?_
  refine mk_cons (sn_ret E.1 E.2.1 E.2.2.2.2.2.2.1 (by decide +kernel)) ?_
  exact mk_nil
set_option maxRecDepth 100000 in
set_option maxHeartbeats 4000000 in
theorem rw_Parser_clearFault : mk_Rows n_Parser_clearFault := by
  intro p l e R s m args below meth c D cy b sk lim cr Q n0 d E
  show ∀ q ∈ t_Parser_clearFault, _
  refine mk_cons (sn_aload_n (k := 0) E.1 E.2.2.2.1 (by decide +kernel) rfl) ?_
  refine mk_cons (sn_iconst (n := 0) E.1 (by decide +kernel) (by decide +kernel)) ?_
  refine mk_cons (sn_putI (i := 36) E.1 cls_4 (by decide) rfl rfl rfl kf_Parser_36 (by decide +kernel)) ?_
  refine mk_cons (sn_aload_n (k := 0) E.1 E.2.2.2.1 (by decide +kernel) rfl) ?_
  refine mk_cons (sn_iconst (n := (-1)) E.1 (by decide +kernel) (by decide +kernel)) ?_
  refine mk_cons (sn_putI (i := 39) E.1 cls_4 (by decide) rfl rfl rfl kf_Parser_39 (by decide +kernel)) ?_
  refine mk_cons (sn_ret E.1 E.2.1 E.2.2.2.2.2.2.1 (by decide +kernel)) ?_
  exact mk_nil
set_option maxRecDepth 100000 in
set_option maxHeartbeats 4000000 in
theorem rw_Parser_readTape : mk_Rows n_Parser_readTape := by
  intro p l e R s m args below meth c D cy b sk lim cr Q n0 d E
  show ∀ q ∈ t_Parser_readTape, _
  refine mk_cons (sn_aload_n (k := 0) E.1 E.2.2.2.1 (by decide +kernel) rfl) ?_
  refine mk_cons (sn_getR (i := 32) E.1 cls_4 (by decide) rfl kf_Parser_32 (by decide +kernel)) ?_
  refine mk_cons (sn_callV (i := 46) E.1 E.2.2.2.1 E.2.2.2.2.1 E.2.2.2.2.2.1 (E.2.2.2.2.2.2.2 n_Rules_clear) ok_Rules_clear cls_7 rfl km_Parser_46 kn_Rules_clear kv_Rules_clear (by decide +kernel)) ?_
  refine mk_cons (sn_aload_n (k := 0) E.1 E.2.2.2.1 (by decide +kernel) rfl) ?_
  refine mk_cons (sn_getR (i := 42) E.1 cls_4 (by decide) rfl kf_Parser_42 (by decide +kernel)) ?_
  refine mk_cons (sn_callV (i := 49) E.1 E.2.2.2.1 E.2.2.2.2.1 E.2.2.2.2.2.1 (E.2.2.2.2.2.2.2 n_Tape_rewind) ok_Tape_rewind cls_9 rfl km_Parser_49 kn_Tape_rewind kv_Tape_rewind (by decide +kernel)) ?_
  refine mk_cons (sn_iconst (n := 1) E.1 (by decide +kernel) (by decide +kernel)) ?_
  refine mk_cons (sn_istore_n (k := 1) E.1 (by decide +kernel) rfl (by decide +kernel)) ?_
  refine mk_cons (sn_iconst (n := 0) E.1 (by decide +kernel) (by decide +kernel)) ?_
  refine mk_cons (sn_istore_n (k := 2) E.1 (by decide +kernel) rfl (by decide +kernel)) ?_
  refine mk_cons (sn_iload_n (k := 1) E.1 (by decide +kernel) rfl) ?_
  refine mk_cons (sn_ifeq (off := 34) E.1 (by decide +kernel) (by decide +kernel)) ?_
  refine mk_cons (sn_iload_n (k := 2) E.1 (by decide +kernel) rfl) ?_
  refine mk_cons (sn_sipush (n := 400) E.1 (by decide +kernel) (by decide +kernel)) ?_
  refine mk_cons (sn_cge (off := 27) E.1 (by decide +kernel) (by decide +kernel)) ?_
  refine mk_cons (sn_aload_n (k := 0) E.1 E.2.2.2.1 (by decide +kernel) rfl) ?_
  refine mk_cons (sn_getR (i := 42) E.1 cls_4 (by decide) rfl kf_Parser_42 (by decide +kernel)) ?_
  refine mk_cons (sn_getI (i := 54) (c0 := 0) E.1 cls_9 (by decide) rfl (by decide) kf_Parser_54 (by decide +kernel)) ?_
  refine mk_cons (sn_sipush (n := 10000) E.1 (by decide +kernel) (by decide +kernel)) ?_
  refine mk_cons (sn_ceq (off := 14) E.1 (by decide +kernel) (by decide +kernel)) ?_
  refine mk_cons (sn_aload_n (k := 0) E.1 E.2.2.2.1 (by decide +kernel) rfl) ?_
  refine mk_cons (sn_callV (i := 57) E.1 E.2.2.2.1 E.2.2.2.2.1 E.2.2.2.2.2.1 (E.2.2.2.2.2.2.2 n_Parser_passRule) ok_Parser_passRule cls_4 rfl km_Parser_57 kn_Parser_passRule kv_Parser_passRule (by decide +kernel)) ?_
  refine mk_cons (sn_istore_n (k := 1) E.1 (by decide +kernel) rfl (by decide +kernel)) ?_
  refine mk_cons (sn_iinc (n := 1) E.1 (by decide +kernel) (by decide +kernel) (by decide +kernel)) ?_
  refine mk_cons (sn_goto (off := (-32)) E.1 (by decide +kernel) (by decide +kernel)) ?_
  refine mk_cons (sn_iload_n (k := 1) E.1 (by decide +kernel) rfl) ?_
  refine mk_cons (sn_zret E.1 E.2.1 E.2.2.2.2.2.2.1 (by decide +kernel)) ?_
  exact mk_nil
set_option maxRecDepth 100000 in
set_option maxHeartbeats 4000000 in
theorem rw_Parser_exchange : mk_Rows n_Parser_exchange := by
  intro p l e R s m args below meth c D cy b sk lim cr Q n0 d E
  show ∀ q ∈ t_Parser_exchange, _
  refine mk_cons (sn_aload_n (k := 0) E.1 E.2.2.2.1 (by decide +kernel) rfl) ?_
  refine mk_cons (sn_getR (i := 32) E.1 cls_4 (by decide) rfl kf_Parser_32 (by decide +kernel)) ?_
  refine mk_cons (sn_astore_n (k := 2) E.1 (by decide +kernel) rfl (by decide +kernel)) ?_
  refine mk_cons (sn_aload_n (k := 0) E.1 E.2.2.2.1 (by decide +kernel) rfl) ?_
  refine mk_cons (sn_aload_n (k := 1) E.1 E.2.2.2.1 (by decide +kernel) rfl) ?_
  refine mk_cons (sn_putR (i := 32) E.1 cls_4 (by decide) rfl (Or.inl ⟨_, rfl⟩) rfl kf_Parser_32 (by decide +kernel)) ?_
  refine mk_cons (sn_aload_n (k := 2) E.1 E.2.2.2.1 (by decide +kernel) rfl) ?_
  refine mk_cons (sn_aret E.1 E.2.1 (Or.inl ⟨_, rfl⟩) E.2.2.2.2.2.2.1 (by decide +kernel)) ?_
  exact mk_nil
set_option maxRecDepth 100000 in
set_option maxHeartbeats 4000000 in
theorem rw_Parser_refuse : mk_Rows n_Parser_refuse := by
  intro p l e R s m args below meth c D cy b sk lim cr Q n0 d E
  show ∀ q ∈ t_Parser_refuse, _
  refine mk_cons (sn_aload_n (k := 0) E.1 E.2.2.2.1 (by decide +kernel) rfl) ?_
  refine mk_cons (sn_iload_n (k := 1) E.1 (by decide +kernel) rfl) ?_
  refine mk_cons (sn_putI (i := 36) E.1 cls_4 (by decide) rfl rfl rfl kf_Parser_36 (by decide +kernel)) ?_
  refine mk_cons (sn_aload_n (k := 0) E.1 E.2.2.2.1 (by decide +kernel) rfl) ?_
  refine mk_cons (sn_aload_n (k := 0) E.1 E.2.2.2.1 (by decide +kernel) rfl) ?_
  refine mk_cons (sn_getR (i := 42) E.1 cls_4 (by decide) rfl kf_Parser_42 (by decide +kernel)) ?_
  refine mk_cons (sn_getI (i := 61) (c0 := 0) E.1 cls_9 (by decide) rfl (by decide) kf_Parser_61 (by decide +kernel)) ?_
  refine mk_cons (sn_putI (i := 39) E.1 cls_4 (by decide) rfl rfl rfl kf_Parser_39 (by decide +kernel)) ?_
  refine mk_cons (sn_iconst (n := 0) E.1 (by decide +kernel) (by decide +kernel)) ?_
  refine mk_cons (sn_zret E.1 E.2.1 E.2.2.2.2.2.2.1 (by decide +kernel)) ?_
  exact mk_nil
set_option maxRecDepth 100000 in
set_option maxHeartbeats 4000000 in
theorem rw_Parser_pass : mk_Rows n_Parser_pass := by
  intro p l e R s m args below meth c D cy b sk lim cr Q n0 d E
  show ∀ q ∈ t_Parser_pass, _
  refine mk_cons (sn_aload_n (k := 0) E.1 E.2.2.2.1 (by decide +kernel) rfl) ?_
  refine mk_cons (sn_getR (i := 42) E.1 cls_4 (by decide) rfl kf_Parser_42 (by decide +kernel)) ?_
  refine mk_cons (sn_getI (i := 54) (c0 := 0) E.1 cls_9 (by decide) rfl (by decide) kf_Parser_54 (by decide +kernel)) ?_
  refine mk_cons (sn_iload_n (k := 1) E.1 (by decide +kernel) rfl) ?_
  refine mk_cons (sn_ceq (off := 9) E.1 (by decide +kernel) (by decide +kernel)) ?_
  refine mk_cons (sn_aload_n (k := 0) E.1 E.2.2.2.1 (by decide +kernel) rfl) ?_
  refine mk_cons (sn_iconst (n := 1) E.1 (by decide +kernel) (by decide +kernel)) ?_
  refine mk_cons (sn_callV (i := 64) E.1 E.2.2.2.1 E.2.2.2.2.1 E.2.2.2.2.2.1 (E.2.2.2.2.2.2.2 n_Parser_refuse) ok_Parser_refuse cls_4 rfl km_Parser_64 kn_Parser_refuse kv_Parser_refuse (by decide +kernel)) ?_
  refine mk_cons (sn_zret E.1 E.2.1 E.2.2.2.2.2.2.1 (by decide +kernel)) ?_
  refine mk_cons (sn_aload_n (k := 0) E.1 E.2.2.2.1 (by decide +kernel) rfl) ?_
  refine mk_cons (sn_getR (i := 42) E.1 cls_4 (by decide) rfl kf_Parser_42 (by decide +kernel)) ?_
  refine mk_cons (sn_callV (i := 68) E.1 E.2.2.2.1 E.2.2.2.2.1 E.2.2.2.2.2.1 (E.2.2.2.2.2.2.2 n_Tape_advance) ok_Tape_advance cls_9 rfl km_Parser_68 kn_Tape_advance kv_Tape_advance (by decide +kernel)) ?_
  refine mk_cons (sn_iconst (n := 1) E.1 (by decide +kernel) (by decide +kernel)) ?_
  refine mk_cons (sn_zret E.1 E.2.1 E.2.2.2.2.2.2.1 (by decide +kernel)) ?_
  exact mk_nil
set_option maxRecDepth 100000 in
set_option maxHeartbeats 4000000 in
theorem rw_Parser_passRule : mk_Rows n_Parser_passRule := by
  intro p l e R s m args below meth c D cy b sk lim cr Q n0 d E
  show ∀ q ∈ t_Parser_passRule, _
  refine mk_cons (sn_aload_n (k := 0) E.1 E.2.2.2.1 (by decide +kernel) rfl) ?_
  refine mk_cons (sn_getR (i := 42) E.1 cls_4 (by decide) rfl kf_Parser_42 (by decide +kernel)) ?_
  refine mk_cons (sn_getI (i := 54) (c0 := 0) E.1 cls_9 (by decide) rfl (by decide) kf_Parser_54 (by decide +kernel)) ?_
  refine mk_cons (sn_sipush (n := 10002) E.1 (by decide +kernel) (by decide +kernel)) ?_
  refine mk_cons (sn_ceq (off := 9) E.1 (by decide +kernel) (by decide +kernel)) ?_
  refine mk_cons (sn_aload_n (k := 0) E.1 E.2.2.2.1 (by decide +kernel) rfl) ?_
  refine mk_cons (sn_iconst (n := 1) E.1 (by decide +kernel) (by decide +kernel)) ?_
  refine mk_cons (sn_callV (i := 64) E.1 E.2.2.2.1 E.2.2.2.2.1 E.2.2.2.2.2.1 (E.2.2.2.2.2.2.2 n_Parser_refuse) ok_Parser_refuse cls_4 rfl km_Parser_64 kn_Parser_refuse kv_Parser_refuse (by decide +kernel)) ?_
  refine mk_cons (sn_zret E.1 E.2.1 E.2.2.2.2.2.2.1 (by decide +kernel)) ?_
  refine mk_cons (sn_aload_n (k := 0) E.1 E.2.2.2.1 (by decide +kernel) rfl) ?_
  refine mk_cons (sn_getR (i := 42) E.1 cls_4 (by decide) rfl kf_Parser_42 (by decide +kernel)) ?_
  refine mk_cons (sn_getI (i := 71) (c0 := 0) E.1 cls_9 (by decide) rfl (by decide) kf_Parser_71 (by decide +kernel)) ?_
  refine mk_cons (sn_iconst (n := 1) E.1 (by decide +kernel) (by decide +kernel)) ?_
  refine mk_cons (sn_cle (off := 9) E.1 (by decide +kernel) (by decide +kernel)) ?_
  refine mk_cons (sn_aload_n (k := 0) E.1 E.2.2.2.1 (by decide +kernel) rfl) ?_
  refine mk_cons (sn_iconst (n := 2) E.1 (by decide +kernel) (by decide +kernel)) ?_
  refine mk_cons (sn_callV (i := 64) E.1 E.2.2.2.1 E.2.2.2.2.1 E.2.2.2.2.2.1 (E.2.2.2.2.2.2.2 n_Parser_refuse) ok_Parser_refuse cls_4 rfl km_Parser_64 kn_Parser_refuse kv_Parser_refuse (by decide +kernel)) ?_
  refine mk_cons (sn_zret E.1 E.2.1 E.2.2.2.2.2.2.1 (by decide +kernel)) ?_
  refine mk_cons (sn_aload_n (k := 0) E.1 E.2.2.2.1 (by decide +kernel) rfl) ?_
  refine mk_cons (sn_getR (i := 42) E.1 cls_4 (by decide) rfl kf_Parser_42 (by decide +kernel)) ?_
  refine mk_cons (sn_callV (i := 74) E.1 E.2.2.2.1 E.2.2.2.2.1 E.2.2.2.2.2.1 (E.2.2.2.2.2.2.2 n_Tape_numberHere) ok_Tape_numberHere cls_9 rfl km_Parser_74 kn_Tape_numberHere kv_Tape_numberHere (by decide +kernel)) ?_
  refine mk_cons (sn_istore_n (k := 1) E.1 (by decide +kernel) rfl (by decide +kernel)) ?_
  refine mk_cons (sn_aload_n (k := 0) E.1 E.2.2.2.1 (by decide +kernel) rfl) ?_
  refine mk_cons (sn_getR (i := 42) E.1 cls_4 (by decide) rfl kf_Parser_42 (by decide +kernel)) ?_
  refine mk_cons (sn_callV (i := 68) E.1 E.2.2.2.1 E.2.2.2.2.1 E.2.2.2.2.2.1 (E.2.2.2.2.2.2.2 n_Tape_advance) ok_Tape_advance cls_9 rfl km_Parser_68 kn_Tape_advance kv_Tape_advance (by decide +kernel)) ?_
  refine mk_cons (sn_aload_n (k := 0) E.1 E.2.2.2.1 (by decide +kernel) rfl) ?_
  refine mk_cons (sn_getR (i := 42) E.1 cls_4 (by decide) rfl kf_Parser_42 (by decide +kernel)) ?_
  refine mk_cons (sn_getI (i := 54) (c0 := 0) E.1 cls_9 (by decide) rfl (by decide) kf_Parser_54 (by decide +kernel)) ?_
  refine mk_cons (sn_sipush (n := 10100) E.1 (by decide +kernel) (by decide +kernel)) ?_
  refine mk_cons (sn_cne (off := 21) E.1 (by decide +kernel) (by decide +kernel)) ?_
  refine mk_cons (sn_aload_n (k := 0) E.1 E.2.2.2.1 (by decide +kernel) rfl) ?_
  refine mk_cons (sn_getR (i := 32) E.1 cls_4 (by decide) rfl kf_Parser_32 (by decide +kernel)) ?_
  refine mk_cons (sn_getI (i := 78) (c0 := 0) E.1 cls_7 (by decide) rfl (by decide) kf_Parser_78 (by decide +kernel)) ?_
  refine mk_cons (sn_bipush (n := 16) E.1 (by decide +kernel) (by decide +kernel)) ?_
  refine mk_cons (sn_clt (off := 9) E.1 (by decide +kernel) (by decide +kernel)) ?_
  refine mk_cons (sn_aload_n (k := 0) E.1 E.2.2.2.1 (by decide +kernel) rfl) ?_
  refine mk_cons (sn_iconst (n := 3) E.1 (by decide +kernel) (by decide +kernel)) ?_
  refine mk_cons (sn_callV (i := 64) E.1 E.2.2.2.1 E.2.2.2.2.1 E.2.2.2.2.2.1 (E.2.2.2.2.2.2.2 n_Parser_refuse) ok_Parser_refuse cls_4 rfl km_Parser_64 kn_Parser_refuse kv_Parser_refuse (by decide +kernel)) ?_
  refine mk_cons (sn_zret E.1 E.2.1 E.2.2.2.2.2.2.1 (by decide +kernel)) ?_
  refine mk_cons (sn_aload_n (k := 0) E.1 E.2.2.2.1 (by decide +kernel) rfl) ?_
  refine mk_cons (sn_getR (i := 32) E.1 cls_4 (by decide) rfl kf_Parser_32 (by decide +kernel)) ?_
  refine mk_cons (sn_iload_n (k := 1) E.1 (by decide +kernel) rfl) ?_
  refine mk_cons (sn_callV (i := 81) E.1 E.2.2.2.1 E.2.2.2.2.1 E.2.2.2.2.2.1 (E.2.2.2.2.2.2.2 n_Rules_begin) ok_Rules_begin cls_7 rfl km_Parser_81 kn_Rules_begin kv_Rules_begin (by decide +kernel)) ?_
  refine mk_cons (sn_aload_n (k := 0) E.1 E.2.2.2.1 (by decide +kernel) rfl) ?_
  refine mk_cons (sn_sipush (n := 10100) E.1 (by decide +kernel) (by decide +kernel)) ?_
  refine mk_cons (sn_callV (i := 85) E.1 E.2.2.2.1 E.2.2.2.2.1 E.2.2.2.2.2.1 (E.2.2.2.2.2.2.2 n_Parser_pass) ok_Parser_pass cls_4 rfl km_Parser_85 kn_Parser_pass kv_Parser_pass (by decide +kernel)) ?_
  refine mk_cons (sn_ifeq (off := 44) E.1 (by decide +kernel) (by decide +kernel)) ?_
  refine mk_cons (sn_aload_n (k := 0) E.1 E.2.2.2.1 (by decide +kernel) rfl) ?_
  refine mk_cons (sn_callV (i := 88) E.1 E.2.2.2.1 E.2.2.2.2.1 E.2.2.2.2.2.1 (E.2.2.2.2.2.2.2 n_Parser_passReplacement) ok_Parser_passReplacement cls_4 rfl km_Parser_88 kn_Parser_passReplacement kv_Parser_passReplacement (by decide +kernel)) ?_
  refine mk_cons (sn_ifeq (off := 37) E.1 (by decide +kernel) (by decide +kernel)) ?_
  refine mk_cons (sn_aload_n (k := 0) E.1 E.2.2.2.1 (by decide +kernel) rfl) ?_
  refine mk_cons (sn_getR (i := 42) E.1 cls_4 (by decide) rfl kf_Parser_42 (by decide +kernel)) ?_
  refine mk_cons (sn_getI (i := 54) (c0 := 0) E.1 cls_9 (by decide) rfl (by decide) kf_Parser_54 (by decide +kernel)) ?_
  refine mk_cons (sn_sipush (n := 10102) E.1 (by decide +kernel) (by decide +kernel)) ?_
  refine mk_cons (sn_cne (off := 10) E.1 (by decide +kernel) (by decide +kernel)) ?_
  refine mk_cons (sn_aload_n (k := 0) E.1 E.2.2.2.1 (by decide +kernel) rfl) ?_
  refine mk_cons (sn_callV (i := 91) E.1 E.2.2.2.1 E.2.2.2.2.1 E.2.2.2.2.2.1 (E.2.2.2.2.2.2.2 n_Parser_passCondition) ok_Parser_passCondition cls_4 rfl km_Parser_91 kn_Parser_passCondition kv_Parser_passCondition (by decide +kernel)) ?_
  refine mk_cons (sn_ifeq (off := 17) E.1 (by decide +kernel) (by decide +kernel)) ?_
  refine mk_cons (sn_aload_n (k := 0) E.1 E.2.2.2.1 (by decide +kernel) rfl) ?_
  refine mk_cons (sn_sipush (n := 10259) E.1 (by decide +kernel) (by decide +kernel)) ?_
  refine mk_cons (sn_callV (i := 85) E.1 E.2.2.2.1 E.2.2.2.2.1 E.2.2.2.2.2.1 (E.2.2.2.2.2.2.2 n_Parser_pass) ok_Parser_pass cls_4 rfl km_Parser_85 kn_Parser_pass kv_Parser_pass (by decide +kernel)) ?_
  refine mk_cons (sn_ifeq (off := 7) E.1 (by decide +kernel) (by decide +kernel)) ?_
  refine mk_cons (sn_iconst (n := 1) E.1 (by decide +kernel) (by decide +kernel)) ?_
  refine mk_cons (sn_goto (off := 4) E.1 (by decide +kernel) (by decide +kernel)) ?_
  refine mk_cons (sn_iconst (n := 0) E.1 (by decide +kernel) (by decide +kernel)) ?_
  refine mk_cons (sn_zret E.1 E.2.1 E.2.2.2.2.2.2.1 (by decide +kernel)) ?_
  exact mk_nil
set_option maxRecDepth 100000 in
set_option maxHeartbeats 4000000 in
theorem rw_Parser_passReplacement : mk_Rows n_Parser_passReplacement := by
  intro p l e R s m args below meth c D cy b sk lim cr Q n0 d E
  show ∀ q ∈ t_Parser_passReplacement, _
  refine mk_cons (sn_aload_n (k := 0) E.1 E.2.2.2.1 (by decide +kernel) rfl) ?_
  refine mk_cons (sn_getR (i := 42) E.1 cls_4 (by decide) rfl kf_Parser_42 (by decide +kernel)) ?_
  refine mk_cons (sn_getI (i := 54) (c0 := 0) E.1 cls_9 (by decide) rfl (by decide) kf_Parser_54 (by decide +kernel)) ?_
  refine mk_cons (sn_sipush (n := 10002) E.1 (by decide +kernel) (by decide +kernel)) ?_
  refine mk_cons (sn_cne (off := 40) E.1 (by decide +kernel) (by decide +kernel)) ?_
  refine mk_cons (sn_iconst (n := 0) E.1 (by decide +kernel) (by decide +kernel)) ?_
  refine mk_cons (sn_istore_n (k := 1) E.1 (by decide +kernel) rfl (by decide +kernel)) ?_
  refine mk_cons (sn_iload_n (k := 1) E.1 (by decide +kernel) rfl) ?_
  refine mk_cons (sn_aload_n (k := 0) E.1 E.2.2.2.1 (by decide +kernel) rfl) ?_
  refine mk_cons (sn_getR (i := 42) E.1 cls_4 (by decide) rfl kf_Parser_42 (by decide +kernel)) ?_
  refine mk_cons (sn_getI (i := 71) (c0 := 0) E.1 cls_9 (by decide) rfl (by decide) kf_Parser_71 (by decide +kernel)) ?_
  refine mk_cons (sn_cge (off := 24) E.1 (by decide +kernel) (by decide +kernel)) ?_
  refine mk_cons (sn_aload_n (k := 0) E.1 E.2.2.2.1 (by decide +kernel) rfl) ?_
  refine mk_cons (sn_getR (i := 32) E.1 cls_4 (by decide) rfl kf_Parser_32 (by decide +kernel)) ?_
  refine mk_cons (sn_aload_n (k := 0) E.1 E.2.2.2.1 (by decide +kernel) rfl) ?_
  refine mk_cons (sn_getR (i := 42) E.1 cls_4 (by decide) rfl kf_Parser_42 (by decide +kernel)) ?_
  refine mk_cons (sn_iload_n (k := 1) E.1 (by decide +kernel) rfl) ?_
  refine mk_cons (sn_callV (i := 94) E.1 E.2.2.2.1 E.2.2.2.2.1 E.2.2.2.2.2.1 (E.2.2.2.2.2.2.2 n_Tape_numeralHere) ok_Tape_numeralHere cls_9 rfl km_Parser_94 kn_Tape_numeralHere kv_Tape_numeralHere (by decide +kernel)) ?_
  refine mk_cons (sn_callV (i := 98) E.1 E.2.2.2.1 E.2.2.2.2.1 E.2.2.2.2.2.1 (E.2.2.2.2.2.2.2 n_Rules_spell) ok_Rules_spell cls_7 rfl km_Parser_98 kn_Rules_spell kv_Rules_spell (by decide +kernel)) ?_
  refine mk_cons (sn_iinc (n := 1) E.1 (by decide +kernel) (by decide +kernel) (by decide +kernel)) ?_
  refine mk_cons (sn_goto (off := (-29)) E.1 (by decide +kernel) (by decide +kernel)) ?_
  refine mk_cons (sn_goto (off := 22) E.1 (by decide +kernel) (by decide +kernel)) ?_
  refine mk_cons (sn_aload_n (k := 0) E.1 E.2.2.2.1 (by decide +kernel) rfl) ?_
  refine mk_cons (sn_getR (i := 42) E.1 cls_4 (by decide) rfl kf_Parser_42 (by decide +kernel)) ?_
  refine mk_cons (sn_getI (i := 54) (c0 := 0) E.1 cls_9 (by decide) rfl (by decide) kf_Parser_54 (by decide +kernel)) ?_
  refine mk_cons (sn_sipush (n := 10101) E.1 (by decide +kernel) (by decide +kernel)) ?_
  refine mk_cons (sn_ceq (off := 9) E.1 (by decide +kernel) (by decide +kernel)) ?_
  refine mk_cons (sn_aload_n (k := 0) E.1 E.2.2.2.1 (by decide +kernel) rfl) ?_
  refine mk_cons (sn_iconst (n := 1) E.1 (by decide +kernel) (by decide +kernel)) ?_
  refine mk_cons (sn_callV (i := 64) E.1 E.2.2.2.1 E.2.2.2.2.1 E.2.2.2.2.2.1 (E.2.2.2.2.2.2.2 n_Parser_refuse) ok_Parser_refuse cls_4 rfl km_Parser_64 kn_Parser_refuse kv_Parser_refuse (by decide +kernel)) ?_
  refine mk_cons (sn_zret E.1 E.2.1 E.2.2.2.2.2.2.1 (by decide +kernel)) ?_
  refine mk_cons (sn_aload_n (k := 0) E.1 E.2.2.2.1 (by decide +kernel) rfl) ?_
  refine mk_cons (sn_getR (i := 42) E.1 cls_4 (by decide) rfl kf_Parser_42 (by decide +kernel)) ?_
  refine mk_cons (sn_callV (i := 68) E.1 E.2.2.2.1 E.2.2.2.2.1 E.2.2.2.2.2.1 (E.2.2.2.2.2.2.2 n_Tape_advance) ok_Tape_advance cls_9 rfl km_Parser_68 kn_Tape_advance kv_Tape_advance (by decide +kernel)) ?_
  refine mk_cons (sn_iconst (n := 1) E.1 (by decide +kernel) (by decide +kernel)) ?_
  refine mk_cons (sn_zret E.1 E.2.1 E.2.2.2.2.2.2.1 (by decide +kernel)) ?_
  exact mk_nil
set_option maxRecDepth 100000 in
set_option maxHeartbeats 4000000 in
theorem rw_Parser_passCondition : mk_Rows n_Parser_passCondition := by
  intro p l e R s m args below meth c D cy b sk lim cr Q n0 d E
  show ∀ q ∈ t_Parser_passCondition, _
  refine mk_cons (sn_aload_n (k := 0) E.1 E.2.2.2.1 (by decide +kernel) rfl) ?_
  refine mk_cons (sn_iconst (n := 0) E.1 (by decide +kernel) (by decide +kernel)) ?_
  refine mk_cons (sn_putI (i := 15) E.1 cls_4 (by decide) rfl rfl rfl kf_Parser_15 (by decide +kernel)) ?_
  refine mk_cons (sn_aload_n (k := 0) E.1 E.2.2.2.1 (by decide +kernel) rfl) ?_
  refine mk_cons (sn_iconst (n := 0) E.1 (by decide +kernel) (by decide +kernel)) ?_
  refine mk_cons (sn_putI (i := 19) E.1 cls_4 (by decide) rfl rfl rfl kf_Parser_19 (by decide +kernel)) ?_
  refine mk_cons (sn_aload_n (k := 0) E.1 E.2.2.2.1 (by decide +kernel) rfl) ?_
  refine mk_cons (sn_iconst (n := 0) E.1 (by decide +kernel) (by decide +kernel)) ?_
  refine mk_cons (sn_putI (i := 22) E.1 cls_4 (by decide) rfl rfl rfl kf_Parser_22 (by decide +kernel)) ?_
  refine mk_cons (sn_iconst (n := 1) E.1 (by decide +kernel) (by decide +kernel)) ?_
  refine mk_cons (sn_istore_n (k := 1) E.1 (by decide +kernel) rfl (by decide +kernel)) ?_
  refine mk_cons (sn_iconst (n := 0) E.1 (by decide +kernel) (by decide +kernel)) ?_
  refine mk_cons (sn_istore_n (k := 2) E.1 (by decide +kernel) rfl (by decide +kernel)) ?_
  refine mk_cons (sn_iload_n (k := 1) E.1 (by decide +kernel) rfl) ?_
  refine mk_cons (sn_ifeq (off := 37) E.1 (by decide +kernel) (by decide +kernel)) ?_
  refine mk_cons (sn_iload_n (k := 2) E.1 (by decide +kernel) rfl) ?_
  refine mk_cons (sn_sipush (n := 400) E.1 (by decide +kernel) (by decide +kernel)) ?_
  refine mk_cons (sn_cge (off := 30) E.1 (by decide +kernel) (by decide +kernel)) ?_
  refine mk_cons (sn_aload_n (k := 0) E.1 E.2.2.2.1 (by decide +kernel) rfl) ?_
  refine mk_cons (sn_getI (i := 22) (c0 := 0) E.1 cls_4 (by decide) rfl (by decide) kf_Parser_22 (by decide +kernel)) ?_
  refine mk_cons (sn_bipush (n := 6) E.1 (by decide +kernel) (by decide +kernel)) ?_
  refine mk_cons (sn_ceq (off := 21) E.1 (by decide +kernel) (by decide +kernel)) ?_
  refine mk_cons (sn_aload_n (k := 0) E.1 E.2.2.2.1 (by decide +kernel) rfl) ?_
  refine mk_cons (sn_getR (i := 42) E.1 cls_4 (by decide) rfl kf_Parser_42 (by decide +kernel)) ?_
  refine mk_cons (sn_callV (i := 68) E.1 E.2.2.2.1 E.2.2.2.2.1 E.2.2.2.2.2.1 (E.2.2.2.2.2.2.2 n_Tape_advance) ok_Tape_advance cls_9 rfl km_Parser_68 kn_Tape_advance kv_Tape_advance (by decide +kernel)) ?_
  refine mk_cons (sn_aload_n (k := 0) E.1 E.2.2.2.1 (by decide +kernel) rfl) ?_
  refine mk_cons (sn_callV (i := 101) E.1 E.2.2.2.1 E.2.2.2.2.1 E.2.2.2.2.2.1 (E.2.2.2.2.2.2.2 n_Parser_takeToken) ok_Parser_takeToken cls_4 rfl km_Parser_101 kn_Parser_takeToken kv_Parser_takeToken (by decide +kernel)) ?_
  refine mk_cons (sn_istore_n (k := 1) E.1 (by decide +kernel) rfl (by decide +kernel)) ?_
  refine mk_cons (sn_iinc (n := 1) E.1 (by decide +kernel) (by decide +kernel) (by decide +kernel)) ?_
  refine mk_cons (sn_goto (off := (-35)) E.1 (by decide +kernel) (by decide +kernel)) ?_
  refine mk_cons (sn_iload_n (k := 1) E.1 (by decide +kernel) rfl) ?_
  refine mk_cons (sn_zret E.1 E.2.1 E.2.2.2.2.2.2.1 (by decide +kernel)) ?_
  exact mk_nil
set_option maxRecDepth 100000 in
set_option maxHeartbeats 4000000 in
theorem rw_Parser_takeToken : mk_Rows n_Parser_takeToken := by
  intro p l e R s m args below meth c D cy b sk lim cr Q n0 d E
  show ∀ q ∈ t_Parser_takeToken, _
  refine mk_cons (sn_aload_n (k := 0) E.1 E.2.2.2.1 (by decide +kernel) rfl) ?_
  refine mk_cons (sn_getI (i := 22) (c0 := 0) E.1 cls_4 (by decide) rfl (by decide) kf_Parser_22 (by decide +kernel)) ?_
  refine mk_cons (sn_tsw (dflt := 43) (lo := 0) (hi := 2) (offs := #[28, 33, 38]) (len := 28) E.1 (by decide +kernel) (by decide +kernel) (by decide +kernel) (by decide +kernel) (by decide +kernel) (by decide +kernel)) ?_
  refine mk_cons (sn_aload_n (k := 0) E.1 E.2.2.2.1 (by decide +kernel) rfl) ?_
  refine mk_cons (sn_callV (i := 104) E.1 E.2.2.2.1 E.2.2.2.2.1 E.2.2.2.2.2.1 (E.2.2.2.2.2.2.2 n_Parser_takeClaim) ok_Parser_takeClaim cls_4 rfl km_Parser_104 kn_Parser_takeClaim kv_Parser_takeClaim (by decide +kernel)) ?_
  refine mk_cons (sn_zret E.1 E.2.1 E.2.2.2.2.2.2.1 (by decide +kernel)) ?_
  refine mk_cons (sn_aload_n (k := 0) E.1 E.2.2.2.1 (by decide +kernel) rfl) ?_
  refine mk_cons (sn_callV (i := 107) E.1 E.2.2.2.1 E.2.2.2.2.1 E.2.2.2.2.2.1 (E.2.2.2.2.2.2.2 n_Parser_takeOperand) ok_Parser_takeOperand cls_4 rfl km_Parser_107 kn_Parser_takeOperand kv_Parser_takeOperand (by decide +kernel)) ?_
  refine mk_cons (sn_zret E.1 E.2.1 E.2.2.2.2.2.2.1 (by decide +kernel)) ?_
  refine mk_cons (sn_aload_n (k := 0) E.1 E.2.2.2.1 (by decide +kernel) rfl) ?_
  refine mk_cons (sn_callV (i := 110) E.1 E.2.2.2.1 E.2.2.2.2.1 E.2.2.2.2.2.1 (E.2.2.2.2.2.2.2 n_Parser_takeDivisor) ok_Parser_takeDivisor cls_4 rfl km_Parser_110 kn_Parser_takeDivisor kv_Parser_takeDivisor (by decide +kernel)) ?_
  refine mk_cons (sn_zret E.1 E.2.1 E.2.2.2.2.2.2.1 (by decide +kernel)) ?_
  refine mk_cons (sn_aload_n (k := 0) E.1 E.2.2.2.1 (by decide +kernel) rfl) ?_
  refine mk_cons (sn_callV (i := 113) E.1 E.2.2.2.1 E.2.2.2.2.1 E.2.2.2.2.2.1 (E.2.2.2.2.2.2.2 n_Parser_takeJoint) ok_Parser_takeJoint cls_4 rfl km_Parser_113 kn_Parser_takeJoint kv_Parser_takeJoint (by decide +kernel)) ?_
  refine mk_cons (sn_zret E.1 E.2.1 E.2.2.2.2.2.2.1 (by decide +kernel)) ?_
  exact mk_nil
set_option maxRecDepth 100000 in
set_option maxHeartbeats 4000000 in
theorem rw_Parser_takeClaim : mk_Rows n_Parser_takeClaim := by
  intro p l e R s m args below meth c D cy b sk lim cr Q n0 d E
  show ∀ q ∈ t_Parser_takeClaim, _
  refine mk_cons (sn_aload_n (k := 0) E.1 E.2.2.2.1 (by decide +kernel) rfl) ?_
  refine mk_cons (sn_iconst (n := 0) E.1 (by decide +kernel) (by decide +kernel)) ?_
  refine mk_cons (sn_putZ (i := 25) E.1 cls_4 (by decide) rfl rfl rfl kf_Parser_25 (by decide +kernel)) ?_
  refine mk_cons (sn_aload_n (k := 0) E.1 E.2.2.2.1 (by decide +kernel) rfl) ?_
  refine mk_cons (sn_getR (i := 42) E.1 cls_4 (by decide) rfl kf_Parser_42 (by decide +kernel)) ?_
  refine mk_cons (sn_getI (i := 54) (c0 := 0) E.1 cls_9 (by decide) rfl (by decide) kf_Parser_54 (by decide +kernel)) ?_
  refine mk_cons (sn_sipush (n := 10105) E.1 (by decide +kernel) (by decide +kernel)) ?_
  refine mk_cons (sn_ceq (off := 21) E.1 (by decide +kernel) (by decide +kernel)) ?_
  refine mk_cons (sn_aload_n (k := 0) E.1 E.2.2.2.1 (by decide +kernel) rfl) ?_
  refine mk_cons (sn_getR (i := 42) E.1 cls_4 (by decide) rfl kf_Parser_42 (by decide +kernel)) ?_
  refine mk_cons (sn_getI (i := 54) (c0 := 0) E.1 cls_9 (by decide) rfl (by decide) kf_Parser_54 (by decide +kernel)) ?_
  refine mk_cons (sn_sipush (n := 10240) E.1 (by decide +kernel) (by decide +kernel)) ?_
  refine mk_cons (sn_ceq (off := 8) E.1 (by decide +kernel) (by decide +kernel)) ?_
  refine mk_cons (sn_aload_n (k := 0) E.1 E.2.2.2.1 (by decide +kernel) rfl) ?_
  refine mk_cons (sn_callV (i := 107) E.1 E.2.2.2.1 E.2.2.2.2.1 E.2.2.2.2.2.1 (E.2.2.2.2.2.2.2 n_Parser_takeOperand) ok_Parser_takeOperand cls_4 rfl km_Parser_107 kn_Parser_takeOperand kv_Parser_takeOperand (by decide +kernel)) ?_
  refine mk_cons (sn_zret E.1 E.2.1 E.2.2.2.2.2.2.1 (by decide +kernel)) ?_
  refine mk_cons (sn_aload_n (k := 0) E.1 E.2.2.2.1 (by decide +kernel) rfl) ?_
  refine mk_cons (sn_getI (i := 19) (c0 := 0) E.1 cls_4 (by decide) rfl (by decide) kf_Parser_19 (by decide +kernel)) ?_
  refine mk_cons (sn_bipush (n := 8) E.1 (by decide +kernel) (by decide +kernel)) ?_
  refine mk_cons (sn_clt (off := 9) E.1 (by decide +kernel) (by decide +kernel)) ?_
  refine mk_cons (sn_aload_n (k := 0) E.1 E.2.2.2.1 (by decide +kernel) rfl) ?_
  refine mk_cons (sn_iconst (n := 3) E.1 (by decide +kernel) (by decide +kernel)) ?_
  refine mk_cons (sn_callV (i := 64) E.1 E.2.2.2.1 E.2.2.2.2.1 E.2.2.2.2.2.1 (E.2.2.2.2.2.2.2 n_Parser_refuse) ok_Parser_refuse cls_4 rfl km_Parser_64 kn_Parser_refuse kv_Parser_refuse (by decide +kernel)) ?_
  refine mk_cons (sn_zret E.1 E.2.1 E.2.2.2.2.2.2.1 (by decide +kernel)) ?_
  refine mk_cons (sn_aload_n (k := 0) E.1 E.2.2.2.1 (by decide +kernel) rfl) ?_
  refine mk_cons (sn_dup E.1 (by decide +kernel)) ?_
  refine mk_cons (sn_getI (i := 19) (c0 := 0) E.1 cls_4 (by decide) rfl (by decide) kf_Parser_19 (by decide +kernel)) ?_
  refine mk_cons (sn_iconst (n := 1) E.1 (by decide +kernel) (by decide +kernel)) ?_
  refine mk_cons (sn_iadd E.1 (by decide +kernel)) ?_
  refine mk_cons (sn_putI (i := 19) E.1 cls_4 (by decide) rfl rfl rfl kf_Parser_19 (by decide +kernel)) ?_
  refine mk_cons (sn_aload_n (k := 0) E.1 E.2.2.2.1 (by decide +kernel) rfl) ?_
  refine mk_cons (sn_aload_n (k := 0) E.1 E.2.2.2.1 (by decide +kernel) rfl) ?_
  refine mk_cons (sn_getR (i := 42) E.1 cls_4 (by decide) rfl kf_Parser_42 (by decide +kernel)) ?_
  refine mk_cons (sn_getI (i := 54) (c0 := 0) E.1 cls_9 (by decide) rfl (by decide) kf_Parser_54 (by decide +kernel)) ?_
  refine mk_cons (sn_iconst (n := 0) E.1 (by decide +kernel) (by decide +kernel)) ?_
  refine mk_cons (sn_callV (i := 116) E.1 E.2.2.2.1 E.2.2.2.2.1 E.2.2.2.2.2.1 (E.2.2.2.2.2.2.2 n_Parser_await) ok_Parser_await cls_4 rfl km_Parser_116 kn_Parser_await kv_Parser_await (by decide +kernel)) ?_
  refine mk_cons (sn_zret E.1 E.2.1 E.2.2.2.2.2.2.1 (by decide +kernel)) ?_
  exact mk_nil
set_option maxRecDepth 100000 in
set_option maxHeartbeats 4000000 in
theorem rw_Parser_takeOperand : mk_Rows n_Parser_takeOperand := by
  intro p l e R s m args below meth c D cy b sk lim cr Q n0 d E
  show ∀ q ∈ t_Parser_takeOperand, _
  refine mk_cons (sn_aload_n (k := 0) E.1 E.2.2.2.1 (by decide +kernel) rfl) ?_
  refine mk_cons (sn_getR (i := 42) E.1 cls_4 (by decide) rfl kf_Parser_42 (by decide +kernel)) ?_
  refine mk_cons (sn_getI (i := 54) (c0 := 0) E.1 cls_9 (by decide) rfl (by decide) kf_Parser_54 (by decide +kernel)) ?_
  refine mk_cons (sn_sipush (n := 10106) E.1 (by decide +kernel) (by decide +kernel)) ?_
  refine mk_cons (sn_clt (off := 20) E.1 (by decide +kernel) (by decide +kernel)) ?_
  refine mk_cons (sn_aload_n (k := 0) E.1 E.2.2.2.1 (by decide +kernel) rfl) ?_
  refine mk_cons (sn_getR (i := 42) E.1 cls_4 (by decide) rfl kf_Parser_42 (by decide +kernel)) ?_
  refine mk_cons (sn_getI (i := 54) (c0 := 0) E.1 cls_9 (by decide) rfl (by decide) kf_Parser_54 (by decide +kernel)) ?_
  refine mk_cons (sn_sipush (n := 10112) E.1 (by decide +kernel) (by decide +kernel)) ?_
  refine mk_cons (sn_cge (off := 7) E.1 (by decide +kernel) (by decide +kernel)) ?_
  refine mk_cons (sn_iconst (n := 1) E.1 (by decide +kernel) (by decide +kernel)) ?_
  refine mk_cons (sn_goto (off := 4) E.1 (by decide +kernel) (by decide +kernel)) ?_
  refine mk_cons (sn_iconst (n := 0) E.1 (by decide +kernel) (by decide +kernel)) ?_
  refine mk_cons (sn_istore_n (k := 1) E.1 (by decide +kernel) rfl (by decide +kernel)) ?_
  refine mk_cons (sn_iload_n (k := 1) E.1 (by decide +kernel) rfl) ?_
  refine mk_cons (sn_ifne (off := 22) E.1 (by decide +kernel) (by decide +kernel)) ?_
  refine mk_cons (sn_aload_n (k := 0) E.1 E.2.2.2.1 (by decide +kernel) rfl) ?_
  refine mk_cons (sn_getR (i := 42) E.1 cls_4 (by decide) rfl kf_Parser_42 (by decide +kernel)) ?_
  refine mk_cons (sn_getI (i := 54) (c0 := 0) E.1 cls_9 (by decide) rfl (by decide) kf_Parser_54 (by decide +kernel)) ?_
  refine mk_cons (sn_sipush (n := 10002) E.1 (by decide +kernel) (by decide +kernel)) ?_
  refine mk_cons (sn_ceq (off := 9) E.1 (by decide +kernel) (by decide +kernel)) ?_
  refine mk_cons (sn_aload_n (k := 0) E.1 E.2.2.2.1 (by decide +kernel) rfl) ?_
  refine mk_cons (sn_iconst (n := 1) E.1 (by decide +kernel) (by decide +kernel)) ?_
  refine mk_cons (sn_callV (i := 64) E.1 E.2.2.2.1 E.2.2.2.2.1 E.2.2.2.2.2.1 (E.2.2.2.2.2.2.2 n_Parser_refuse) ok_Parser_refuse cls_4 rfl km_Parser_64 kn_Parser_refuse kv_Parser_refuse (by decide +kernel)) ?_
  refine mk_cons (sn_zret E.1 E.2.1 E.2.2.2.2.2.2.1 (by decide +kernel)) ?_
  refine mk_cons (sn_aload_n (k := 0) E.1 E.2.2.2.1 (by decide +kernel) rfl) ?_
  refine mk_cons (sn_getR (i := 32) E.1 cls_4 (by decide) rfl kf_Parser_32 (by decide +kernel)) ?_
  refine mk_cons (sn_iload_n (k := 1) E.1 (by decide +kernel) rfl) ?_
  refine mk_cons (sn_ifeq (off := 13) E.1 (by decide +kernel) (by decide +kernel)) ?_
  refine mk_cons (sn_aload_n (k := 0) E.1 E.2.2.2.1 (by decide +kernel) rfl) ?_
  refine mk_cons (sn_getR (i := 42) E.1 cls_4 (by decide) rfl kf_Parser_42 (by decide +kernel)) ?_
  refine mk_cons (sn_getI (i := 54) (c0 := 0) E.1 cls_9 (by decide) rfl (by decide) kf_Parser_54 (by decide +kernel)) ?_
  refine mk_cons (sn_goto (off := 10) E.1 (by decide +kernel) (by decide +kernel)) ?_
  refine mk_cons (sn_aload_n (k := 0) E.1 E.2.2.2.1 (by decide +kernel) rfl) ?_
  refine mk_cons (sn_getR (i := 42) E.1 cls_4 (by decide) rfl kf_Parser_42 (by decide +kernel)) ?_
  refine mk_cons (sn_callV (i := 74) E.1 E.2.2.2.1 E.2.2.2.2.1 E.2.2.2.2.2.1 (E.2.2.2.2.2.2.2 n_Tape_numberHere) ok_Tape_numberHere cls_9 rfl km_Parser_74 kn_Tape_numberHere kv_Tape_numberHere (by decide +kernel)) ?_
  refine mk_cons (sn_callV (i := 120) E.1 E.2.2.2.1 E.2.2.2.2.1 E.2.2.2.2.2.1 (E.2.2.2.2.2.2.2 n_Rules_addStep) ok_Rules_addStep cls_7 rfl km_Parser_120 kn_Rules_addStep kv_Rules_addStep (by decide +kernel)) ?_
  refine mk_cons (sn_aload_n (k := 0) E.1 E.2.2.2.1 (by decide +kernel) rfl) ?_
  refine mk_cons (sn_aload_n (k := 0) E.1 E.2.2.2.1 (by decide +kernel) rfl) ?_
  refine mk_cons (sn_getI (i := 25) (c0 := 3) E.1 cls_4 (by decide) rfl (by decide) kf_Parser_25 (by decide +kernel)) ?_
  refine mk_cons (sn_ifeq (off := 7) E.1 (by decide +kernel) (by decide +kernel)) ?_
  refine mk_cons (sn_iconst (n := 4) E.1 (by decide +kernel) (by decide +kernel)) ?_
  refine mk_cons (sn_goto (off := 4) E.1 (by decide +kernel) (by decide +kernel)) ?_
  refine mk_cons (sn_iconst (n := 3) E.1 (by decide +kernel) (by decide +kernel)) ?_
  refine mk_cons (sn_putI (i := 22) E.1 cls_4 (by decide) rfl rfl rfl kf_Parser_22 (by decide +kernel)) ?_
  refine mk_cons (sn_iconst (n := 1) E.1 (by decide +kernel) (by decide +kernel)) ?_
  refine mk_cons (sn_zret E.1 E.2.1 E.2.2.2.2.2.2.1 (by decide +kernel)) ?_
  exact mk_nil
set_option maxRecDepth 100000 in
set_option maxHeartbeats 4000000 in
theorem rw_Parser_takeDivisor : mk_Rows n_Parser_takeDivisor := by
  intro p l e R s m args below meth c D cy b sk lim cr Q n0 d E
  show ∀ q ∈ t_Parser_takeDivisor, _
  refine mk_cons (sn_aload_n (k := 0) E.1 E.2.2.2.1 (by decide +kernel) rfl) ?_
  refine mk_cons (sn_getR (i := 42) E.1 cls_4 (by decide) rfl kf_Parser_42 (by decide +kernel)) ?_
  refine mk_cons (sn_getI (i := 54) (c0 := 0) E.1 cls_9 (by decide) rfl (by decide) kf_Parser_54 (by decide +kernel)) ?_
  refine mk_cons (sn_sipush (n := 10002) E.1 (by decide +kernel) (by decide +kernel)) ?_
  refine mk_cons (sn_ceq (off := 9) E.1 (by decide +kernel) (by decide +kernel)) ?_
  refine mk_cons (sn_aload_n (k := 0) E.1 E.2.2.2.1 (by decide +kernel) rfl) ?_
  refine mk_cons (sn_iconst (n := 1) E.1 (by decide +kernel) (by decide +kernel)) ?_
  refine mk_cons (sn_callV (i := 64) E.1 E.2.2.2.1 E.2.2.2.2.1 E.2.2.2.2.2.1 (E.2.2.2.2.2.2.2 n_Parser_refuse) ok_Parser_refuse cls_4 rfl km_Parser_64 kn_Parser_refuse kv_Parser_refuse (by decide +kernel)) ?_
  refine mk_cons (sn_zret E.1 E.2.1 E.2.2.2.2.2.2.1 (by decide +kernel)) ?_
  refine mk_cons (sn_aload_n (k := 0) E.1 E.2.2.2.1 (by decide +kernel) rfl) ?_
  refine mk_cons (sn_getR (i := 42) E.1 cls_4 (by decide) rfl kf_Parser_42 (by decide +kernel)) ?_
  refine mk_cons (sn_callV (i := 74) E.1 E.2.2.2.1 E.2.2.2.2.1 E.2.2.2.2.2.1 (E.2.2.2.2.2.2.2 n_Tape_numberHere) ok_Tape_numberHere cls_9 rfl km_Parser_74 kn_Tape_numberHere kv_Tape_numberHere (by decide +kernel)) ?_
  refine mk_cons (sn_ifne (off := 11) E.1 (by decide +kernel) (by decide +kernel)) ?_
  refine mk_cons (sn_aload_n (k := 0) E.1 E.2.2.2.1 (by decide +kernel) rfl) ?_
  refine mk_cons (sn_iconst (n := 2) E.1 (by decide +kernel) (by decide +kernel)) ?_
  refine mk_cons (sn_callV (i := 64) E.1 E.2.2.2.1 E.2.2.2.2.1 E.2.2.2.2.2.1 (E.2.2.2.2.2.2.2 n_Parser_refuse) ok_Parser_refuse cls_4 rfl km_Parser_64 kn_Parser_refuse kv_Parser_refuse (by decide +kernel)) ?_
  refine mk_cons (sn_goto (off := 7) E.1 (by decide +kernel) (by decide +kernel)) ?_
  refine mk_cons (sn_aload_n (k := 0) E.1 E.2.2.2.1 (by decide +kernel) rfl) ?_
  refine mk_cons (sn_callV (i := 107) E.1 E.2.2.2.1 E.2.2.2.2.1 E.2.2.2.2.2.1 (E.2.2.2.2.2.2.2 n_Parser_takeOperand) ok_Parser_takeOperand cls_4 rfl km_Parser_107 kn_Parser_takeOperand kv_Parser_takeOperand (by decide +kernel)) ?_
  refine mk_cons (sn_zret E.1 E.2.1 E.2.2.2.2.2.2.1 (by decide +kernel)) ?_
  exact mk_nil
