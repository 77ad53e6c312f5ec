set_option maxRecDepth 100000 in
set_option maxHeartbeats 4000000 in
theorem rw_Rules_begin : mk_Rows n_Rules_begin := by
  intro p l e R s m args below meth c D cy b sk lim cr Q n0 d E
  show ∀ q ∈ t_Rules_begin, _
  refine mk_cons (sn_aload_n (k := 0) E.1 E.2.2.2.1 (by decide +kernel) rfl) ?_
  refine mk_cons (sn_getI (i := 30) (c0 := 0) E.1 cls_7 (by decide) rfl (by decide) kf_Rules_30 (by decide +kernel)) ?_
  refine mk_cons (sn_bipush (n := 16) E.1 (by decide +kernel) (by decide +kernel)) ?_
  refine mk_cons (sn_cge (off := 59) E.1 (by decide +kernel) (by decide +kernel)) ?_
  refine mk_cons (sn_aload_n (k := 0) E.1 E.2.2.2.1 (by decide +kernel) rfl) ?_
  refine mk_cons (sn_getR (i := 9) E.1 cls_7 (by decide) rfl kf_Rules_9 (by decide +kernel)) ?_
  refine mk_cons (sn_aload_n (k := 0) E.1 E.2.2.2.1 (by decide +kernel) rfl) ?_
  refine mk_cons (sn_getI (i := 30) (c0 := 0) E.1 cls_7 (by decide) rfl (by decide) kf_Rules_30 (by decide +kernel)) ?_
  refine mk_cons (sn_iload_n (k := 1) E.1 (by decide +kernel) rfl) ?_
  refine mk_cons (sn_iast E.1 (by decide +kernel)) ?_
  refine mk_cons (sn_aload_n (k := 0) E.1 E.2.2.2.1 (by decide +kernel) rfl) ?_
  refine mk_cons (sn_getR (i := 15) E.1 cls_7 (by decide) rfl kf_Rules_15 (by decide +kernel)) ?_
  refine mk_cons (sn_aload_n (k := 0) E.1 E.2.2.2.1 (by decide +kernel) rfl) ?_
  refine mk_cons (sn_getI (i := 30) (c0 := 0) E.1 cls_7 (by decide) rfl (by decide) kf_Rules_30 (by decide +kernel)) ?_
  refine mk_cons (sn_iconst (n := 0) E.1 (by decide +kernel) (by decide +kernel)) ?_
  refine mk_cons (sn_iast E.1 (by decide +kernel)) ?_
  refine mk_cons (sn_aload_n (k := 0) E.1 E.2.2.2.1 (by decide +kernel) rfl) ?_
  refine mk_cons (sn_getR (i := 21) E.1 cls_7 (by decide) rfl kf_Rules_21 (by decide +kernel)) ?_
  refine mk_cons (sn_aload_n (k := 0) E.1 E.2.2.2.1 (by decide +kernel) rfl) ?_
  refine mk_cons (sn_getI (i := 30) (c0 := 0) E.1 cls_7 (by decide) rfl (by decide) kf_Rules_30 (by decide +kernel)) ?_
  refine mk_cons (sn_aload_n (k := 0) E.1 E.2.2.2.1 (by decide +kernel) rfl) ?_
  refine mk_cons (sn_getI (i := 34) (c0 := 0) E.1 cls_7 (by decide) rfl (by decide) kf_Rules_34 (by decide +kernel)) ?_
  refine mk_cons (sn_iast E.1 (by decide +kernel)) ?_
  refine mk_cons (sn_aload_n (k := 0) E.1 E.2.2.2.1 (by decide +kernel) rfl) ?_
  refine mk_cons (sn_getR (i := 24) E.1 cls_7 (by decide) rfl kf_Rules_24 (by decide +kernel)) ?_
  refine mk_cons (sn_aload_n (k := 0) E.1 E.2.2.2.1 (by decide +kernel) rfl) ?_
  refine mk_cons (sn_getI (i := 30) (c0 := 0) E.1 cls_7 (by decide) rfl (by decide) kf_Rules_30 (by decide +kernel)) ?_
  refine mk_cons (sn_aload_n (k := 0) E.1 E.2.2.2.1 (by decide +kernel) rfl) ?_
  refine mk_cons (sn_getI (i := 34) (c0 := 0) E.1 cls_7 (by decide) rfl (by decide) kf_Rules_34 (by decide +kernel)) ?_
  refine mk_cons (sn_iast E.1 (by decide +kernel)) ?_
  refine mk_cons (sn_aload_n (k := 0) E.1 E.2.2.2.1 (by decide +kernel) rfl) ?_
  refine mk_cons (sn_dup E.1 (by decide +kernel)) ?_
  refine mk_cons (sn_getI (i := 30) (c0 := 0) E.1 cls_7 (by decide) rfl (by decide) kf_Rules_30 (by decide +kernel)) ?_
  refine mk_cons (sn_iconst (n := 1) E.1 (by decide +kernel) (by decide +kernel)) ?_
  refine mk_cons (sn_iadd E.1 (by decide +kernel)) ?_
  refine mk_cons (sn_putI (i := 30) E.1 cls_7 (by decide) rfl rfl rfl kf_Rules_30 (by decide +kernel)) ?_
  refine mk_cons (sn_ret E.1 E.2.1 E.2.2.2.2.2.2.1 (by decide +kernel)) ?_
  exact mk_nil
set_option maxRecDepth 100000 in
set_option maxHeartbeats 4000000 in
theorem rw_Rules_spell : mk_Rows n_Rules_spell := by
  intro p l e R s m args below meth c D cy b sk lim cr Q n0 d E
  show ∀ q ∈ t_Rules_spell, _
  refine mk_cons (sn_aload_n (k := 0) E.1 E.2.2.2.1 (by decide +kernel) rfl) ?_
  refine mk_cons (sn_getI (i := 30) (c0 := 0) E.1 cls_7 (by decide) rfl (by decide) kf_Rules_30 (by decide +kernel)) ?_
  refine mk_cons (sn_iconst (n := 1) E.1 (by decide +kernel) (by decide +kernel)) ?_
  refine mk_cons (sn_isub E.1 (by decide +kernel)) ?_
  refine mk_cons (sn_istore_n (k := 2) E.1 (by decide +kernel) rfl (by decide +kernel)) ?_
  refine mk_cons (sn_iload_n (k := 2) E.1 (by decide +kernel) rfl) ?_
  refine mk_cons (sn_iflt (off := 39) E.1 (by decide +kernel) (by decide +kernel)) ?_
  refine mk_cons (sn_aload_n (k := 0) E.1 E.2.2.2.1 (by decide +kernel) rfl) ?_
  refine mk_cons (sn_getR (i := 15) E.1 cls_7 (by decide) rfl kf_Rules_15 (by decide +kernel)) ?_
  refine mk_cons (sn_iload_n (k := 2) E.1 (by decide +kernel) rfl) ?_
  refine mk_cons (sn_iald E.1 (by decide +kernel)) ?_
  refine mk_cons (sn_iconst (n := 4) E.1 (by decide +kernel) (by decide +kernel)) ?_
  refine mk_cons (sn_cge (off := 29) E.1 (by decide +kernel) (by decide +kernel)) ?_
  refine mk_cons (sn_aload_n (k := 0) E.1 E.2.2.2.1 (by decide +kernel) rfl) ?_
  refine mk_cons (sn_getR (i := 18) E.1 cls_7 (by decide) rfl kf_Rules_18 (by decide +kernel)) ?_
  refine mk_cons (sn_iload_n (k := 2) E.1 (by decide +kernel) rfl) ?_
  refine mk_cons (sn_iconst (n := 4) E.1 (by decide +kernel) (by decide +kernel)) ?_
  refine mk_cons (sn_imul E.1 (by decide +kernel)) ?_
  refine mk_cons (sn_aload_n (k := 0) E.1 E.2.2.2.1 (by decide +kernel) rfl) ?_
  refine mk_cons (sn_getR (i := 15) E.1 cls_7 (by decide) rfl kf_Rules_15 (by decide +kernel)) ?_
  refine mk_cons (sn_iload_n (k := 2) E.1 (by decide +kernel) rfl) ?_
  refine mk_cons (sn_iald E.1 (by decide +kernel)) ?_
  refine mk_cons (sn_iadd E.1 (by decide +kernel)) ?_
  refine mk_cons (sn_iload_n (k := 1) E.1 (by decide +kernel) rfl) ?_
  refine mk_cons (sn_iast E.1 (by decide +kernel)) ?_
  refine mk_cons (sn_aload_n (k := 0) E.1 E.2.2.2.1 (by decide +kernel) rfl) ?_
  refine mk_cons (sn_getR (i := 15) E.1 cls_7 (by decide) rfl kf_Rules_15 (by decide +kernel)) ?_
  refine mk_cons (sn_iload_n (k := 2) E.1 (by decide +kernel) rfl) ?_
  refine mk_cons (sn_dup2 E.1 (by decide +kernel)) ?_
  refine mk_cons (sn_iald E.1 (by decide +kernel)) ?_
  refine mk_cons (sn_iconst (n := 1) E.1 (by decide +kernel) (by decide +kernel)) ?_
  refine mk_cons (sn_iadd E.1 (by decide +kernel)) ?_
  refine mk_cons (sn_iast E.1 (by decide +kernel)) ?_
  refine mk_cons (sn_ret E.1 E.2.1 E.2.2.2.2.2.2.1 (by decide +kernel)) ?_
  exact mk_nil
set_option maxRecDepth 100000 in
set_option maxHeartbeats 4000000 in
theorem rw_Rules_addStep : mk_Rows n_Rules_addStep := by
  intro p l e R s m args below meth c D cy b sk lim cr Q n0 d E
  show ∀ q ∈ t_Rules_addStep, _
  refine mk_cons (sn_aload_n (k := 0) E.1 E.2.2.2.1 (by decide +kernel) rfl) ?_
  refine mk_cons (sn_getI (i := 30) (c0 := 0) E.1 cls_7 (by decide) rfl (by decide) kf_Rules_30 (by decide +kernel)) ?_
  refine mk_cons (sn_iconst (n := 1) E.1 (by decide +kernel) (by decide +kernel)) ?_
  refine mk_cons (sn_isub E.1 (by decide +kernel)) ?_
  refine mk_cons (sn_istore_n (k := 2) E.1 (by decide +kernel) rfl (by decide +kernel)) ?_
  refine mk_cons (sn_iload_n (k := 2) E.1 (by decide +kernel) rfl) ?_
  refine mk_cons (sn_iflt (off := 43) E.1 (by decide +kernel) (by decide +kernel)) ?_
  refine mk_cons (sn_aload_n (k := 0) E.1 E.2.2.2.1 (by decide +kernel) rfl) ?_
  refine mk_cons (sn_getI (i := 34) (c0 := 0) E.1 cls_7 (by decide) rfl (by decide) kf_Rules_34 (by decide +kernel)) ?_
  refine mk_cons (sn_sipush (n := 400) E.1 (by decide +kernel) (by decide +kernel)) ?_
  refine mk_cons (sn_cge (off := 33) E.1 (by decide +kernel) (by decide +kernel)) ?_
  refine mk_cons (sn_aload_n (k := 0) E.1 E.2.2.2.1 (by decide +kernel) rfl) ?_
  refine mk_cons (sn_getR (i := 27) E.1 cls_7 (by decide) rfl kf_Rules_27 (by decide +kernel)) ?_
  refine mk_cons (sn_aload_n (k := 0) E.1 E.2.2.2.1 (by decide +kernel) rfl) ?_
  refine mk_cons (sn_getI (i := 34) (c0 := 0) E.1 cls_7 (by decide) rfl (by decide) kf_Rules_34 (by decide +kernel)) ?_
  refine mk_cons (sn_iload_n (k := 1) E.1 (by decide +kernel) rfl) ?_
  refine mk_cons (sn_iast E.1 (by decide +kernel)) ?_
  refine mk_cons (sn_aload_n (k := 0) E.1 E.2.2.2.1 (by decide +kernel) rfl) ?_
  refine mk_cons (sn_dup E.1 (by decide +kernel)) ?_
  refine mk_cons (sn_getI (i := 34) (c0 := 0) E.1 cls_7 (by decide) rfl (by decide) kf_Rules_34 (by decide +kernel)) ?_
  refine mk_cons (sn_iconst (n := 1) E.1 (by decide +kernel) (by decide +kernel)) ?_
  refine mk_cons (sn_iadd E.1 (by decide +kernel)) ?_
  refine mk_cons (sn_putI (i := 34) E.1 cls_7 (by decide) rfl rfl rfl kf_Rules_34 (by decide +kernel)) ?_
  refine mk_cons (sn_aload_n (k := 0) E.1 E.2.2.2.1 (by decide +kernel) rfl) ?_
  refine mk_cons (sn_getR (i := 24) E.1 cls_7 (by decide) rfl kf_Rules_24 (by decide +kernel)) ?_
  refine mk_cons (sn_iload_n (k := 2) E.1 (by decide +kernel) rfl) ?_
  refine mk_cons (sn_aload_n (k := 0) E.1 E.2.2.2.1 (by decide +kernel) rfl) ?_
  refine mk_cons (sn_getI (i := 34) (c0 := 0) E.1 cls_7 (by decide) rfl (by decide) kf_Rules_34 (by decide +kernel)) ?_
  refine mk_cons (sn_iast E.1 (by decide +kernel)) ?_
  refine mk_cons (sn_ret E.1 E.2.1 E.2.2.2.2.2.2.1 (by decide +kernel)) ?_
  exact mk_nil
set_option maxRecDepth 100000 in
set_option maxHeartbeats 4000000 in
theorem rw_Rules_copyFrom : mk_Rows n_Rules_copyFrom := by
  intro p l e R s m args below meth c D cy b sk lim cr Q n0 d E
  show ∀ q ∈ t_Rules_copyFrom, _
  refine mk_cons (sn_aload_n (k := 1) E.1 E.2.2.2.1 (by decide +kernel) rfl) ?_
  refine mk_cons (sn_getR (i := 9) E.1 cls_7 (by decide) rfl kf_Rules_9 (by decide +kernel)) ?_
  refine mk_cons (sn_iconst (n := 0) E.1 (by decide +kernel) (by decide +kernel)) ?_
  refine mk_cons (sn_aload_n (k := 0) E.1 E.2.2.2.1 (by decide +kernel) rfl) ?_
  refine mk_cons (sn_getR (i := 9) E.1 cls_7 (by decide) rfl kf_Rules_9 (by decide +kernel)) ?_
  refine mk_cons (sn_iconst (n := 0) E.1 (by decide +kernel) (by decide +kernel)) ?_
  refine mk_cons (sn_bipush (n := 16) E.1 (by decide +kernel) (by decide +kernel)) ?_
  refine mk_cons (sn_copy (i := 37) E.1 km_Rules_37 kn_copy ks_copy kz_System (by decide +kernel)) ?_
  refine mk_cons (sn_aload_n (k := 1) E.1 E.2.2.2.1 (by decide +kernel) rfl) ?_
  refine mk_cons (sn_getR (i := 15) E.1 cls_7 (by decide) rfl kf_Rules_15 (by decide +kernel)) ?_
  refine mk_cons (sn_iconst (n := 0) E.1 (by decide +kernel) (by decide +kernel)) ?_
  refine mk_cons (sn_aload_n (k := 0) E.1 E.2.2.2.1 (by decide +kernel) rfl) ?_
  refine mk_cons (sn_getR (i := 15) E.1 cls_7 (by decide) rfl kf_Rules_15 (by decide +kernel)) ?_
  refine mk_cons (sn_iconst (n := 0) E.1 (by decide +kernel) (by decide +kernel)) ?_
  refine mk_cons (sn_bipush (n := 16) E.1 (by decide +kernel) (by decide +kernel)) ?_
  refine mk_cons (sn_copy (i := 37) E.1 km_Rules_37 kn_copy ks_copy kz_System (by decide +kernel)) ?_
  refine mk_cons (sn_aload_n (k := 1) E.1 E.2.2.2.1 (by decide +kernel) rfl) ?_
  refine mk_cons (sn_getR (i := 18) E.1 cls_7 (by decide) rfl kf_Rules_18 (by decide +kernel)) ?_
  refine mk_cons (sn_iconst (n := 0) E.1 (by decide +kernel) (by decide +kernel)) ?_
  refine mk_cons (sn_aload_n (k := 0) E.1 E.2.2.2.1 (by decide +kernel) rfl) ?_
  refine mk_cons (sn_getR (i := 18) E.1 cls_7 (by decide) rfl kf_Rules_18 (by decide +kernel)) ?_
  refine mk_cons (sn_iconst (n := 0) E.1 (by decide +kernel) (by decide +kernel)) ?_
  refine mk_cons (sn_bipush (n := 64) E.1 (by decide +kernel) (by decide +kernel)) ?_
  refine mk_cons (sn_copy (i := 37) E.1 km_Rules_37 kn_copy ks_copy kz_System (by decide +kernel)) ?_
  refine mk_cons (sn_aload_n (k := 1) E.1 E.2.2.2.1 (by decide +kernel) rfl) ?_
  refine mk_cons (sn_getR (i := 21) E.1 cls_7 (by decide) rfl kf_Rules_21 (by decide +kernel)) ?_
  refine mk_cons (sn_iconst (n := 0) E.1 (by decide +kernel) (by decide +kernel)) ?_
  refine mk_cons (sn_aload_n (k := 0) E.1 E.2.2.2.1 (by decide +kernel) rfl) ?_
  refine mk_cons (sn_getR (i := 21) E.1 cls_7 (by decide) rfl kf_Rules_21 (by decide +kernel)) ?_
  refine mk_cons (sn_iconst (n := 0) E.1 (by decide +kernel) (by decide +kernel)) ?_
  refine mk_cons (sn_bipush (n := 16) E.1 (by decide +kernel) (by decide +kernel)) ?_
  refine mk_cons (sn_copy (i := 37) E.1 km_Rules_37 kn_copy ks_copy kz_System (by decide +kernel)) ?_
  refine mk_cons (sn_aload_n (k := 1) E.1 E.2.2.2.1 (by decide +kernel) rfl) ?_
  refine mk_cons (sn_getR (i := 24) E.1 cls_7 (by decide) rfl kf_Rules_24 (by decide +kernel)) ?_
  refine mk_cons (sn_iconst (n := 0) E.1 (by decide +kernel) (by decide +kernel)) ?_
  refine mk_cons (sn_aload_n (k := 0) E.1 E.2.2.2.1 (by decide +kernel) rfl) ?_
  refine mk_cons (sn_getR (i := 24) E.1 cls_7 (by decide) rfl kf_Rules_24 (by decide +kernel)) ?_
  refine mk_cons (sn_iconst (n := 0) E.1 (by decide +kernel) (by decide +kernel)) ?_
  refine mk_cons (sn_bipush (n := 16) E.1 (by decide +kernel) (by decide +kernel)) ?_
  refine mk_cons (sn_copy (i := 37) E.1 km_Rules_37 kn_copy ks_copy kz_System (by decide +kernel)) ?_
  refine mk_cons (sn_aload_n (k := 1) E.1 E.2.2.2.1 (by decide +kernel) rfl) ?_
  refine mk_cons (sn_getR (i := 27) E.1 cls_7 (by decide) rfl kf_Rules_27 (by decide +kernel)) ?_
  refine mk_cons (sn_iconst (n := 0) E.1 (by decide +kernel) (by decide +kernel)) ?_
  refine mk_cons (sn_aload_n (k := 0) E.1 E.2.2.2.1 (by decide +kernel) rfl) ?_
  refine mk_cons (sn_getR (i := 27) E.1 cls_7 (by decide) rfl kf_Rules_27 (by decide +kernel)) ?_
  refine mk_cons (sn_iconst (n := 0) E.1 (by decide +kernel) (by decide +kernel)) ?_
  refine mk_cons (sn_sipush (n := 400) E.1 (by decide +kernel) (by decide +kernel)) ?_
  refine mk_cons (sn_copy (i := 37) E.1 km_Rules_37 kn_copy ks_copy kz_System (by decide +kernel)) ?_
  refine mk_cons (sn_aload_n (k := 0) E.1 E.2.2.2.1 (by decide +kernel) rfl) ?_
  refine mk_cons (sn_aload_n (k := 1) E.1 E.2.2.2.1 (by decide +kernel) rfl) ?_
  refine mk_cons (sn_getI (i := 30) (c0 := 0) E.1 cls_7 (by decide) rfl (by decide) kf_Rules_30 (by decide +kernel)) ?_
  refine mk_cons (sn_putI (i := 30) E.1 cls_7 (by decide) rfl rfl rfl kf_Rules_30 (by decide +kernel)) ?_
  refine mk_cons (sn_aload_n (k := 0) E.1 E.2.2.2.1 (by decide +kernel) rfl) ?_
  refine mk_cons (sn_aload_n (k := 1) E.1 E.2.2.2.1 (by decide +kernel) rfl) ?_
  refine mk_cons (sn_getI (i := 34) (c0 := 0) E.1 cls_7 (by decide) rfl (by decide) kf_Rules_34 (by decide +kernel)) ?_
  refine mk_cons (sn_putI (i := 34) E.1 cls_7 (by decide) rfl rfl rfl kf_Rules_34 (by decide +kernel)) ?_
  refine mk_cons (sn_ret E.1 E.2.1 E.2.2.2.2.2.2.1 (by decide +kernel)) ?_
  exact mk_nil
set_option maxRecDepth 100000 in
set_option maxHeartbeats 4000000 in
theorem rw_Seeker_init : mk_Rows n_Seeker_init := by
  intro p l e R s m args below meth c D cy b sk lim cr Q n0 d E
  show ∀ q ∈ t_Seeker_init, _
  refine mk_cons (sn_aload_n (k := 0) E.1 E.2.2.2.1 (by decide +kernel) rfl) ?_
  refine mk_cons (sn_oini (i := 3) E.1 km_Seeker_3 kn_oini kd_oini (by decide +kernel)) ?_
  refine mk_cons (sn_aload_n (k := 0) E.1 E.2.2.2.1 (by decide +kernel) rfl) ?_
  refine mk_cons (sn_new (i := 9) E.1 cls_3 rfl kk_Seeker_9 ki_Message kz_Message (by decide +kernel)) ?_
  refine mk_cons (sn_dup E.1 (by decide +kernel)) ?_
  refine mk_cons (sn_callI (i := 11) E.1 E.2.2.2.1 E.2.2.2.2.1 E.2.2.2.2.2.1 (E.2.2.2.2.2.2.2 n_Message_init) ok_Message_init rfl rfl km_Seeker_11 kn_Message_init (by decide +kernel)) ?_
  refine mk_cons (sn_putRF (i := 12) E.1 E.2.2.1 cls_8 (by decide) rfl (Or.inl ⟨_, rfl⟩) rfl rfl kf_Seeker_12 (by decide +kernel)) ?_
  refine mk_cons (sn_aload_n (k := 0) E.1 E.2.2.2.1 (by decide +kernel) rfl) ?_
  refine mk_cons (sn_new (i := 9) E.1 cls_3 rfl kk_Seeker_9 ki_Message kz_Message (by decide +kernel)) ?_
  refine mk_cons (sn_dup E.1 (by decide +kernel)) ?_
  refine mk_cons (sn_callI (i := 11) E.1 E.2.2.2.1 E.2.2.2.2.1 E.2.2.2.2.2.1 (E.2.2.2.2.2.2.2 n_Message_init) ok_Message_init rfl rfl km_Seeker_11 kn_Message_init (by decide +kernel)) ?_
  refine mk_cons (sn_putRF (i := 18) E.1 E.2.2.1 cls_8 (by decide) rfl (Or.inl ⟨_, rfl⟩) rfl rfl kf_Seeker_18 (by decide +kernel)) ?_
  refine mk_cons (sn_aload_n (k := 0) E.1 E.2.2.2.1 (by decide +kernel) rfl) ?_
  refine mk_cons (sn_new (i := 9) E.1 cls_3 rfl kk_Seeker_9 ki_Message kz_Message (by decide +kernel)) ?_
  refine mk_cons (sn_dup E.1 (by decide +kernel)) ?_
  refine mk_cons (sn_callI (i := 11) E.1 E.2.2.2.1 E.2.2.2.2.1 E.2.2.2.2.2.1 (E.2.2.2.2.2.2.2 n_Message_init) ok_Message_init rfl rfl km_Seeker_11 kn_Message_init (by decide +kernel)) ?_
  refine mk_cons (sn_putRF (i := 21) E.1 E.2.2.1 cls_8 (by decide) rfl (Or.inl ⟨_, rfl⟩) rfl rfl kf_Seeker_21 (by decide +kernel)) ?_
  refine mk_cons (sn_aload_n (k := 0) E.1 E.2.2.2.1 (by decide +kernel) rfl) ?_
  refine mk_cons (sn_new (i := 9) E.1 cls_3 rfl kk_Seeker_9 ki_Message kz_Message (by decide +kernel)) ?_
  refine mk_cons (sn_dup E.1 (by decide +kernel)) ?_
  refine mk_cons (sn_callI (i := 11) E.1 E.2.2.2.1 E.2.2.2.2.1 E.2.2.2.2.2.1 (E.2.2.2.2.2.2.2 n_Message_init) ok_Message_init rfl rfl km_Seeker_11 kn_Message_init (by decide +kernel)) ?_
  refine mk_cons (sn_putRF (i := 24) E.1 E.2.2.1 cls_8 (by decide) rfl (Or.inl ⟨_, rfl⟩) rfl rfl kf_Seeker_24 (by decide +kernel)) ?_
  refine mk_cons (sn_aload_n (k := 0) E.1 E.2.2.2.1 (by decide +kernel) rfl) ?_
  refine mk_cons (sn_iconst (n := 0) E.1 (by decide +kernel) (by decide +kernel)) ?_
  refine mk_cons (sn_putI (i := 27) E.1 cls_8 (by decide) rfl rfl rfl kf_Seeker_27 (by decide +kernel)) ?_
  refine mk_cons (sn_aload_n (k := 0) E.1 E.2.2.2.1 (by decide +kernel) rfl) ?_
  refine mk_cons (sn_iconst (n := 0) E.1 (by decide +kernel) (by decide +kernel)) ?_
  refine mk_cons (sn_putI (i := 31) E.1 cls_8 (by decide) rfl rfl rfl kf_Seeker_31 (by decide +kernel)) ?_
  refine mk_cons (sn_aload_n (k := 0) E.1 E.2.2.2.1 (by decide +kernel) rfl) ?_
  refine mk_cons (sn_iconst (n := 0) E.1 (by decide +kernel) (by decide +kernel)) ?_
  refine mk_cons (sn_putZ (i := 34) E.1 cls_8 (by decide) rfl rfl rfl kf_Seeker_34 (by decide +kernel)) ?_
  refine mk_cons (sn_aload_n (k := 0) E.1 E.2.2.2.1 (by decide +kernel) rfl) ?_
  refine mk_cons (sn_aload_n (k := 1) E.1 E.2.2.2.1 (by decide +kernel) rfl) ?_
  refine mk_cons (sn_putRF (i := 38) E.1 E.2.2.1 cls_8 (by decide) rfl (Or.inl ⟨_, rfl⟩) rfl rfl kf_Seeker_38 (by decide +kernel)) ?_
  refine mk_cons (sn_ret E.1 E.2.1 E.2.2.2.2.2.2.1 (by decide +kernel)) ?_
  exact mk_nil
set_option maxRecDepth 100000 in
set_option maxHeartbeats 4000000 in
theorem rw_Seeker_wantSeen : mk_Rows n_Seeker_wantSeen := by
  intro p l e R s m args below meth c D cy b sk lim cr Q n0 d E
  show ∀ q ∈ t_Seeker_wantSeen, _
  refine mk_cons (sn_aload_n (k := 0) E.1 E.2.2.2.1 (by decide +kernel) rfl) ?_
  refine mk_cons (sn_getR (i := 12) E.1 cls_8 (by decide) rfl kf_Seeker_12 (by decide +kernel)) ?_
  refine mk_cons (sn_aload_n (k := 1) E.1 E.2.2.2.1 (by decide +kernel) rfl) ?_
  refine mk_cons (sn_getR (i := 42) E.1 cls_10 (by decide) rfl kf_Seeker_42 (by decide +kernel)) ?_
  refine mk_cons (sn_callV (i := 47) E.1 E.2.2.2.1 E.2.2.2.2.1 E.2.2.2.2.2.1 (E.2.2.2.2.2.2.2 n_Message_copyFrom) ok_Message_copyFrom cls_3 rfl km_Seeker_47 kn_Message_copyFrom kv_Message_copyFrom (by decide +kernel)) ?_
  refine mk_cons (sn_aload_n (k := 0) E.1 E.2.2.2.1 (by decide +kernel) rfl) ?_
  refine mk_cons (sn_iconst (n := 0) E.1 (by decide +kernel) (by decide +kernel)) ?_
  refine mk_cons (sn_putZ (i := 34) E.1 cls_8 (by decide) rfl rfl rfl kf_Seeker_34 (by decide +kernel)) ?_
  refine mk_cons (sn_ret E.1 E.2.1 E.2.2.2.2.2.2.1 (by decide +kernel)) ?_
  exact mk_nil
set_option maxRecDepth 100000 in
set_option maxHeartbeats 4000000 in
theorem rw_Seeker_wantTwin : mk_Rows n_Seeker_wantTwin := by
  intro p l e R s m args below meth c D cy b sk lim cr Q n0 d E
  show ∀ q ∈ t_Seeker_wantTwin, _
  refine mk_cons (sn_aload_n (k := 0) E.1 E.2.2.2.1 (by decide +kernel) rfl) ?_
  refine mk_cons (sn_getR (i := 38) E.1 cls_8 (by decide) rfl kf_Seeker_38 (by decide +kernel)) ?_
  refine mk_cons (sn_aload_n (k := 1) E.1 E.2.2.2.1 (by decide +kernel) rfl) ?_
  refine mk_cons (sn_aload_n (k := 2) E.1 E.2.2.2.1 (by decide +kernel) rfl) ?_
  refine mk_cons (sn_iload_n (k := 3) E.1 (by decide +kernel) rfl) ?_
  refine mk_cons (sn_aload_n (k := 1) E.1 E.2.2.2.1 (by decide +kernel) rfl) ?_
  refine mk_cons (sn_getR (i := 51) E.1 cls_10 (by decide) rfl kf_Seeker_51 (by decide +kernel)) ?_
  refine mk_cons (sn_aload_n (k := 0) E.1 E.2.2.2.1 (by decide +kernel) rfl) ?_
  refine mk_cons (sn_getR (i := 12) E.1 cls_8 (by decide) rfl kf_Seeker_12 (by decide +kernel)) ?_
  refine mk_cons (sn_callV (i := 54) E.1 E.2.2.2.1 E.2.2.2.2.1 E.2.2.2.2.2.1 (E.2.2.2.2.2.2.2 n_Clerk_carry) ok_Clerk_carry cls_0 rfl km_Seeker_54 kn_Clerk_carry kv_Clerk_carry (by decide +kernel)) ?_
  refine mk_cons (sn_pop E.1 (by decide +kernel)) ?_
  refine mk_cons (sn_aload_n (k := 0) E.1 E.2.2.2.1 (by decide +kernel) rfl) ?_
  refine mk_cons (sn_getR (i := 18) E.1 cls_8 (by decide) rfl kf_Seeker_18 (by decide +kernel)) ?_
  refine mk_cons (sn_aload_n (k := 1) E.1 E.2.2.2.1 (by decide +kernel) rfl) ?_
  refine mk_cons (sn_getR (i := 51) E.1 cls_10 (by decide) rfl kf_Seeker_51 (by decide +kernel)) ?_
  refine mk_cons (sn_callV (i := 47) E.1 E.2.2.2.1 E.2.2.2.2.1 E.2.2.2.2.2.1 (E.2.2.2.2.2.2.2 n_Message_copyFrom) ok_Message_copyFrom cls_3 rfl km_Seeker_47 kn_Message_copyFrom kv_Message_copyFrom (by decide +kernel)) ?_
  refine mk_cons (sn_aload_n (k := 0) E.1 E.2.2.2.1 (by decide +kernel) rfl) ?_
  refine mk_cons (sn_iconst (n := 1) E.1 (by decide +kernel) (by decide +kernel)) ?_
  refine mk_cons (sn_putZ (i := 34) E.1 cls_8 (by decide) rfl rfl rfl kf_Seeker_34 (by decide +kernel)) ?_
  refine mk_cons (sn_ret E.1 E.2.1 E.2.2.2.2.2.2.1 (by decide +kernel)) ?_
  exact mk_nil
set_option maxRecDepth 100000 in
set_option maxHeartbeats 4000000 in
theorem rw_Seeker_seek : mk_Rows n_Seeker_seek := by
  intro p l e R s m args below meth c D cy b sk lim cr Q n0 d E
  show ∀ q ∈ t_Seeker_seek, _
  refine mk_cons (sn_aload_n (k := 1) E.1 E.2.2.2.1 (by decide +kernel) rfl) ?_
  refine mk_cons (sn_getR (i := 60) E.1 cls_10 (by decide) rfl kf_Seeker_60 (by decide +kernel)) ?_
  refine mk_cons (sn_aload_n (k := 2) E.1 E.2.2.2.1 (by decide +kernel) rfl) ?_
  refine mk_cons (sn_getI (i := 64) (c0 := 0) E.1 cls_2 (by decide) rfl (by decide) kf_Seeker_64 (by decide +kernel)) ?_
  refine mk_cons (sn_aald E.1 (by decide +kernel)) ?_
  refine mk_cons (sn_astore E.1 (by decide +kernel) (by decide +kernel)) ?_
  refine mk_cons (sn_aload_n (k := 0) E.1 E.2.2.2.1 (by decide +kernel) rfl) ?_
  refine mk_cons (sn_aload_n (k := 2) E.1 E.2.2.2.1 (by decide +kernel) rfl) ?_
  refine mk_cons (sn_iload_n (k := 3) E.1 (by decide +kernel) rfl) ?_
  refine mk_cons (sn_callV (i := 69) E.1 E.2.2.2.1 E.2.2.2.2.1 E.2.2.2.2.2.1 (E.2.2.2.2.2.2.2 n_Line_lostDigits) ok_Line_lostDigits cls_2 rfl km_Seeker_69 kn_Line_lostDigits kv_Line_lostDigits (by decide +kernel)) ?_
  refine mk_cons (sn_putI (i := 31) E.1 cls_8 (by decide) rfl rfl rfl kf_Seeker_31 (by decide +kernel)) ?_
  refine mk_cons (sn_aload_n (k := 0) E.1 E.2.2.2.1 (by decide +kernel) rfl) ?_
  refine mk_cons (sn_iconst (n := 0) E.1 (by decide +kernel) (by decide +kernel)) ?_
  refine mk_cons (sn_putI (i := 27) E.1 cls_8 (by decide) rfl rfl rfl kf_Seeker_27 (by decide +kernel)) ?_
  refine mk_cons (sn_aload_n (k := 0) E.1 E.2.2.2.1 (by decide +kernel) rfl) ?_
  refine mk_cons (sn_getR (i := 38) E.1 cls_8 (by decide) rfl kf_Seeker_38 (by decide +kernel)) ?_
  refine mk_cons (sn_aload_n (k := 1) E.1 E.2.2.2.1 (by decide +kernel) rfl) ?_
  refine mk_cons (sn_getI (i := 73) (c0 := 0) E.1 cls_10 (by decide) rfl (by decide) kf_Seeker_73 (by decide +kernel)) ?_
  refine mk_cons (sn_iload_n (k := 3) E.1 (by decide +kernel) rfl) ?_
  refine mk_cons (sn_callV (i := 76) E.1 E.2.2.2.1 E.2.2.2.2.1 E.2.2.2.2.2.1 (E.2.2.2.2.2.2.2 n_Clerk_begin) ok_Clerk_begin cls_0 rfl km_Seeker_76 kn_Clerk_begin kv_Clerk_begin (by decide +kernel)) ?_
  refine mk_cons (sn_iconst (n := 0) E.1 (by decide +kernel) (by decide +kernel)) ?_
  refine mk_cons (sn_istore E.1 (by decide +kernel) (by decide +kernel)) ?_
  refine mk_cons (sn_iload E.1 (by decide +kernel)) ?_
  refine mk_cons (sn_iload E.1 (by decide +kernel)) ?_
  refine mk_cons (sn_cgt (off := 46) E.1 (by decide +kernel) (by decide +kernel)) ?_
  refine mk_cons (sn_aload_n (k := 0) E.1 E.2.2.2.1 (by decide +kernel) rfl) ?_
  refine mk_cons (sn_callV (i := 80) E.1 E.2.2.2.1 E.2.2.2.2.1 E.2.2.2.2.2.1 (E.2.2.2.2.2.2.2 n_Seeker_isOver) ok_Seeker_isOver cls_8 rfl km_Seeker_80 kn_Seeker_isOver kv_Seeker_isOver (by decide +kernel)) ?_
  refine mk_cons (sn_ifne (off := 39) E.1 (by decide +kernel) (by decide +kernel)) ?_
  refine mk_cons (sn_aload_n (k := 0) E.1 E.2.2.2.1 (by decide +kernel) rfl) ?_
  refine mk_cons (sn_getR (i := 21) E.1 cls_8 (by decide) rfl kf_Seeker_21 (by decide +kernel)) ?_
  refine mk_cons (sn_iload E.1 (by decide +kernel)) ?_
  refine mk_cons (sn_putI (i := 84) E.1 cls_3 (by decide) rfl rfl rfl kf_Seeker_84 (by decide +kernel)) ?_
  refine mk_cons (sn_iload E.1 (by decide +kernel)) ?_
  refine mk_cons (sn_ifne (off := 11) E.1 (by decide +kernel) (by decide +kernel)) ?_
  refine mk_cons (sn_aload_n (k := 0) E.1 E.2.2.2.1 (by decide +kernel) rfl) ?_
  refine mk_cons (sn_iconst (n := 0) E.1 (by decide +kernel) (by decide +kernel)) ?_
  refine mk_cons (sn_callV (i := 87) E.1 E.2.2.2.1 E.2.2.2.2.1 E.2.2.2.2.2.1 (E.2.2.2.2.2.2.2 n_Seeker_judge) ok_Seeker_judge cls_8 rfl km_Seeker_87 kn_Seeker_judge kv_Seeker_judge (by decide +kernel)) ?_
  refine mk_cons (sn_goto (off := 11) E.1 (by decide +kernel) (by decide +kernel)) ?_
  refine mk_cons (sn_aload_n (k := 0) E.1 E.2.2.2.1 (by decide +kernel) rfl) ?_
  refine mk_cons (sn_aload E.1 E.2.2.2.1 (by decide +kernel)) ?_
  refine mk_cons (sn_iconst (n := 0) E.1 (by decide +kernel) (by decide +kernel)) ?_
  refine mk_cons (sn_iconst (n := 0) E.1 (by decide +kernel) (by decide +kernel)) ?_
  refine mk_cons (sn_callV (i := 91) E.1 E.2.2.2.1 E.2.2.2.2.1 E.2.2.2.2.2.1 (E.2.2.2.2.2.2.2 n_Seeker_chooseAt) ok_Seeker_chooseAt cls_8 rfl km_Seeker_91 kn_Seeker_chooseAt kv_Seeker_chooseAt (by decide +kernel)) ?_
  refine mk_cons (sn_iinc (n := 1) E.1 (by decide +kernel) (by decide +kernel) (by decide +kernel)) ?_
  refine mk_cons (sn_goto (off := (-47)) E.1 (by decide +kernel) (by decide +kernel)) ?_
  refine mk_cons (sn_ret E.1 E.2.1 E.2.2.2.2.2.2.1 (by decide +kernel)) ?_
  exact mk_nil
set_option maxRecDepth 100000 in
set_option maxHeartbeats 4000000 in
theorem rw_Seeker_isOver : mk_Rows n_Seeker_isOver := by
  intro p l e R s m args below meth c D cy b sk lim cr Q n0 d E
  show ∀ q ∈ t_Seeker_isOver, _
  refine mk_cons (sn_aload_n (k := 0) E.1 E.2.2.2.1 (by decide +kernel) rfl) ?_
  refine mk_cons (sn_getI (i := 34) (c0 := 3) E.1 cls_8 (by decide) rfl (by decide) kf_Seeker_34 (by decide +kernel)) ?_
  refine mk_cons (sn_ifeq (off := 14) E.1 (by decide +kernel) (by decide +kernel)) ?_
  refine mk_cons (sn_aload_n (k := 0) E.1 E.2.2.2.1 (by decide +kernel) rfl) ?_
  refine mk_cons (sn_getI (i := 27) (c0 := 0) E.1 cls_8 (by decide) rfl (by decide) kf_Seeker_27 (by decide +kernel)) ?_
  refine mk_cons (sn_ifle (off := 7) E.1 (by decide +kernel) (by decide +kernel)) ?_
  refine mk_cons (sn_iconst (n := 1) E.1 (by decide +kernel) (by decide +kernel)) ?_
  refine mk_cons (sn_goto (off := 4) E.1 (by decide +kernel) (by decide +kernel)) ?_
  refine mk_cons (sn_iconst (n := 0) E.1 (by decide +kernel) (by decide +kernel)) ?_
  refine mk_cons (sn_zret E.1 E.2.1 E.2.2.2.2.2.2.1 (by decide +kernel)) ?_
  exact mk_nil
set_option maxRecDepth 100000 in
set_option maxHeartbeats 4000000 in
theorem rw_Seeker_chooseAt : mk_Rows n_Seeker_chooseAt := by
  intro p l e R s m args below meth c D cy b sk lim cr Q n0 d E
  show ∀ q ∈ t_Seeker_chooseAt, _
  refine mk_cons (sn_iconst (n := 0) E.1 (by decide +kernel) (by decide +kernel)) ?_
  refine mk_cons (sn_istore E.1 (by decide +kernel) (by decide +kernel)) ?_
  refine mk_cons (sn_iload E.1 (by decide +kernel)) ?_
  refine mk_cons (sn_bipush (n := 10) E.1 (by decide +kernel) (by decide +kernel)) ?_
  refine mk_cons (sn_cge (off := 60) E.1 (by decide +kernel) (by decide +kernel)) ?_
  refine mk_cons (sn_aload_n (k := 0) E.1 E.2.2.2.1 (by decide +kernel) rfl) ?_
  refine mk_cons (sn_callV (i := 80) E.1 E.2.2.2.1 E.2.2.2.2.1 E.2.2.2.2.2.1 (E.2.2.2.2.2.2.2 n_Seeker_isOver) ok_Seeker_isOver cls_8 rfl km_Seeker_80 kn_Seeker_isOver kv_Seeker_isOver (by decide +kernel)) ?_
  refine mk_cons (sn_ifne (off := 53) E.1 (by decide +kernel) (by decide +kernel)) ?_
  refine mk_cons (sn_aload_n (k := 0) E.1 E.2.2.2.1 (by decide +kernel) rfl) ?_
  refine mk_cons (sn_getR (i := 21) E.1 cls_8 (by decide) rfl kf_Seeker_21 (by decide +kernel)) ?_
  refine mk_cons (sn_getR (i := 95) E.1 cls_3 (by decide) rfl kf_Seeker_95 (by decide +kernel)) ?_
  refine mk_cons (sn_iload_n (k := 2) E.1 (by decide +kernel) rfl) ?_
  refine mk_cons (sn_iload E.1 (by decide +kernel)) ?_
  refine mk_cons (sn_iast E.1 (by decide +kernel)) ?_
  refine mk_cons (sn_iload_n (k := 2) E.1 (by decide +kernel) rfl) ?_
  refine mk_cons (sn_ifne (off := 7) E.1 (by decide +kernel) (by decide +kernel)) ?_
  refine mk_cons (sn_iload_n (k := 3) E.1 (by decide +kernel) rfl) ?_
  refine mk_cons (sn_goto (off := 12) E.1 (by decide +kernel) (by decide +kernel)) ?_
  refine mk_cons (sn_aload_n (k := 0) E.1 E.2.2.2.1 (by decide +kernel) rfl) ?_
  refine mk_cons (sn_aload_n (k := 1) E.1 E.2.2.2.1 (by decide +kernel) rfl) ?_
  refine mk_cons (sn_iload_n (k := 2) E.1 (by decide +kernel) rfl) ?_
  refine mk_cons (sn_iconst (n := 1) E.1 (by decide +kernel) (by decide +kernel)) ?_
  refine mk_cons (sn_isub E.1 (by decide +kernel)) ?_
  refine mk_cons (sn_iload_n (k := 3) E.1 (by decide +kernel) rfl) ?_
  refine mk_cons (sn_callV (i := 99) E.1 E.2.2.2.1 E.2.2.2.2.1 E.2.2.2.2.2.1 (E.2.2.2.2.2.2.2 n_Seeker_follow) ok_Seeker_follow cls_8 rfl km_Seeker_99 kn_Seeker_follow kv_Seeker_follow (by decide +kernel)) ?_
  refine mk_cons (sn_istore E.1 (by decide +kernel) (by decide +kernel)) ?_
  refine mk_cons (sn_iload E.1 (by decide +kernel)) ?_
  refine mk_cons (sn_iconst (n := (-1)) E.1 (by decide +kernel) (by decide +kernel)) ?_
  refine mk_cons (sn_ceq (off := 11) E.1 (by decide +kernel) (by decide +kernel)) ?_
  refine mk_cons (sn_aload_n (k := 0) E.1 E.2.2.2.1 (by decide +kernel) rfl) ?_
  refine mk_cons (sn_aload_n (k := 1) E.1 E.2.2.2.1 (by decide +kernel) rfl) ?_
  refine mk_cons (sn_iload_n (k := 2) E.1 (by decide +kernel) rfl) ?_
  refine mk_cons (sn_iload E.1 (by decide +kernel)) ?_
  refine mk_cons (sn_callV (i := 103) E.1 E.2.2.2.1 E.2.2.2.2.1 E.2.2.2.2.2.1 (E.2.2.2.2.2.2.2 n_Seeker_goOnFrom) ok_Seeker_goOnFrom cls_8 rfl km_Seeker_103 kn_Seeker_goOnFrom kv_Seeker_goOnFrom (by decide +kernel)) ?_
  refine mk_cons (sn_iinc (n := 1) E.1 (by decide +kernel) (by decide +kernel) (by decide +kernel)) ?_
  refine mk_cons (sn_goto (off := (-61)) E.1 (by decide +kernel) (by decide +kernel)) ?_
  refine mk_cons (sn_ret E.1 E.2.1 E.2.2.2.2.2.2.1 (by decide +kernel)) ?_
  exact mk_nil
set_option maxRecDepth 100000 in
set_option maxHeartbeats 4000000 in
theorem rw_Seeker_goOnFrom : mk_Rows n_Seeker_goOnFrom := by
  intro p l e R s m args below meth c D cy b sk lim cr Q n0 d E
  show ∀ q ∈ t_Seeker_goOnFrom, _
  refine mk_cons (sn_iload_n (k := 2) E.1 (by decide +kernel) rfl) ?_
  refine mk_cons (sn_iconst (n := 1) E.1 (by decide +kernel) (by decide +kernel)) ?_
  refine mk_cons (sn_iadd E.1 (by decide +kernel)) ?_
  refine mk_cons (sn_aload_n (k := 0) E.1 E.2.2.2.1 (by decide +kernel) rfl) ?_
  refine mk_cons (sn_getR (i := 21) E.1 cls_8 (by decide) rfl kf_Seeker_21 (by decide +kernel)) ?_
  refine mk_cons (sn_getI (i := 84) (c0 := 0) E.1 cls_3 (by decide) rfl (by decide) kf_Seeker_84 (by decide +kernel)) ?_
  refine mk_cons (sn_cge (off := 15) E.1 (by decide +kernel) (by decide +kernel)) ?_
  refine mk_cons (sn_aload_n (k := 0) E.1 E.2.2.2.1 (by decide +kernel) rfl) ?_
  refine mk_cons (sn_aload_n (k := 1) E.1 E.2.2.2.1 (by decide +kernel) rfl) ?_
  refine mk_cons (sn_iload_n (k := 2) E.1 (by decide +kernel) rfl) ?_
  refine mk_cons (sn_iconst (n := 1) E.1 (by decide +kernel) (by decide +kernel)) ?_
  refine mk_cons (sn_iadd E.1 (by decide +kernel)) ?_
  refine mk_cons (sn_iload_n (k := 3) E.1 (by decide +kernel) rfl) ?_
  refine mk_cons (sn_callV (i := 91) E.1 E.2.2.2.1 E.2.2.2.2.1 E.2.2.2.2.2.1 (E.2.2.2.2.2.2.2 n_Seeker_chooseAt) ok_Seeker_chooseAt cls_8 rfl km_Seeker_91 kn_Seeker_chooseAt kv_Seeker_chooseAt (by decide +kernel)) ?_
  refine mk_cons (sn_goto (off := 14) E.1 (by decide +kernel) (by decide +kernel)) ?_
  refine mk_cons (sn_aload_n (k := 0) E.1 E.2.2.2.1 (by decide +kernel) rfl) ?_
  refine mk_cons (sn_aload_n (k := 0) E.1 E.2.2.2.1 (by decide +kernel) rfl) ?_
  refine mk_cons (sn_aload_n (k := 1) E.1 E.2.2.2.1 (by decide +kernel) rfl) ?_
  refine mk_cons (sn_iload_n (k := 2) E.1 (by decide +kernel) rfl) ?_
  refine mk_cons (sn_iload_n (k := 3) E.1 (by decide +kernel) rfl) ?_
  refine mk_cons (sn_callV (i := 99) E.1 E.2.2.2.1 E.2.2.2.2.1 E.2.2.2.2.2.1 (E.2.2.2.2.2.2.2 n_Seeker_follow) ok_Seeker_follow cls_8 rfl km_Seeker_99 kn_Seeker_follow kv_Seeker_follow (by decide +kernel)) ?_
  refine mk_cons (sn_callV (i := 87) E.1 E.2.2.2.1 E.2.2.2.2.1 E.2.2.2.2.2.1 (E.2.2.2.2.2.2.2 n_Seeker_judge) ok_Seeker_judge cls_8 rfl km_Seeker_87 kn_Seeker_judge kv_Seeker_judge (by decide +kernel)) ?_
  refine mk_cons (sn_ret E.1 E.2.1 E.2.2.2.2.2.2.1 (by decide +kernel)) ?_
  exact mk_nil
set_option maxRecDepth 100000 in
set_option maxHeartbeats 4000000 in
theorem rw_Seeker_follow : mk_Rows n_Seeker_follow := by
  intro p l e R s m args below meth c D cy b sk lim cr Q n0 d E
  show ∀ q ∈ t_Seeker_follow, _
  refine mk_cons (sn_aload_n (k := 0) E.1 E.2.2.2.1 (by decide +kernel) rfl) ?_
  refine mk_cons (sn_getR (i := 38) E.1 cls_8 (by decide) rfl kf_Seeker_38 (by decide +kernel)) ?_
  refine mk_cons (sn_aload_n (k := 1) E.1 E.2.2.2.1 (by decide +kernel) rfl) ?_
  refine mk_cons (sn_aload_n (k := 0) E.1 E.2.2.2.1 (by decide +kernel) rfl) ?_
  refine mk_cons (sn_getR (i := 21) E.1 cls_8 (by decide) rfl kf_Seeker_21 (by decide +kernel)) ?_
  refine mk_cons (sn_iload_n (k := 2) E.1 (by decide +kernel) rfl) ?_
  refine mk_cons (sn_callV (i := 106) E.1 E.2.2.2.1 E.2.2.2.2.1 E.2.2.2.2.2.1 (E.2.2.2.2.2.2.2 n_Clerk_ruleAt) ok_Clerk_ruleAt cls_0 rfl km_Seeker_106 kn_Clerk_ruleAt kv_Clerk_ruleAt (by decide +kernel)) ?_
  refine mk_cons (sn_istore E.1 (by decide +kernel) (by decide +kernel)) ?_
  refine mk_cons (sn_iload E.1 (by decide +kernel)) ?_
  refine mk_cons (sn_iconst (n := (-1)) E.1 (by decide +kernel) (by decide +kernel)) ?_
  refine mk_cons (sn_cne (off := 18) E.1 (by decide +kernel) (by decide +kernel)) ?_
  refine mk_cons (sn_aload_n (k := 0) E.1 E.2.2.2.1 (by decide +kernel) rfl) ?_
  refine mk_cons (sn_aload_n (k := 0) E.1 E.2.2.2.1 (by decide +kernel) rfl) ?_
  refine mk_cons (sn_getR (i := 21) E.1 cls_8 (by decide) rfl kf_Seeker_21 (by decide +kernel)) ?_
  refine mk_cons (sn_getR (i := 95) E.1 cls_3 (by decide) rfl kf_Seeker_95 (by decide +kernel)) ?_
  refine mk_cons (sn_iload_n (k := 2) E.1 (by decide +kernel) rfl) ?_
  refine mk_cons (sn_iald E.1 (by decide +kernel)) ?_
  refine mk_cons (sn_iload_n (k := 3) E.1 (by decide +kernel) rfl) ?_
  refine mk_cons (sn_callV (i := 110) E.1 E.2.2.2.1 E.2.2.2.2.1 E.2.2.2.2.2.1 (E.2.2.2.2.2.2.2 n_Seeker_meet) ok_Seeker_meet cls_8 rfl km_Seeker_110 kn_Seeker_meet kv_Seeker_meet (by decide +kernel)) ?_
  refine mk_cons (sn_iret E.1 E.2.1 E.2.2.2.2.2.2.1 (by decide +kernel)) ?_
  refine mk_cons (sn_iload_n (k := 3) E.1 (by decide +kernel) rfl) ?_
  refine mk_cons (sn_istore E.1 (by decide +kernel) (by decide +kernel)) ?_
  refine mk_cons (sn_iconst (n := 0) E.1 (by decide +kernel) (by decide +kernel)) ?_
  refine mk_cons (sn_istore E.1 (by decide +kernel) (by decide +kernel)) ?_
  refine mk_cons (sn_iload E.1 (by decide +kernel)) ?_
  refine mk_cons (sn_aload_n (k := 1) E.1 E.2.2.2.1 (by decide +kernel) rfl) ?_
  refine mk_cons (sn_getR (i := 114) E.1 cls_7 (by decide) rfl kf_Seeker_114 (by decide +kernel)) ?_
  refine mk_cons (sn_iload E.1 (by decide +kernel)) ?_
  refine mk_cons (sn_iald E.1 (by decide +kernel)) ?_
  refine mk_cons (sn_cge (off := 35) E.1 (by decide +kernel) (by decide +kernel)) ?_
  refine mk_cons (sn_iload E.1 (by decide +kernel)) ?_
  refine mk_cons (sn_iconst (n := (-1)) E.1 (by decide +kernel) (by decide +kernel)) ?_
  refine mk_cons (sn_ceq (off := 29) E.1 (by decide +kernel) (by decide +kernel)) ?_
  refine mk_cons (sn_aload_n (k := 0) E.1 E.2.2.2.1 (by decide +kernel) rfl) ?_
  refine mk_cons (sn_aload_n (k := 1) E.1 E.2.2.2.1 (by decide +kernel) rfl) ?_
  refine mk_cons (sn_getR (i := 119) E.1 cls_7 (by decide) rfl kf_Seeker_119 (by decide +kernel)) ?_
  refine mk_cons (sn_iload E.1 (by decide +kernel)) ?_
  refine mk_cons (sn_iconst (n := 4) E.1 (by decide +kernel) (by decide +kernel)) ?_
  refine mk_cons (sn_imul E.1 (by decide +kernel)) ?_
  refine mk_cons (sn_iload E.1 (by decide +kernel)) ?_
  refine mk_cons (sn_iadd E.1 (by decide +kernel)) ?_
  refine mk_cons (sn_iald E.1 (by decide +kernel)) ?_
  refine mk_cons (sn_iload E.1 (by decide +kernel)) ?_
  refine mk_cons (sn_callV (i := 110) E.1 E.2.2.2.1 E.2.2.2.2.1 E.2.2.2.2.2.1 (E.2.2.2.2.2.2.2 n_Seeker_meet) ok_Seeker_meet cls_8 rfl km_Seeker_110 kn_Seeker_meet kv_Seeker_meet (by decide +kernel)) ?_
  refine mk_cons (sn_istore E.1 (by decide +kernel) (by decide +kernel)) ?_
  refine mk_cons (sn_iinc (n := 1) E.1 (by decide +kernel) (by decide +kernel) (by decide +kernel)) ?_
  refine mk_cons (sn_goto (off := (-41)) E.1 (by decide +kernel) (by decide +kernel)) ?_
  refine mk_cons (sn_iload E.1 (by decide +kernel)) ?_
  refine mk_cons (sn_iret E.1 E.2.1 E.2.2.2.2.2.2.1 (by decide +kernel)) ?_
  exact mk_nil
set_option maxRecDepth 100000 in
set_option maxHeartbeats 4000000 in
theorem rw_Seeker_meet : mk_Rows n_Seeker_meet := by
  intro p l e R s m args below meth c D cy b sk lim cr Q n0 d E
  show ∀ q ∈ t_Seeker_meet, _
  refine mk_cons (sn_aload_n (k := 0) E.1 E.2.2.2.1 (by decide +kernel) rfl) ?_
  refine mk_cons (sn_getI (i := 31) (c0 := 0) E.1 cls_8 (by decide) rfl (by decide) kf_Seeker_31 (by decide +kernel)) ?_
  refine mk_cons (sn_iload_n (k := 1) E.1 (by decide +kernel) rfl) ?_
  refine mk_cons (sn_ishr E.1 (by decide +kernel)) ?_
  refine mk_cons (sn_iconst (n := 1) E.1 (by decide +kernel) (by decide +kernel)) ?_
  refine mk_cons (sn_iand E.1 (by decide +kernel)) ?_
  refine mk_cons (sn_iconst (n := 1) E.1 (by decide +kernel) (by decide +kernel)) ?_
  refine mk_cons (sn_cne (off := 5) E.1 (by decide +kernel) (by decide +kernel)) ?_
  refine mk_cons (sn_iload_n (k := 2) E.1 (by decide +kernel) rfl) ?_
  refine mk_cons (sn_iret E.1 E.2.1 E.2.2.2.2.2.2.1 (by decide +kernel)) ?_
  refine mk_cons (sn_aload_n (k := 0) E.1 E.2.2.2.1 (by decide +kernel) rfl) ?_
  refine mk_cons (sn_getR (i := 12) E.1 cls_8 (by decide) rfl kf_Seeker_12 (by decide +kernel)) ?_
  refine mk_cons (sn_iload_n (k := 2) E.1 (by decide +kernel) rfl) ?_
  refine mk_cons (sn_iconst (n := (-1)) E.1 (by decide +kernel) (by decide +kernel)) ?_
  refine mk_cons (sn_callV (i := 122) E.1 E.2.2.2.1 E.2.2.2.2.1 E.2.2.2.2.2.1 (E.2.2.2.2.2.2.2 n_Message_digitAt) ok_Message_digitAt cls_3 rfl km_Seeker_122 kn_Message_digitAt kv_Message_digitAt (by decide +kernel)) ?_
  refine mk_cons (sn_iload_n (k := 1) E.1 (by decide +kernel) rfl) ?_
  refine mk_cons (sn_cne (off := 9) E.1 (by decide +kernel) (by decide +kernel)) ?_
  refine mk_cons (sn_iload_n (k := 2) E.1 (by decide +kernel) rfl) ?_
  refine mk_cons (sn_iconst (n := 1) E.1 (by decide +kernel) (by decide +kernel)) ?_
  refine mk_cons (sn_iadd E.1 (by decide +kernel)) ?_
  refine mk_cons (sn_goto (off := 4) E.1 (by decide +kernel) (by decide +kernel)) ?_
  refine mk_cons (sn_iconst (n := (-1)) E.1 (by decide +kernel) (by decide +kernel)) ?_
  refine mk_cons (sn_iret E.1 E.2.1 E.2.2.2.2.2.2.1 (by decide +kernel)) ?_
  exact mk_nil
set_option maxRecDepth 100000 in
set_option maxHeartbeats 4000000 in
theorem rw_Seeker_judge : mk_Rows n_Seeker_judge := by
  intro p l e R s m args below meth c D cy b sk lim cr Q n0 d E
  show ∀ q ∈ t_Seeker_judge, _
  refine mk_cons (sn_iload_n (k := 1) E.1 (by decide +kernel) rfl) ?_
  refine mk_cons (sn_aload_n (k := 0) E.1 E.2.2.2.1 (by decide +kernel) rfl) ?_
  refine mk_cons (sn_getR (i := 12) E.1 cls_8 (by decide) rfl kf_Seeker_12 (by decide +kernel)) ?_
  refine mk_cons (sn_getI (i := 84) (c0 := 0) E.1 cls_3 (by decide) rfl (by decide) kf_Seeker_84 (by decide +kernel)) ?_
  refine mk_cons (sn_cne (off := 24) E.1 (by decide +kernel) (by decide +kernel)) ?_
  refine mk_cons (sn_aload_n (k := 0) E.1 E.2.2.2.1 (by decide +kernel) rfl) ?_
  refine mk_cons (sn_getI (i := 34) (c0 := 3) E.1 cls_8 (by decide) rfl (by decide) kf_Seeker_34 (by decide +kernel)) ?_
  refine mk_cons (sn_ifeq (off := 18) E.1 (by decide +kernel) (by decide +kernel)) ?_
  refine mk_cons (sn_aload_n (k := 0) E.1 E.2.2.2.1 (by decide +kernel) rfl) ?_
  refine mk_cons (sn_getR (i := 21) E.1 cls_8 (by decide) rfl kf_Seeker_21 (by decide +kernel)) ?_
  refine mk_cons (sn_aload_n (k := 0) E.1 E.2.2.2.1 (by decide +kernel) rfl) ?_
  refine mk_cons (sn_getR (i := 18) E.1 cls_8 (by decide) rfl kf_Seeker_18 (by decide +kernel)) ?_
  refine mk_cons (sn_callV (i := 125) E.1 E.2.2.2.1 E.2.2.2.2.1 E.2.2.2.2.2.1 (E.2.2.2.2.2.2.2 n_Message_sameAs) ok_Message_sameAs cls_3 rfl km_Seeker_125 kn_Message_sameAs kv_Message_sameAs (by decide +kernel)) ?_
  refine mk_cons (sn_ifeq (off := 4) E.1 (by decide +kernel) (by decide +kernel)) ?_
  refine mk_cons (sn_ret E.1 E.2.1 E.2.2.2.2.2.2.1 (by decide +kernel)) ?_
  refine mk_cons (sn_aload_n (k := 0) E.1 E.2.2.2.1 (by decide +kernel) rfl) ?_
  refine mk_cons (sn_getI (i := 27) (c0 := 0) E.1 cls_8 (by decide) rfl (by decide) kf_Seeker_27 (by decide +kernel)) ?_
  refine mk_cons (sn_ifne (off := 14) E.1 (by decide +kernel) (by decide +kernel)) ?_
  refine mk_cons (sn_aload_n (k := 0) E.1 E.2.2.2.1 (by decide +kernel) rfl) ?_
  refine mk_cons (sn_getR (i := 24) E.1 cls_8 (by decide) rfl kf_Seeker_24 (by decide +kernel)) ?_
  refine mk_cons (sn_aload_n (k := 0) E.1 E.2.2.2.1 (by decide +kernel) rfl) ?_
  refine mk_cons (sn_getR (i := 21) E.1 cls_8 (by decide) rfl kf_Seeker_21 (by decide +kernel)) ?_
  refine mk_cons (sn_callV (i := 47) E.1 E.2.2.2.1 E.2.2.2.2.1 E.2.2.2.2.2.1 (E.2.2.2.2.2.2.2 n_Message_copyFrom) ok_Message_copyFrom cls_3 rfl km_Seeker_47 kn_Message_copyFrom kv_Message_copyFrom (by decide +kernel)) ?_
  refine mk_cons (sn_aload_n (k := 0) E.1 E.2.2.2.1 (by decide +kernel) rfl) ?_
  refine mk_cons (sn_dup E.1 (by decide +kernel)) ?_
  refine mk_cons (sn_getI (i := 27) (c0 := 0) E.1 cls_8 (by decide) rfl (by decide) kf_Seeker_27 (by decide +kernel)) ?_
  refine mk_cons (sn_iconst (n := 1) E.1 (by decide +kernel) (by decide +kernel)) ?_
  refine mk_cons (sn_iadd E.1 (by decide +kernel)) ?_
  refine mk_cons (sn_putI (i := 27) E.1 cls_8 (by decide) rfl rfl rfl kf_Seeker_27 (by decide +kernel)) ?_
  refine mk_cons (sn_ret E.1 E.2.1 E.2.2.2.2.2.2.1 (by decide +kernel)) ?_
  exact mk_nil
set_option maxRecDepth 100000 in
set_option maxHeartbeats 4000000 in
theorem rw_Tape_init : mk_Rows n_Tape_init := by
  intro p l e R s m args below meth c D cy b sk lim cr Q n0 d E
  show ∀ q ∈ t_Tape_init, _
  refine mk_cons (sn_aload_n (k := 0) E.1 E.2.2.2.1 (by decide +kernel) rfl) ?_
  refine mk_cons (sn_oini (i := 3) E.1 km_Tape_3 kn_oini kd_oini (by decide +kernel)) ?_
  refine mk_cons (sn_aload_n (k := 0) E.1 E.2.2.2.1 (by decide +kernel) rfl) ?_
  refine mk_cons (sn_sipush (n := 400) E.1 (by decide +kernel) (by decide +kernel)) ?_
  refine mk_cons (sn_newI E.1 ka_int (by decide +kernel)) ?_
  refine mk_cons (sn_putRF (i := 9) E.1 E.2.2.1 cls_9 (by decide) rfl (Or.inr ⟨_, rfl⟩) rfl rfl kf_Tape_9 (by decide +kernel)) ?_
  refine mk_cons (sn_aload_n (k := 0) E.1 E.2.2.2.1 (by decide +kernel) rfl) ?_
  refine mk_cons (sn_iconst (n := 0) E.1 (by decide +kernel) (by decide +kernel)) ?_
  refine mk_cons (sn_putI (i := 15) E.1 cls_9 (by decide) rfl rfl rfl kf_Tape_15 (by decide +kernel)) ?_
  refine mk_cons (sn_aload_n (k := 0) E.1 E.2.2.2.1 (by decide +kernel) rfl) ?_
  refine mk_cons (sn_iconst (n := 0) E.1 (by decide +kernel) (by decide +kernel)) ?_
  refine mk_cons (sn_putI (i := 19) E.1 cls_9 (by decide) rfl rfl rfl kf_Tape_19 (by decide +kernel)) ?_
  refine mk_cons (sn_aload_n (k := 0) E.1 E.2.2.2.1 (by decide +kernel) rfl) ?_
  refine mk_cons (sn_iconst (n := 0) E.1 (by decide +kernel) (by decide +kernel)) ?_
  refine mk_cons (sn_putI (i := 22) E.1 cls_9 (by decide) rfl rfl rfl kf_Tape_22 (by decide +kernel)) ?_
  refine mk_cons (sn_aload_n (k := 0) E.1 E.2.2.2.1 (by decide +kernel) rfl) ?_
  refine mk_cons (sn_sipush (n := 10000) E.1 (by decide +kernel) (by decide +kernel)) ?_
  refine mk_cons (sn_putI (i := 25) E.1 cls_9 (by decide) rfl rfl rfl kf_Tape_25 (by decide +kernel)) ?_
  refine mk_cons (sn_ret E.1 E.2.1 E.2.2.2.2.2.2.1 (by decide +kernel)) ?_
  exact mk_nil
set_option maxRecDepth 100000 in
set_option maxHeartbeats 4000000 in
theorem rw_Tape_append : mk_Rows n_Tape_append := by
  intro p l e R s m args below meth c D cy b sk lim cr Q n0 d E
  show ∀ q ∈ t_Tape_append, _
  refine mk_cons (sn_bipush (n := 24) E.1 (by decide +kernel) (by decide +kernel)) ?_
  refine mk_cons (sn_istore_n (k := 2) E.1 (by decide +kernel) rfl (by decide +kernel)) ?_
  refine mk_cons (sn_iload_n (k := 2) E.1 (by decide +kernel) rfl) ?_
  refine mk_cons (sn_iflt (off := 45) E.1 (by decide +kernel) (by decide +kernel)) ?_
  refine mk_cons (sn_aload_n (k := 0) E.1 E.2.2.2.1 (by decide +kernel) rfl) ?_
  refine mk_cons (sn_getI (i := 15) (c0 := 0) E.1 cls_9 (by decide) rfl (by decide) kf_Tape_15 (by decide +kernel)) ?_
  refine mk_cons (sn_sipush (n := 400) E.1 (by decide +kernel) (by decide +kernel)) ?_
  refine mk_cons (sn_cge (off := 35) E.1 (by decide +kernel) (by decide +kernel)) ?_
  refine mk_cons (sn_aload_n (k := 0) E.1 E.2.2.2.1 (by decide +kernel) rfl) ?_
  refine mk_cons (sn_getR (i := 9) E.1 cls_9 (by decide) rfl kf_Tape_9 (by decide +kernel)) ?_
  refine mk_cons (sn_aload_n (k := 0) E.1 E.2.2.2.1 (by decide +kernel) rfl) ?_
  refine mk_cons (sn_getI (i := 15) (c0 := 0) E.1 cls_9 (by decide) rfl (by decide) kf_Tape_15 (by decide +kernel)) ?_
  refine mk_cons (sn_iload_n (k := 1) E.1 (by decide +kernel) rfl) ?_
  refine mk_cons (sn_iload_n (k := 2) E.1 (by decide +kernel) rfl) ?_
  refine mk_cons (sn_iushr E.1 (by decide +kernel)) ?_
  refine mk_cons (sn_sipush (n := 255) E.1 (by decide +kernel) (by decide +kernel)) ?_
  refine mk_cons (sn_iand E.1 (by decide +kernel)) ?_
  refine mk_cons (sn_iast E.1 (by decide +kernel)) ?_
  refine mk_cons (sn_aload_n (k := 0) E.1 E.2.2.2.1 (by decide +kernel) rfl) ?_
  refine mk_cons (sn_dup E.1 (by decide +kernel)) ?_
  refine mk_cons (sn_getI (i := 15) (c0 := 0) E.1 cls_9 (by decide) rfl (by decide) kf_Tape_15 (by decide +kernel)) ?_
  refine mk_cons (sn_iconst (n := 1) E.1 (by decide +kernel) (by decide +kernel)) ?_
  refine mk_cons (sn_iadd E.1 (by decide +kernel)) ?_
  refine mk_cons (sn_putI (i := 15) E.1 cls_9 (by decide) rfl rfl rfl kf_Tape_15 (by decide +kernel)) ?_
  refine mk_cons (sn_iinc (n := (-8)) E.1 (by decide +kernel) (by decide +kernel) (by decide +kernel)) ?_
  refine mk_cons (sn_goto (off := (-43)) E.1 (by decide +kernel) (by decide +kernel)) ?_
  refine mk_cons (sn_ret E.1 E.2.1 E.2.2.2.2.2.2.1 (by decide +kernel)) ?_
  exact mk_nil
set_option maxRecDepth 100000 in
set_option maxHeartbeats 4000000 in
theorem rw_Tape_rewind : mk_Rows n_Tape_rewind := by
  intro p l e R s m args below meth c D cy b sk lim cr Q n0 d E
  show ∀ q ∈ t_Tape_rewind, _
  refine mk_cons (sn_aload_n (k := 0) E.1 E.2.2.2.1 (by decide +kernel) rfl) ?_
  refine mk_cons (sn_iconst (n := 0) E.1 (by decide +kernel) (by decide +kernel)) ?_
  refine mk_cons (sn_putI (i := 19) E.1 cls_9 (by decide) rfl rfl rfl kf_Tape_19 (by decide +kernel)) ?_
  refine mk_cons (sn_aload_n (k := 0) E.1 E.2.2.2.1 (by decide +kernel) rfl) ?_
  refine mk_cons (sn_iconst (n := 0) E.1 (by decide +kernel) (by decide +kernel)) ?_
  refine mk_cons (sn_putI (i := 22) E.1 cls_9 (by decide) rfl rfl rfl kf_Tape_22 (by decide +kernel)) ?_
  refine mk_cons (sn_aload_n (k := 0) E.1 E.2.2.2.1 (by decide +kernel) rfl) ?_
  refine mk_cons (sn_callV (i := 28) E.1 E.2.2.2.1 E.2.2.2.2.1 E.2.2.2.2.2.1 (E.2.2.2.2.2.2.2 n_Tape_advance) ok_Tape_advance cls_9 rfl km_Tape_28 kn_Tape_advance kv_Tape_advance (by decide +kernel)) ?_
  refine mk_cons (sn_ret E.1 E.2.1 E.2.2.2.2.2.2.1 (by decide +kernel)) ?_
  exact mk_nil
set_option maxRecDepth 100000 in
set_option maxHeartbeats 4000000 in
theorem rw_Tape_advance : mk_Rows n_Tape_advance := by
  intro p l e R s m args below meth c D cy b sk lim cr Q n0 d E
  show ∀ q ∈ t_Tape_advance, _
  refine mk_cons (sn_aload_n (k := 0) E.1 E.2.2.2.1 (by decide +kernel) rfl) ?_
  refine mk_cons (sn_getI (i := 19) (c0 := 0) E.1 cls_9 (by decide) rfl (by decide) kf_Tape_19 (by decide +kernel)) ?_
  refine mk_cons (sn_aload_n (k := 0) E.1 E.2.2.2.1 (by decide +kernel) rfl) ?_
  refine mk_cons (sn_getI (i := 22) (c0 := 0) E.1 cls_9 (by decide) rfl (by decide) kf_Tape_22 (by decide +kernel)) ?_
  refine mk_cons (sn_iadd E.1 (by decide +kernel)) ?_
  refine mk_cons (sn_istore_n (k := 1) E.1 (by decide +kernel) rfl (by decide +kernel)) ?_
  refine mk_cons (sn_iload_n (k := 1) E.1 (by decide +kernel) rfl) ?_
  refine mk_cons (sn_aload_n (k := 0) E.1 E.2.2.2.1 (by decide +kernel) rfl) ?_
  refine mk_cons (sn_getI (i := 15) (c0 := 0) E.1 cls_9 (by decide) rfl (by decide) kf_Tape_15 (by decide +kernel)) ?_
  refine mk_cons (sn_cge (off := 21) E.1 (by decide +kernel) (by decide +kernel)) ?_
  refine mk_cons (sn_aload_n (k := 0) E.1 E.2.2.2.1 (by decide +kernel) rfl) ?_
  refine mk_cons (sn_getR (i := 9) E.1 cls_9 (by decide) rfl kf_Tape_9 (by decide +kernel)) ?_
  refine mk_cons (sn_iload_n (k := 1) E.1 (by decide +kernel) rfl) ?_
  refine mk_cons (sn_iald E.1 (by decide +kernel)) ?_
  refine mk_cons (sn_callS (i := 31) E.1 E.2.2.2.1 E.2.2.2.2.1 E.2.2.2.2.2.1 (E.2.2.2.2.2.2.2 n_Tape_isBlank) ok_Tape_isBlank km_Tape_31 ks_Tape_isBlank (by decide +kernel)) ?_
  refine mk_cons (sn_ifeq (off := 9) E.1 (by decide +kernel) (by decide +kernel)) ?_
  refine mk_cons (sn_iinc (n := 1) E.1 (by decide +kernel) (by decide +kernel) (by decide +kernel)) ?_
  refine mk_cons (sn_goto (off := (-23)) E.1 (by decide +kernel) (by decide +kernel)) ?_
  refine mk_cons (sn_aload_n (k := 0) E.1 E.2.2.2.1 (by decide +kernel) rfl) ?_
  refine mk_cons (sn_iload_n (k := 1) E.1 (by decide +kernel) rfl) ?_
  refine mk_cons (sn_putI (i := 19) E.1 cls_9 (by decide) rfl rfl rfl kf_Tape_19 (by decide +kernel)) ?_
  refine mk_cons (sn_iload_n (k := 1) E.1 (by decide +kernel) rfl) ?_
  refine mk_cons (sn_aload_n (k := 0) E.1 E.2.2.2.1 (by decide +kernel) rfl) ?_
  refine mk_cons (sn_getI (i := 15) (c0 := 0) E.1 cls_9 (by decide) rfl (by decide) kf_Tape_15 (by decide +kernel)) ?_
  refine mk_cons (sn_clt (off := 18) E.1 (by decide +kernel) (by decide +kernel)) ?_
  refine mk_cons (sn_aload_n (k := 0) E.1 E.2.2.2.1 (by decide +kernel) rfl) ?_
  refine mk_cons (sn_iconst (n := 0) E.1 (by decide +kernel) (by decide +kernel)) ?_
  refine mk_cons (sn_putI (i := 22) E.1 cls_9 (by decide) rfl rfl rfl kf_Tape_22 (by decide +kernel)) ?_
  refine mk_cons (sn_aload_n (k := 0) E.1 E.2.2.2.1 (by decide +kernel) rfl) ?_
  refine mk_cons (sn_sipush (n := 10000) E.1 (by decide +kernel) (by decide +kernel)) ?_
  refine mk_cons (sn_putI (i := 25) E.1 cls_9 (by decide) rfl rfl rfl kf_Tape_25 (by decide +kernel)) ?_
  refine mk_cons (sn_goto (off := 124) E.1 (by decide +kernel) (by decide +kernel)) ?_
  refine mk_cons (sn_aload_n (k := 0) E.1 E.2.2.2.1 (by decide +kernel) rfl) ?_
  refine mk_cons (sn_getR (i := 9) E.1 cls_9 (by decide) rfl kf_Tape_9 (by decide +kernel)) ?_
  refine mk_cons (sn_iload_n (k := 1) E.1 (by decide +kernel) rfl) ?_
  refine mk_cons (sn_iald E.1 (by decide +kernel)) ?_
  refine mk_cons (sn_callS (i := 35) E.1 E.2.2.2.1 E.2.2.2.2.1 E.2.2.2.2.2.1 (E.2.2.2.2.2.2.2 n_Tape_isLetter) ok_Tape_isLetter km_Tape_35 ks_Tape_isLetter (by decide +kernel)) ?_
  refine mk_cons (sn_ifeq (off := 25) E.1 (by decide +kernel) (by decide +kernel)) ?_
  refine mk_cons (sn_aload_n (k := 0) E.1 E.2.2.2.1 (by decide +kernel) rfl) ?_
  refine mk_cons (sn_aload_n (k := 0) E.1 E.2.2.2.1 (by decide +kernel) rfl) ?_
  refine mk_cons (sn_iload_n (k := 1) E.1 (by decide +kernel) rfl) ?_
  refine mk_cons (sn_callV (i := 38) E.1 E.2.2.2.1 E.2.2.2.2.1 E.2.2.2.2.2.1 (E.2.2.2.2.2.2.2 n_Tape_lettersFrom) ok_Tape_lettersFrom cls_9 rfl km_Tape_38 kn_Tape_lettersFrom kv_Tape_lettersFrom (by decide +kernel)) ?_
  refine mk_cons (sn_iload_n (k := 1) E.1 (by decide +kernel) rfl) ?_
  refine mk_cons (sn_isub E.1 (by decide +kernel)) ?_
  refine mk_cons (sn_putI (i := 22) E.1 cls_9 (by decide) rfl rfl rfl kf_Tape_22 (by decide +kernel)) ?_
  refine mk_cons (sn_aload_n (k := 0) E.1 E.2.2.2.1 (by decide +kernel) rfl) ?_
  refine mk_cons (sn_aload_n (k := 0) E.1 E.2.2.2.1 (by decide +kernel) rfl) ?_
  refine mk_cons (sn_callV (i := 42) E.1 E.2.2.2.1 E.2.2.2.2.1 E.2.2.2.2.2.1 (E.2.2.2.2.2.2.2 n_Tape_keywordHere) ok_Tape_keywordHere cls_9 rfl km_Tape_42 kn_Tape_keywordHere kv_Tape_keywordHere (by decide +kernel)) ?_
  refine mk_cons (sn_putI (i := 25) E.1 cls_9 (by decide) rfl rfl rfl kf_Tape_25 (by decide +kernel)) ?_
  refine mk_cons (sn_goto (off := 90) E.1 (by decide +kernel) (by decide +kernel)) ?_
  refine mk_cons (sn_aload_n (k := 0) E.1 E.2.2.2.1 (by decide +kernel) rfl) ?_
  refine mk_cons (sn_getR (i := 9) E.1 cls_9 (by decide) rfl kf_Tape_9 (by decide +kernel)) ?_
  refine mk_cons (sn_iload_n (k := 1) E.1 (by decide +kernel) rfl) ?_
  refine mk_cons (sn_iald E.1 (by decide +kernel)) ?_
  refine mk_cons (sn_callS (i := 46) E.1 E.2.2.2.1 E.2.2.2.2.1 E.2.2.2.2.2.1 (E.2.2.2.2.2.2.2 n_Tape_isNumeral) ok_Tape_isNumeral km_Tape_46 ks_Tape_isNumeral (by decide +kernel)) ?_
  refine mk_cons (sn_ifeq (off := 38) E.1 (by decide +kernel) (by decide +kernel)) ?_
  refine mk_cons (sn_aload_n (k := 0) E.1 E.2.2.2.1 (by decide +kernel) rfl) ?_
  refine mk_cons (sn_aload_n (k := 0) E.1 E.2.2.2.1 (by decide +kernel) rfl) ?_
  refine mk_cons (sn_iload_n (k := 1) E.1 (by decide +kernel) rfl) ?_
  refine mk_cons (sn_callV (i := 49) E.1 E.2.2.2.1 E.2.2.2.2.1 E.2.2.2.2.2.1 (E.2.2.2.2.2.2.2 n_Tape_numeralsFrom) ok_Tape_numeralsFrom cls_9 rfl km_Tape_49 kn_Tape_numeralsFrom kv_Tape_numeralsFrom (by decide +kernel)) ?_
  refine mk_cons (sn_iload_n (k := 1) E.1 (by decide +kernel) rfl) ?_
  refine mk_cons (sn_isub E.1 (by decide +kernel)) ?_
  refine mk_cons (sn_putI (i := 22) E.1 cls_9 (by decide) rfl rfl rfl kf_Tape_22 (by decide +kernel)) ?_
  refine mk_cons (sn_aload_n (k := 0) E.1 E.2.2.2.1 (by decide +kernel) rfl) ?_
  refine mk_cons (sn_aload_n (k := 0) E.1 E.2.2.2.1 (by decide +kernel) rfl) ?_
  refine mk_cons (sn_getI (i := 22) (c0 := 0) E.1 cls_9 (by decide) rfl (by decide) kf_Tape_22 (by decide +kernel)) ?_
  refine mk_cons (sn_iconst (n := 4) E.1 (by decide +kernel) (by decide +kernel)) ?_
  refine mk_cons (sn_cgt (off := 9) E.1 (by decide +kernel) (by decide +kernel)) ?_
  refine mk_cons (sn_sipush (n := 10002) E.1 (by decide +kernel) (by decide +kernel)) ?_
  refine mk_cons (sn_goto (off := 6) E.1 (by decide +kernel) (by decide +kernel)) ?_
  refine mk_cons (sn_sipush (n := 10001) E.1 (by decide +kernel) (by decide +kernel)) ?_
  refine mk_cons (sn_putI (i := 25) E.1 cls_9 (by decide) rfl rfl rfl kf_Tape_25 (by decide +kernel)) ?_
  refine mk_cons (sn_goto (off := 43) E.1 (by decide +kernel) (by decide +kernel)) ?_
  refine mk_cons (sn_aload_n (k := 0) E.1 E.2.2.2.1 (by decide +kernel) rfl) ?_
  refine mk_cons (sn_iconst (n := 1) E.1 (by decide +kernel) (by decide +kernel)) ?_
  refine mk_cons (sn_putI (i := 22) E.1 cls_9 (by decide) rfl rfl rfl kf_Tape_22 (by decide +kernel)) ?_
  refine mk_cons (sn_aload_n (k := 0) E.1 E.2.2.2.1 (by decide +kernel) rfl) ?_
  refine mk_cons (sn_ldcS (i := 52) (j := 1) (tx := ";+-*/()<=>") E.1 (by decide) (E.2.2.2.2.1.1 1 ("LostSevens$Tape", 52, ";+-*/()<=>") rfl) (by decide +kernel)) ?_
  refine mk_cons (sn_aload_n (k := 0) E.1 E.2.2.2.1 (by decide +kernel) rfl) ?_
  refine mk_cons (sn_getR (i := 9) E.1 cls_9 (by decide) rfl kf_Tape_9 (by decide +kernel)) ?_
  refine mk_cons (sn_iload_n (k := 1) E.1 (by decide +kernel) rfl) ?_
  refine mk_cons (sn_iald E.1 (by decide +kernel)) ?_
  refine mk_cons (sn_i2c E.1 (by decide +kernel)) ?_
  refine mk_cons (sn_callT (i := 54) E.1 E.2.2.2.1 E.2.2.2.2.1 E.2.2.2.2.2.1 (E.2.2.2.2.2.2.2 n_Str_indexOf) ok_Str_indexOf rfl km_Tape_54 kn_Str_indexOf kv_Str_indexOf (by decide +kernel)) ?_
  refine mk_cons (sn_iflt (off := 16) E.1 (by decide +kernel) (by decide +kernel)) ?_
  refine mk_cons (sn_sipush (n := 10200) E.1 (by decide +kernel) (by decide +kernel)) ?_
  refine mk_cons (sn_aload_n (k := 0) E.1 E.2.2.2.1 (by decide +kernel) rfl) ?_
  refine mk_cons (sn_getR (i := 9) E.1 cls_9 (by decide) rfl kf_Tape_9 (by decide +kernel)) ?_
  refine mk_cons (sn_iload_n (k := 1) E.1 (by decide +kernel) rfl) ?_
  refine mk_cons (sn_iald E.1 (by decide +kernel)) ?_
  refine mk_cons (sn_iadd E.1 (by decide +kernel)) ?_
  refine mk_cons (sn_goto (off := 6) E.1 (by decide +kernel) (by decide +kernel)) ?_
  refine mk_cons (sn_sipush (n := 10001) E.1 (by decide +kernel) (by decide +kernel)) ?_
  refine mk_cons (sn_putI (i := 25) E.1 cls_9 (by decide) rfl rfl rfl kf_Tape_25 (by decide +kernel)) ?_
  refine mk_cons (sn_ret E.1 E.2.1 E.2.2.2.2.2.2.1 (by decide +kernel)) ?_
  exact mk_nil
