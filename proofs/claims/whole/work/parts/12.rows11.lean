set_option maxRecDepth 100000 in
set_option maxHeartbeats 4000000 in
theorem rw_Mo_send : mk_Rows n_Mo_send := by
  intro p l e R s m args below meth c D cy b sk lim cr Q n0 d E
  show ∀ q ∈ t_Mo_send, _
  refine mk_cons (sn_iload_n (k := 1) E.1 (by decide +kernel) rfl) ?_
  refine mk_cons (sn_callS (i := 78) E.1 E.2.2.2.1 E.2.2.2.2.1 E.2.2.2.2.2.1 (E.2.2.2.2.2.2.2 n_Mo_isStation) ok_Mo_isStation km_Mo_78 ks_Mo_isStation (by decide +kernel)) ?_
  refine mk_cons (sn_ifne (off := 5) E.1 (by decide +kernel) (by decide +kernel)) ?_
  refine mk_cons (sn_iconst (n := (-1)) E.1 (by decide +kernel) (by decide +kernel)) ?_
  refine mk_cons (sn_iret E.1 E.2.1 E.2.2.2.2.2.2.1 (by decide +kernel)) ?_
  refine mk_cons (sn_iload_n (k := 1) E.1 (by decide +kernel) rfl) ?_
  refine mk_cons (sn_istore E.1 (by decide +kernel) (by decide +kernel)) ?_
  refine mk_cons (sn_iconst (n := 0) E.1 (by decide +kernel) (by decide +kernel)) ?_
  refine mk_cons (sn_istore E.1 (by decide +kernel) (by decide +kernel)) ?_
  refine mk_cons (sn_iconst (n := 1) E.1 (by decide +kernel) (by decide +kernel)) ?_
  refine mk_cons (sn_istore E.1 (by decide +kernel) (by decide +kernel)) ?_
  refine mk_cons (sn_iconst (n := 0) E.1 (by decide +kernel) (by decide +kernel)) ?_
  refine mk_cons (sn_istore E.1 (by decide +kernel) (by decide +kernel)) ?_
  refine mk_cons (sn_iload E.1 (by decide +kernel)) ?_
  refine mk_cons (sn_iconst (n := 4) E.1 (by decide +kernel) (by decide +kernel)) ?_
  refine mk_cons (sn_cge (off := 101) E.1 (by decide +kernel) (by decide +kernel)) ?_
  refine mk_cons (sn_iload E.1 (by decide +kernel)) ?_
  refine mk_cons (sn_ifeq (off := 96) E.1 (by decide +kernel) (by decide +kernel)) ?_
  refine mk_cons (sn_iload E.1 (by decide +kernel)) ?_
  refine mk_cons (sn_ifne (off := 7) E.1 (by decide +kernel) (by decide +kernel)) ?_
  refine mk_cons (sn_iload_n (k := 2) E.1 (by decide +kernel) rfl) ?_
  refine mk_cons (sn_goto (off := 26) E.1 (by decide +kernel) (by decide +kernel)) ?_
  refine mk_cons (sn_iload E.1 (by decide +kernel)) ?_
  refine mk_cons (sn_iconst (n := 1) E.1 (by decide +kernel) (by decide +kernel)) ?_
  refine mk_cons (sn_cne (off := 7) E.1 (by decide +kernel) (by decide +kernel)) ?_
  refine mk_cons (sn_iload_n (k := 3) E.1 (by decide +kernel) rfl) ?_
  refine mk_cons (sn_goto (off := 16) E.1 (by decide +kernel) (by decide +kernel)) ?_
  refine mk_cons (sn_iload E.1 (by decide +kernel)) ?_
  refine mk_cons (sn_iconst (n := 2) E.1 (by decide +kernel) (by decide +kernel)) ?_
  refine mk_cons (sn_cne (off := 8) E.1 (by decide +kernel) (by decide +kernel)) ?_
  refine mk_cons (sn_iload E.1 (by decide +kernel)) ?_
  refine mk_cons (sn_goto (off := 5) E.1 (by decide +kernel) (by decide +kernel)) ?_
  refine mk_cons (sn_iload E.1 (by decide +kernel)) ?_
  refine mk_cons (sn_istore E.1 (by decide +kernel) (by decide +kernel)) ?_
  refine mk_cons (sn_iload E.1 (by decide +kernel)) ?_
  refine mk_cons (sn_iconst (n := (-1)) E.1 (by decide +kernel) (by decide +kernel)) ?_
  refine mk_cons (sn_ceq (off := 7) E.1 (by decide +kernel) (by decide +kernel)) ?_
  refine mk_cons (sn_iconst (n := 1) E.1 (by decide +kernel) (by decide +kernel)) ?_
  refine mk_cons (sn_goto (off := 4) E.1 (by decide +kernel) (by decide +kernel)) ?_
  refine mk_cons (sn_iconst (n := 0) E.1 (by decide +kernel) (by decide +kernel)) ?_
  refine mk_cons (sn_istore E.1 (by decide +kernel) (by decide +kernel)) ?_
  refine mk_cons (sn_iload E.1 (by decide +kernel)) ?_
  refine mk_cons (sn_ifne (off := 6) E.1 (by decide +kernel) (by decide +kernel)) ?_
  refine mk_cons (sn_goto (off := 35) E.1 (by decide +kernel) (by decide +kernel)) ?_
  refine mk_cons (sn_aload_n (k := 0) E.1 E.2.2.2.1 (by decide +kernel) rfl) ?_
  refine mk_cons (sn_iload E.1 (by decide +kernel)) ?_
  refine mk_cons (sn_callV (i := 89) E.1 E.2.2.2.1 E.2.2.2.2.1 E.2.2.2.2.2.1 (E.2.2.2.2.2.2.2 n_Mo_isLine) ok_Mo_isLine cls_12 rfl km_Mo_89 kn_Mo_isLine kv_Mo_isLine (by decide +kernel)) ?_
  refine mk_cons (sn_ifne (off := 5) E.1 (by decide +kernel) (by decide +kernel)) ?_
  refine mk_cons (sn_iconst (n := (-1)) E.1 (by decide +kernel) (by decide +kernel)) ?_
  refine mk_cons (sn_iret E.1 E.2.1 E.2.2.2.2.2.2.1 (by decide +kernel)) ?_
  refine mk_cons (sn_aload_n (k := 0) E.1 E.2.2.2.1 (by decide +kernel) rfl) ?_
  refine mk_cons (sn_iload E.1 (by decide +kernel)) ?_
  refine mk_cons (sn_iload E.1 (by decide +kernel)) ?_
  refine mk_cons (sn_callV (i := 253) E.1 E.2.2.2.1 E.2.2.2.2.1 E.2.2.2.2.2.1 (E.2.2.2.2.2.2.2 n_Mo_otherEnd) ok_Mo_otherEnd cls_12 rfl km_Mo_253 kn_Mo_otherEnd kv_Mo_otherEnd (by decide +kernel)) ?_
  refine mk_cons (sn_istore E.1 (by decide +kernel) (by decide +kernel)) ?_
  refine mk_cons (sn_iload E.1 (by decide +kernel)) ?_
  refine mk_cons (sn_iconst (n := (-1)) E.1 (by decide +kernel) (by decide +kernel)) ?_
  refine mk_cons (sn_cne (off := 5) E.1 (by decide +kernel) (by decide +kernel)) ?_
  refine mk_cons (sn_iconst (n := (-1)) E.1 (by decide +kernel) (by decide +kernel)) ?_
  refine mk_cons (sn_iret E.1 E.2.1 E.2.2.2.2.2.2.1 (by decide +kernel)) ?_
  refine mk_cons (sn_iinc (n := 1) E.1 (by decide +kernel) (by decide +kernel) (by decide +kernel)) ?_
  refine mk_cons (sn_iinc (n := 1) E.1 (by decide +kernel) (by decide +kernel) (by decide +kernel)) ?_
  refine mk_cons (sn_goto (off := (-101)) E.1 (by decide +kernel) (by decide +kernel)) ?_
  refine mk_cons (sn_iload E.1 (by decide +kernel)) ?_
  refine mk_cons (sn_ifne (off := 5) E.1 (by decide +kernel) (by decide +kernel)) ?_
  refine mk_cons (sn_iconst (n := (-1)) E.1 (by decide +kernel) (by decide +kernel)) ?_
  refine mk_cons (sn_iret E.1 E.2.1 E.2.2.2.2.2.2.1 (by decide +kernel)) ?_
  refine mk_cons (sn_aload_n (k := 0) E.1 E.2.2.2.1 (by decide +kernel) rfl) ?_
  refine mk_cons (sn_callV (i := 256) E.1 E.2.2.2.1 E.2.2.2.2.1 E.2.2.2.2.2.1 (E.2.2.2.2.2.2.2 n_Mo_keeps) ok_Mo_keeps cls_12 rfl km_Mo_256 kn_Mo_keeps kv_Mo_keeps (by decide +kernel)) ?_
  refine mk_cons (sn_aload_n (k := 0) E.1 E.2.2.2.1 (by decide +kernel) rfl) ?_
  refine mk_cons (sn_callV (i := 259) E.1 E.2.2.2.1 E.2.2.2.2.1 E.2.2.2.2.2.1 (E.2.2.2.2.2.2.2 n_Mo_takesPaper) ok_Mo_takesPaper cls_12 rfl km_Mo_259 kn_Mo_takesPaper kv_Mo_takesPaper (by decide +kernel)) ?_
  refine mk_cons (sn_iconst (n := 0) E.1 (by decide +kernel) (by decide +kernel)) ?_
  refine mk_cons (sn_istore E.1 (by decide +kernel) (by decide +kernel)) ?_
  refine mk_cons (sn_iload E.1 (by decide +kernel)) ?_
  refine mk_cons (sn_iload E.1 (by decide +kernel)) ?_
  refine mk_cons (sn_cge (off := 59) E.1 (by decide +kernel) (by decide +kernel)) ?_
  refine mk_cons (sn_iload E.1 (by decide +kernel)) ?_
  refine mk_cons (sn_ifne (off := 7) E.1 (by decide +kernel) (by decide +kernel)) ?_
  refine mk_cons (sn_iload_n (k := 2) E.1 (by decide +kernel) rfl) ?_
  refine mk_cons (sn_goto (off := 26) E.1 (by decide +kernel) (by decide +kernel)) ?_
  refine mk_cons (sn_iload E.1 (by decide +kernel)) ?_
  refine mk_cons (sn_iconst (n := 1) E.1 (by decide +kernel) (by decide +kernel)) ?_
  refine mk_cons (sn_cne (off := 7) E.1 (by decide +kernel) (by decide +kernel)) ?_
  refine mk_cons (sn_iload_n (k := 3) E.1 (by decide +kernel) rfl) ?_
  refine mk_cons (sn_goto (off := 16) E.1 (by decide +kernel) (by decide +kernel)) ?_
  refine mk_cons (sn_iload E.1 (by decide +kernel)) ?_
  refine mk_cons (sn_iconst (n := 2) E.1 (by decide +kernel) (by decide +kernel)) ?_
  refine mk_cons (sn_cne (off := 8) E.1 (by decide +kernel) (by decide +kernel)) ?_
  refine mk_cons (sn_iload E.1 (by decide +kernel)) ?_
  refine mk_cons (sn_goto (off := 5) E.1 (by decide +kernel) (by decide +kernel)) ?_
  refine mk_cons (sn_iload E.1 (by decide +kernel)) ?_
  refine mk_cons (sn_istore E.1 (by decide +kernel) (by decide +kernel)) ?_
  refine mk_cons (sn_aload_n (k := 0) E.1 E.2.2.2.1 (by decide +kernel) rfl) ?_
  refine mk_cons (sn_iload E.1 (by decide +kernel)) ?_
  refine mk_cons (sn_aload_n (k := 0) E.1 E.2.2.2.1 (by decide +kernel) rfl) ?_
  refine mk_cons (sn_iload E.1 (by decide +kernel)) ?_
  refine mk_cons (sn_bipush (n := 6) E.1 (by decide +kernel) (by decide +kernel)) ?_
  refine mk_cons (sn_callV (i := 240) E.1 E.2.2.2.1 E.2.2.2.2.1 E.2.2.2.2.2.1 (E.2.2.2.2.2.2.2 n_Mo_own) ok_Mo_own cls_12 rfl km_Mo_240 kn_Mo_own kv_Mo_own (by decide +kernel)) ?_
  refine mk_cons (sn_iconst (n := 1) E.1 (by decide +kernel) (by decide +kernel)) ?_
  refine mk_cons (sn_callV (i := 262) E.1 E.2.2.2.1 E.2.2.2.2.1 E.2.2.2.2.2.1 (E.2.2.2.2.2.2.2 n_Mo_goesBy) ok_Mo_goesBy cls_12 rfl km_Mo_262 kn_Mo_goesBy kv_Mo_goesBy (by decide +kernel)) ?_
  refine mk_cons (sn_pop E.1 (by decide +kernel)) ?_
  refine mk_cons (sn_iinc (n := 1) E.1 (by decide +kernel) (by decide +kernel) (by decide +kernel)) ?_
  refine mk_cons (sn_goto (off := (-60)) E.1 (by decide +kernel) (by decide +kernel)) ?_
  refine mk_cons (sn_aload_n (k := 0) E.1 E.2.2.2.1 (by decide +kernel) rfl) ?_
  refine mk_cons (sn_getR (i := 7) E.1 cls_12 (by decide) rfl kf_Mo_7 (by decide +kernel)) ?_
  refine mk_cons (sn_bipush (n := 8) E.1 (by decide +kernel) (by decide +kernel)) ?_
  refine mk_cons (sn_aload_n (k := 0) E.1 E.2.2.2.1 (by decide +kernel) rfl) ?_
  refine mk_cons (sn_getI (i := 226) (c0 := 0) E.1 cls_12 (by decide) rfl (by decide) kf_Mo_226 (by decide +kernel)) ?_
  refine mk_cons (sn_iast E.1 (by decide +kernel)) ?_
  refine mk_cons (sn_iconst (n := 0) E.1 (by decide +kernel) (by decide +kernel)) ?_
  refine mk_cons (sn_istore E.1 (by decide +kernel) (by decide +kernel)) ?_
  refine mk_cons (sn_iload E.1 (by decide +kernel)) ?_
  refine mk_cons (sn_aload_n (k := 0) E.1 E.2.2.2.1 (by decide +kernel) rfl) ?_
  refine mk_cons (sn_getI (i := 226) (c0 := 0) E.1 cls_12 (by decide) rfl (by decide) kf_Mo_226 (by decide +kernel)) ?_
  refine mk_cons (sn_cge (off := 26) E.1 (by decide +kernel) (by decide +kernel)) ?_
  refine mk_cons (sn_aload_n (k := 0) E.1 E.2.2.2.1 (by decide +kernel) rfl) ?_
  refine mk_cons (sn_getR (i := 7) E.1 cls_12 (by decide) rfl kf_Mo_7 (by decide +kernel)) ?_
  refine mk_cons (sn_bipush (n := 34) E.1 (by decide +kernel) (by decide +kernel)) ?_
  refine mk_cons (sn_iload E.1 (by decide +kernel)) ?_
  refine mk_cons (sn_iadd E.1 (by decide +kernel)) ?_
  refine mk_cons (sn_aload_n (k := 0) E.1 E.2.2.2.1 (by decide +kernel) rfl) ?_
  refine mk_cons (sn_getR (i := 42) E.1 cls_12 (by decide) rfl kf_Mo_42 (by decide +kernel)) ?_
  refine mk_cons (sn_iload E.1 (by decide +kernel)) ?_
  refine mk_cons (sn_iald E.1 (by decide +kernel)) ?_
  refine mk_cons (sn_iast E.1 (by decide +kernel)) ?_
  refine mk_cons (sn_iinc (n := 1) E.1 (by decide +kernel) (by decide +kernel) (by decide +kernel)) ?_
  refine mk_cons (sn_goto (off := (-29)) E.1 (by decide +kernel) (by decide +kernel)) ?_
  refine mk_cons (sn_aload_n (k := 0) E.1 E.2.2.2.1 (by decide +kernel) rfl) ?_
  refine mk_cons (sn_dup E.1 (by decide +kernel)) ?_
  refine mk_cons (sn_getJ (i := 249) E.1 cls_12 (by decide) rfl kf_Mo_249 (by decide +kernel)) ?_
  refine mk_cons (sn_aload_n (k := 0) E.1 E.2.2.2.1 (by decide +kernel) rfl) ?_
  refine mk_cons (sn_bipush (n := 34) E.1 (by decide +kernel) (by decide +kernel)) ?_
  refine mk_cons (sn_aload_n (k := 0) E.1 E.2.2.2.1 (by decide +kernel) rfl) ?_
  refine mk_cons (sn_getR (i := 7) E.1 cls_12 (by decide) rfl kf_Mo_7 (by decide +kernel)) ?_
  refine mk_cons (sn_bipush (n := 8) E.1 (by decide +kernel) (by decide +kernel)) ?_
  refine mk_cons (sn_iald E.1 (by decide +kernel)) ?_
  refine mk_cons (sn_callV (i := 266) E.1 E.2.2.2.1 E.2.2.2.2.1 E.2.2.2.2.2.1 (E.2.2.2.2.2.2.2 n_Mo_valueOf) ok_Mo_valueOf cls_12 rfl km_Mo_266 kn_Mo_valueOf kv_Mo_valueOf (by decide +kernel)) ?_
  refine mk_cons (sn_aload_n (k := 0) E.1 E.2.2.2.1 (by decide +kernel) rfl) ?_
  refine mk_cons (sn_bipush (n := 10) E.1 (by decide +kernel) (by decide +kernel)) ?_
  refine mk_cons (sn_aload_n (k := 0) E.1 E.2.2.2.1 (by decide +kernel) rfl) ?_
  refine mk_cons (sn_getR (i := 7) E.1 cls_12 (by decide) rfl kf_Mo_7 (by decide +kernel)) ?_
  refine mk_cons (sn_bipush (n := 6) E.1 (by decide +kernel) (by decide +kernel)) ?_
  refine mk_cons (sn_iald E.1 (by decide +kernel)) ?_
  refine mk_cons (sn_callV (i := 266) E.1 E.2.2.2.1 E.2.2.2.2.1 E.2.2.2.2.2.1 (E.2.2.2.2.2.2.2 n_Mo_valueOf) ok_Mo_valueOf cls_12 rfl km_Mo_266 kn_Mo_valueOf kv_Mo_valueOf (by decide +kernel)) ?_
  refine mk_cons (sn_isub E.1 (by decide +kernel)) ?_
  refine mk_cons (sn_i2l E.1 (by decide +kernel)) ?_
  refine mk_cons (sn_ladd E.1 (by decide +kernel)) ?_
  refine mk_cons (sn_putJ (i := 249) E.1 cls_12 (by decide) rfl rfl rfl kf_Mo_249 (by decide +kernel)) ?_
  refine mk_cons (sn_aload_n (k := 0) E.1 E.2.2.2.1 (by decide +kernel) rfl) ?_
  refine mk_cons (sn_getR (i := 7) E.1 cls_12 (by decide) rfl kf_Mo_7 (by decide +kernel)) ?_
  refine mk_cons (sn_iconst (n := 3) E.1 (by decide +kernel) (by decide +kernel)) ?_
  refine mk_cons (sn_dup2 E.1 (by decide +kernel)) ?_
  refine mk_cons (sn_iald E.1 (by decide +kernel)) ?_
  refine mk_cons (sn_iconst (n := 1) E.1 (by decide +kernel) (by decide +kernel)) ?_
  refine mk_cons (sn_iadd E.1 (by decide +kernel)) ?_
  refine mk_cons (sn_iast E.1 (by decide +kernel)) ?_
  refine mk_cons (sn_aload_n (k := 0) E.1 E.2.2.2.1 (by decide +kernel) rfl) ?_
  refine mk_cons (sn_getI (i := 226) (c0 := 0) E.1 cls_12 (by decide) rfl (by decide) kf_Mo_226 (by decide +kernel)) ?_
  refine mk_cons (sn_iret E.1 E.2.1 E.2.2.2.2.2.2.1 (by decide +kernel)) ?_
  exact mk_nil
set_option maxRecDepth 100000 in
set_option maxHeartbeats 4000000 in
theorem rw_Mo_day : mk_Rows n_Mo_day := by
  intro p l e R s m args below meth c D cy b sk lim cr Q n0 d E
  show ∀ q ∈ t_Mo_day, _
  refine mk_cons (sn_aload_n (k := 0) E.1 E.2.2.2.1 (by decide +kernel) rfl) ?_
  refine mk_cons (sn_getR (i := 7) E.1 cls_12 (by decide) rfl kf_Mo_7 (by decide +kernel)) ?_
  refine mk_cons (sn_iconst (n := 0) E.1 (by decide +kernel) (by decide +kernel)) ?_
  refine mk_cons (sn_iald E.1 (by decide +kernel)) ?_
  refine mk_cons (sn_sipush (n := 9999) E.1 (by decide +kernel) (by decide +kernel)) ?_
  refine mk_cons (sn_cne (off := 5) E.1 (by decide +kernel) (by decide +kernel)) ?_
  refine mk_cons (sn_iconst (n := (-1)) E.1 (by decide +kernel) (by decide +kernel)) ?_
  refine mk_cons (sn_iret E.1 E.2.1 E.2.2.2.2.2.2.1 (by decide +kernel)) ?_
  refine mk_cons (sn_aload_n (k := 0) E.1 E.2.2.2.1 (by decide +kernel) rfl) ?_
  refine mk_cons (sn_getR (i := 7) E.1 cls_12 (by decide) rfl kf_Mo_7 (by decide +kernel)) ?_
  refine mk_cons (sn_iconst (n := 0) E.1 (by decide +kernel) (by decide +kernel)) ?_
  refine mk_cons (sn_dup2 E.1 (by decide +kernel)) ?_
  refine mk_cons (sn_iald E.1 (by decide +kernel)) ?_
  refine mk_cons (sn_iconst (n := 1) E.1 (by decide +kernel) (by decide +kernel)) ?_
  refine mk_cons (sn_iadd E.1 (by decide +kernel)) ?_
  refine mk_cons (sn_iast E.1 (by decide +kernel)) ?_
  refine mk_cons (sn_iconst (n := 0) E.1 (by decide +kernel) (by decide +kernel)) ?_
  refine mk_cons (sn_istore_n (k := 1) E.1 (by decide +kernel) rfl (by decide +kernel)) ?_
  refine mk_cons (sn_iconst (n := 0) E.1 (by decide +kernel) (by decide +kernel)) ?_
  refine mk_cons (sn_istore_n (k := 2) E.1 (by decide +kernel) rfl (by decide +kernel)) ?_
  refine mk_cons (sn_iload_n (k := 2) E.1 (by decide +kernel) rfl) ?_
  refine mk_cons (sn_aload_n (k := 0) E.1 E.2.2.2.1 (by decide +kernel) rfl) ?_
  refine mk_cons (sn_getR (i := 7) E.1 cls_12 (by decide) rfl kf_Mo_7 (by decide +kernel)) ?_
  refine mk_cons (sn_iconst (n := 1) E.1 (by decide +kernel) (by decide +kernel)) ?_
  refine mk_cons (sn_iald E.1 (by decide +kernel)) ?_
  refine mk_cons (sn_cge (off := 56) E.1 (by decide +kernel) (by decide +kernel)) ?_
  refine mk_cons (sn_aload_n (k := 0) E.1 E.2.2.2.1 (by decide +kernel) rfl) ?_
  refine mk_cons (sn_iload_n (k := 2) E.1 (by decide +kernel) rfl) ?_
  refine mk_cons (sn_bipush (n := 6) E.1 (by decide +kernel) (by decide +kernel)) ?_
  refine mk_cons (sn_aload_n (k := 0) E.1 E.2.2.2.1 (by decide +kernel) rfl) ?_
  refine mk_cons (sn_iload_n (k := 2) E.1 (by decide +kernel) rfl) ?_
  refine mk_cons (sn_iconst (n := 5) E.1 (by decide +kernel) (by decide +kernel)) ?_
  refine mk_cons (sn_callV (i := 240) E.1 E.2.2.2.1 E.2.2.2.2.1 E.2.2.2.2.2.1 (E.2.2.2.2.2.2.2 n_Mo_own) ok_Mo_own cls_12 rfl km_Mo_240 kn_Mo_own kv_Mo_own (by decide +kernel)) ?_
  refine mk_cons (sn_ifle (off := 23) E.1 (by decide +kernel) (by decide +kernel)) ?_
  refine mk_cons (sn_aload_n (k := 0) E.1 E.2.2.2.1 (by decide +kernel) rfl) ?_
  refine mk_cons (sn_sipush (n := 1000) E.1 (by decide +kernel) (by decide +kernel)) ?_
  refine mk_cons (sn_callV (i := 269) E.1 E.2.2.2.1 E.2.2.2.2.1 E.2.2.2.2.2.1 (E.2.2.2.2.2.2.2 n_Mo_draw) ok_Mo_draw cls_12 rfl km_Mo_269 kn_Mo_draw kv_Mo_draw (by decide +kernel)) ?_
  refine mk_cons (sn_aload_n (k := 0) E.1 E.2.2.2.1 (by decide +kernel) rfl) ?_
  refine mk_cons (sn_iload_n (k := 2) E.1 (by decide +kernel) rfl) ?_
  refine mk_cons (sn_iconst (n := 5) E.1 (by decide +kernel) (by decide +kernel)) ?_
  refine mk_cons (sn_callV (i := 240) E.1 E.2.2.2.1 E.2.2.2.2.1 E.2.2.2.2.2.1 (E.2.2.2.2.2.2.2 n_Mo_own) ok_Mo_own cls_12 rfl km_Mo_240 kn_Mo_own kv_Mo_own (by decide +kernel)) ?_
  refine mk_cons (sn_cge (off := 7) E.1 (by decide +kernel) (by decide +kernel)) ?_
  refine mk_cons (sn_iconst (n := 1) E.1 (by decide +kernel) (by decide +kernel)) ?_
  refine mk_cons (sn_goto (off := 4) E.1 (by decide +kernel) (by decide +kernel)) ?_
  refine mk_cons (sn_iconst (n := 0) E.1 (by decide +kernel) (by decide +kernel)) ?_
  refine mk_cons (sn_callV (i := 82) E.1 E.2.2.2.1 E.2.2.2.2.1 E.2.2.2.2.2.1 (E.2.2.2.2.2.2.2 n_Mo_gives) ok_Mo_gives cls_12 rfl km_Mo_82 kn_Mo_gives kv_Mo_gives (by decide +kernel)) ?_
  refine mk_cons (sn_iload_n (k := 1) E.1 (by decide +kernel) rfl) ?_
  refine mk_cons (sn_aload_n (k := 0) E.1 E.2.2.2.1 (by decide +kernel) rfl) ?_
  refine mk_cons (sn_iload_n (k := 2) E.1 (by decide +kernel) rfl) ?_
  refine mk_cons (sn_bipush (n := 6) E.1 (by decide +kernel) (by decide +kernel)) ?_
  refine mk_cons (sn_callV (i := 240) E.1 E.2.2.2.1 E.2.2.2.2.1 E.2.2.2.2.2.1 (E.2.2.2.2.2.2.2 n_Mo_own) ok_Mo_own cls_12 rfl km_Mo_240 kn_Mo_own kv_Mo_own (by decide +kernel)) ?_
  refine mk_cons (sn_iadd E.1 (by decide +kernel)) ?_
  refine mk_cons (sn_istore_n (k := 1) E.1 (by decide +kernel) rfl (by decide +kernel)) ?_
  refine mk_cons (sn_iinc (n := 1) E.1 (by decide +kernel) (by decide +kernel) (by decide +kernel)) ?_
  refine mk_cons (sn_goto (off := (-60)) E.1 (by decide +kernel) (by decide +kernel)) ?_
  refine mk_cons (sn_aload_n (k := 0) E.1 E.2.2.2.1 (by decide +kernel) rfl) ?_
  refine mk_cons (sn_iconst (n := 0) E.1 (by decide +kernel) (by decide +kernel)) ?_
  refine mk_cons (sn_putI (i := 86) E.1 cls_12 (by decide) rfl rfl rfl kf_Mo_86 (by decide +kernel)) ?_
  refine mk_cons (sn_iload_n (k := 1) E.1 (by decide +kernel) rfl) ?_
  refine mk_cons (sn_iret E.1 E.2.1 E.2.2.2.2.2.2.1 (by decide +kernel)) ?_
  exact mk_nil
set_option maxRecDepth 100000 in
set_option maxHeartbeats 4000000 in
theorem rw_Mo_of : mk_Rows n_Mo_of := by
  intro p l e R s m args below meth c D cy b sk lim cr Q n0 d E
  show ∀ q ∈ t_Mo_of, _
  refine mk_cons (sn_aload_n (k := 0) E.1 E.2.2.2.1 (by decide +kernel) rfl) ?_
  refine mk_cons (sn_iload_n (k := 1) E.1 (by decide +kernel) rfl) ?_
  refine mk_cons (sn_callV (i := 89) E.1 E.2.2.2.1 E.2.2.2.2.1 E.2.2.2.2.2.1 (E.2.2.2.2.2.2.2 n_Mo_isLine) ok_Mo_isLine cls_12 rfl km_Mo_89 kn_Mo_isLine kv_Mo_isLine (by decide +kernel)) ?_
  refine mk_cons (sn_ifeq (off := 49) E.1 (by decide +kernel) (by decide +kernel)) ?_
  refine mk_cons (sn_iload_n (k := 2) E.1 (by decide +kernel) rfl) ?_
  refine mk_cons (sn_iconst (n := 0) E.1 (by decide +kernel) (by decide +kernel)) ?_
  refine mk_cons (sn_bipush (n := 6) E.1 (by decide +kernel) (by decide +kernel)) ?_
  refine mk_cons (sn_callS (i := 72) E.1 E.2.2.2.1 E.2.2.2.2.1 E.2.2.2.2.2.1 (E.2.2.2.2.2.2.2 n_Mo_isIn) ok_Mo_isIn km_Mo_72 ks_Mo_isIn (by decide +kernel)) ?_
  refine mk_cons (sn_ifne (off := 14) E.1 (by decide +kernel) (by decide +kernel)) ?_
  refine mk_cons (sn_iload_n (k := 2) E.1 (by decide +kernel) rfl) ?_
  refine mk_cons (sn_bipush (n := 10) E.1 (by decide +kernel) (by decide +kernel)) ?_
  refine mk_cons (sn_bipush (n := 19) E.1 (by decide +kernel) (by decide +kernel)) ?_
  refine mk_cons (sn_callS (i := 72) E.1 E.2.2.2.1 E.2.2.2.2.1 E.2.2.2.2.2.1 (E.2.2.2.2.2.2.2 n_Mo_isIn) ok_Mo_isIn km_Mo_72 ks_Mo_isIn (by decide +kernel)) ?_
  refine mk_cons (sn_ifeq (off := 28) E.1 (by decide +kernel) (by decide +kernel)) ?_
  refine mk_cons (sn_aload_n (k := 0) E.1 E.2.2.2.1 (by decide +kernel) rfl) ?_
  refine mk_cons (sn_iload_n (k := 1) E.1 (by decide +kernel) rfl) ?_
  refine mk_cons (sn_iload_n (k := 2) E.1 (by decide +kernel) rfl) ?_
  refine mk_cons (sn_bipush (n := 10) E.1 (by decide +kernel) (by decide +kernel)) ?_
  refine mk_cons (sn_cge (off := 7) E.1 (by decide +kernel) (by decide +kernel)) ?_
  refine mk_cons (sn_iload_n (k := 2) E.1 (by decide +kernel) rfl) ?_
  refine mk_cons (sn_goto (off := 10) E.1 (by decide +kernel) (by decide +kernel)) ?_
  refine mk_cons (sn_bipush (n := 7) E.1 (by decide +kernel) (by decide +kernel)) ?_
  refine mk_cons (sn_iload_n (k := 2) E.1 (by decide +kernel) rfl) ?_
  refine mk_cons (sn_iadd E.1 (by decide +kernel)) ?_
  refine mk_cons (sn_bipush (n := 10) E.1 (by decide +kernel) (by decide +kernel)) ?_
  refine mk_cons (sn_isub E.1 (by decide +kernel)) ?_
  refine mk_cons (sn_callV (i := 240) E.1 E.2.2.2.1 E.2.2.2.2.1 E.2.2.2.2.2.1 (E.2.2.2.2.2.2.2 n_Mo_own) ok_Mo_own cls_12 rfl km_Mo_240 kn_Mo_own kv_Mo_own (by decide +kernel)) ?_
  refine mk_cons (sn_goto (off := 4) E.1 (by decide +kernel) (by decide +kernel)) ?_
  refine mk_cons (sn_iconst (n := (-1)) E.1 (by decide +kernel) (by decide +kernel)) ?_
  refine mk_cons (sn_iret E.1 E.2.1 E.2.2.2.2.2.2.1 (by decide +kernel)) ?_
  exact mk_nil
set_option maxRecDepth 100000 in
set_option maxHeartbeats 4000000 in
theorem rw_Mo_book : mk_Rows n_Mo_book := by
  intro p l e R s m args below meth c D cy b sk lim cr Q n0 d E
  show ∀ q ∈ t_Mo_book, _
  refine mk_cons (sn_iload_n (k := 1) E.1 (by decide +kernel) rfl) ?_
  refine mk_cons (sn_iconst (n := 0) E.1 (by decide +kernel) (by decide +kernel)) ?_
  refine mk_cons (sn_aload_n (k := 0) E.1 E.2.2.2.1 (by decide +kernel) rfl) ?_
  refine mk_cons (sn_getR (i := 7) E.1 cls_12 (by decide) rfl kf_Mo_7 (by decide +kernel)) ?_
  refine mk_cons (sn_iconst (n := 2) E.1 (by decide +kernel) (by decide +kernel)) ?_
  refine mk_cons (sn_iald E.1 (by decide +kernel)) ?_
  refine mk_cons (sn_iconst (n := 1) E.1 (by decide +kernel) (by decide +kernel)) ?_
  refine mk_cons (sn_isub E.1 (by decide +kernel)) ?_
  refine mk_cons (sn_callS (i := 72) E.1 E.2.2.2.1 E.2.2.2.2.1 E.2.2.2.2.2.1 (E.2.2.2.2.2.2.2 n_Mo_isIn) ok_Mo_isIn km_Mo_72 ks_Mo_isIn (by decide +kernel)) ?_
  refine mk_cons (sn_ifeq (off := 29) E.1 (by decide +kernel) (by decide +kernel)) ?_
  refine mk_cons (sn_iload_n (k := 2) E.1 (by decide +kernel) rfl) ?_
  refine mk_cons (sn_iconst (n := 0) E.1 (by decide +kernel) (by decide +kernel)) ?_
  refine mk_cons (sn_iconst (n := 3) E.1 (by decide +kernel) (by decide +kernel)) ?_
  refine mk_cons (sn_callS (i := 72) E.1 E.2.2.2.1 E.2.2.2.2.1 E.2.2.2.2.2.1 (E.2.2.2.2.2.2.2 n_Mo_isIn) ok_Mo_isIn km_Mo_72 ks_Mo_isIn (by decide +kernel)) ?_
  refine mk_cons (sn_ifeq (off := 20) E.1 (by decide +kernel) (by decide +kernel)) ?_
  refine mk_cons (sn_aload_n (k := 0) E.1 E.2.2.2.1 (by decide +kernel) rfl) ?_
  refine mk_cons (sn_getR (i := 7) E.1 cls_12 (by decide) rfl kf_Mo_7 (by decide +kernel)) ?_
  refine mk_cons (sn_sipush (n := 290) E.1 (by decide +kernel) (by decide +kernel)) ?_
  refine mk_cons (sn_iconst (n := 4) E.1 (by decide +kernel) (by decide +kernel)) ?_
  refine mk_cons (sn_iload_n (k := 1) E.1 (by decide +kernel) rfl) ?_
  refine mk_cons (sn_imul E.1 (by decide +kernel)) ?_
  refine mk_cons (sn_iadd E.1 (by decide +kernel)) ?_
  refine mk_cons (sn_iload_n (k := 2) E.1 (by decide +kernel) rfl) ?_
  refine mk_cons (sn_iadd E.1 (by decide +kernel)) ?_
  refine mk_cons (sn_iald E.1 (by decide +kernel)) ?_
  refine mk_cons (sn_goto (off := 4) E.1 (by decide +kernel) (by decide +kernel)) ?_
  refine mk_cons (sn_iconst (n := (-1)) E.1 (by decide +kernel) (by decide +kernel)) ?_
  refine mk_cons (sn_iret E.1 E.2.1 E.2.2.2.2.2.2.1 (by decide +kernel)) ?_
  exact mk_nil
set_option maxRecDepth 100000 in
set_option maxHeartbeats 4000000 in
theorem rw_Mo_creep : mk_Rows n_Mo_creep := by
  intro p l e R s m args below meth c D cy b sk lim cr Q n0 d E
  show ∀ q ∈ t_Mo_creep, _
  refine mk_cons (sn_aload_n (k := 0) E.1 E.2.2.2.1 (by decide +kernel) rfl) ?_
  refine mk_cons (sn_getJ (i := 249) E.1 cls_12 (by decide) rfl kf_Mo_249 (by decide +kernel)) ?_
  refine mk_cons (sn_lret E.1 E.2.1 E.2.2.2.2.2.2.1 (by decide +kernel)) ?_
  exact mk_nil
set_option maxRecDepth 100000 in
set_option maxHeartbeats 4000000 in
theorem rw_Mo_isFrost : mk_Rows n_Mo_isFrost := by
  intro p l e R s m args below meth c D cy b sk lim cr Q n0 d E
  show ∀ q ∈ t_Mo_isFrost, _
  refine mk_cons (sn_aload_n (k := 0) E.1 E.2.2.2.1 (by decide +kernel) rfl) ?_
  refine mk_cons (sn_iload_n (k := 1) E.1 (by decide +kernel) rfl) ?_
  refine mk_cons (sn_callV (i := 89) E.1 E.2.2.2.1 E.2.2.2.2.1 E.2.2.2.2.2.1 (E.2.2.2.2.2.2.2 n_Mo_isLine) ok_Mo_isLine cls_12 rfl km_Mo_89 kn_Mo_isLine kv_Mo_isLine (by decide +kernel)) ?_
  refine mk_cons (sn_ifeq (off := 16) E.1 (by decide +kernel) (by decide +kernel)) ?_
  refine mk_cons (sn_iload_n (k := 2) E.1 (by decide +kernel) rfl) ?_
  refine mk_cons (sn_iconst (n := 0) E.1 (by decide +kernel) (by decide +kernel)) ?_
  refine mk_cons (sn_iconst (n := 1) E.1 (by decide +kernel) (by decide +kernel)) ?_
  refine mk_cons (sn_callS (i := 72) E.1 E.2.2.2.1 E.2.2.2.2.1 E.2.2.2.2.2.1 (E.2.2.2.2.2.2.2 n_Mo_isIn) ok_Mo_isIn km_Mo_72 ks_Mo_isIn (by decide +kernel)) ?_
  refine mk_cons (sn_ifeq (off := 7) E.1 (by decide +kernel) (by decide +kernel)) ?_
  refine mk_cons (sn_iconst (n := 1) E.1 (by decide +kernel) (by decide +kernel)) ?_
  refine mk_cons (sn_goto (off := 4) E.1 (by decide +kernel) (by decide +kernel)) ?_
  refine mk_cons (sn_iconst (n := 0) E.1 (by decide +kernel) (by decide +kernel)) ?_
  refine mk_cons (sn_zret E.1 E.2.1 E.2.2.2.2.2.2.1 (by decide +kernel)) ?_
  exact mk_nil
set_option maxRecDepth 100000 in
set_option maxHeartbeats 4000000 in
theorem rw_Mo_comes : mk_Rows n_Mo_comes := by
  intro p l e R s m args below meth c D cy b sk lim cr Q n0 d E
  show ∀ q ∈ t_Mo_comes, _
  refine mk_cons (sn_aload_n (k := 0) E.1 E.2.2.2.1 (by decide +kernel) rfl) ?_
  refine mk_cons (sn_iload_n (k := 1) E.1 (by decide +kernel) rfl) ?_
  refine mk_cons (sn_iload_n (k := 2) E.1 (by decide +kernel) rfl) ?_
  refine mk_cons (sn_callV (i := 272) E.1 E.2.2.2.1 E.2.2.2.2.1 E.2.2.2.2.2.1 (E.2.2.2.2.2.2.2 n_Mo_isFrost) ok_Mo_isFrost cls_12 rfl km_Mo_272 kn_Mo_isFrost kv_Mo_isFrost (by decide +kernel)) ?_
  refine mk_cons (sn_ifne (off := 5) E.1 (by decide +kernel) (by decide +kernel)) ?_
  refine mk_cons (sn_iconst (n := (-1)) E.1 (by decide +kernel) (by decide +kernel)) ?_
  refine mk_cons (sn_iret E.1 E.2.1 E.2.2.2.2.2.2.1 (by decide +kernel)) ?_
  refine mk_cons (sn_aload_n (k := 0) E.1 E.2.2.2.1 (by decide +kernel) rfl) ?_
  refine mk_cons (sn_callV (i := 259) E.1 E.2.2.2.1 E.2.2.2.2.1 E.2.2.2.2.2.1 (E.2.2.2.2.2.2.2 n_Mo_takesPaper) ok_Mo_takesPaper cls_12 rfl km_Mo_259 kn_Mo_takesPaper kv_Mo_takesPaper (by decide +kernel)) ?_
  refine mk_cons (sn_aload_n (k := 0) E.1 E.2.2.2.1 (by decide +kernel) rfl) ?_
  refine mk_cons (sn_iload_n (k := 1) E.1 (by decide +kernel) rfl) ?_
  refine mk_cons (sn_iload_n (k := 2) E.1 (by decide +kernel) rfl) ?_
  refine mk_cons (sn_iconst (n := 0) E.1 (by decide +kernel) (by decide +kernel)) ?_
  refine mk_cons (sn_callV (i := 262) E.1 E.2.2.2.1 E.2.2.2.2.1 E.2.2.2.2.2.1 (E.2.2.2.2.2.2.2 n_Mo_goesBy) ok_Mo_goesBy cls_12 rfl km_Mo_262 kn_Mo_goesBy kv_Mo_goesBy (by decide +kernel)) ?_
  refine mk_cons (sn_pop E.1 (by decide +kernel)) ?_
  refine mk_cons (sn_iload_n (k := 3) E.1 (by decide +kernel) rfl) ?_
  refine mk_cons (sn_iconst (n := (-1)) E.1 (by decide +kernel) (by decide +kernel)) ?_
  refine mk_cons (sn_cne (off := 10) E.1 (by decide +kernel) (by decide +kernel)) ?_
  refine mk_cons (sn_aload_n (k := 0) E.1 E.2.2.2.1 (by decide +kernel) rfl) ?_
  refine mk_cons (sn_getI (i := 226) (c0 := 0) E.1 cls_12 (by decide) rfl (by decide) kf_Mo_226 (by decide +kernel)) ?_
  refine mk_cons (sn_goto (off := 27) E.1 (by decide +kernel) (by decide +kernel)) ?_
  refine mk_cons (sn_iload_n (k := 3) E.1 (by decide +kernel) rfl) ?_
  refine mk_cons (sn_iconst (n := 0) E.1 (by decide +kernel) (by decide +kernel)) ?_
  refine mk_cons (sn_aload_n (k := 0) E.1 E.2.2.2.1 (by decide +kernel) rfl) ?_
  refine mk_cons (sn_getI (i := 226) (c0 := 0) E.1 cls_12 (by decide) rfl (by decide) kf_Mo_226 (by decide +kernel)) ?_
  refine mk_cons (sn_iconst (n := 1) E.1 (by decide +kernel) (by decide +kernel)) ?_
  refine mk_cons (sn_isub E.1 (by decide +kernel)) ?_
  refine mk_cons (sn_callS (i := 72) E.1 E.2.2.2.1 E.2.2.2.2.1 E.2.2.2.2.2.1 (E.2.2.2.2.2.2.2 n_Mo_isIn) ok_Mo_isIn km_Mo_72 ks_Mo_isIn (by decide +kernel)) ?_
  refine mk_cons (sn_ifeq (off := 12) E.1 (by decide +kernel) (by decide +kernel)) ?_
  refine mk_cons (sn_aload_n (k := 0) E.1 E.2.2.2.1 (by decide +kernel) rfl) ?_
  refine mk_cons (sn_getR (i := 42) E.1 cls_12 (by decide) rfl kf_Mo_42 (by decide +kernel)) ?_
  refine mk_cons (sn_iload_n (k := 3) E.1 (by decide +kernel) rfl) ?_
  refine mk_cons (sn_iald E.1 (by decide +kernel)) ?_
  refine mk_cons (sn_goto (off := 4) E.1 (by decide +kernel) (by decide +kernel)) ?_
  refine mk_cons (sn_iconst (n := (-1)) E.1 (by decide +kernel) (by decide +kernel)) ?_
  refine mk_cons (sn_iret E.1 E.2.1 E.2.2.2.2.2.2.1 (by decide +kernel)) ?_
  exact mk_nil
set_option maxRecDepth 100000 in
set_option maxHeartbeats 4000000 in
theorem rw_Mo_takesNumber : mk_Rows n_Mo_takesNumber := by
  intro p l e R s m args below meth c D cy b sk lim cr Q n0 d E
  show ∀ q ∈ t_Mo_takesNumber, _
  refine mk_cons (sn_aload_n (k := 0) E.1 E.2.2.2.1 (by decide +kernel) rfl) ?_
  refine mk_cons (sn_iload_n (k := 2) E.1 (by decide +kernel) rfl) ?_
  refine mk_cons (sn_putI (i := 226) E.1 cls_12 (by decide) rfl rfl rfl kf_Mo_226 (by decide +kernel)) ?_
  refine mk_cons (sn_iload_n (k := 1) E.1 (by decide +kernel) rfl) ?_
  refine mk_cons (sn_istore_n (k := 3) E.1 (by decide +kernel) rfl (by decide +kernel)) ?_
  refine mk_cons (sn_iload_n (k := 2) E.1 (by decide +kernel) rfl) ?_
  refine mk_cons (sn_iconst (n := 1) E.1 (by decide +kernel) (by decide +kernel)) ?_
  refine mk_cons (sn_isub E.1 (by decide +kernel)) ?_
  refine mk_cons (sn_istore E.1 (by decide +kernel) (by decide +kernel)) ?_
  refine mk_cons (sn_iload E.1 (by decide +kernel)) ?_
  refine mk_cons (sn_iflt (off := 25) E.1 (by decide +kernel) (by decide +kernel)) ?_
  refine mk_cons (sn_aload_n (k := 0) E.1 E.2.2.2.1 (by decide +kernel) rfl) ?_
  refine mk_cons (sn_getR (i := 42) E.1 cls_12 (by decide) rfl kf_Mo_42 (by decide +kernel)) ?_
  refine mk_cons (sn_iload E.1 (by decide +kernel)) ?_
  refine mk_cons (sn_iload_n (k := 3) E.1 (by decide +kernel) rfl) ?_
  refine mk_cons (sn_bipush (n := 10) E.1 (by decide +kernel) (by decide +kernel)) ?_
  refine mk_cons (sn_irem E.1 (by decide +kernel)) ?_
  refine mk_cons (sn_iast E.1 (by decide +kernel)) ?_
  refine mk_cons (sn_iload_n (k := 3) E.1 (by decide +kernel) rfl) ?_
  refine mk_cons (sn_bipush (n := 10) E.1 (by decide +kernel) (by decide +kernel)) ?_
  refine mk_cons (sn_idiv E.1 (by decide +kernel)) ?_
  refine mk_cons (sn_istore_n (k := 3) E.1 (by decide +kernel) rfl (by decide +kernel)) ?_
  refine mk_cons (sn_iinc (n := (-1)) E.1 (by decide +kernel) (by decide +kernel) (by decide +kernel)) ?_
  refine mk_cons (sn_goto (off := (-24)) E.1 (by decide +kernel) (by decide +kernel)) ?_
  refine mk_cons (sn_ret E.1 E.2.1 E.2.2.2.2.2.2.1 (by decide +kernel)) ?_
  exact mk_nil
set_option maxRecDepth 100000 in
set_option maxHeartbeats 4000000 in
theorem rw_Mo_powerOf : mk_Rows n_Mo_powerOf := by
  intro p l e R s m args below meth c D cy b sk lim cr Q n0 d E
  show ∀ q ∈ t_Mo_powerOf, _
  refine mk_cons (sn_iload_n (k := 0) E.1 (by decide +kernel) rfl) ?_
  refine mk_cons (sn_iconst (n := 4) E.1 (by decide +kernel) (by decide +kernel)) ?_
  refine mk_cons (sn_cne (off := 9) E.1 (by decide +kernel) (by decide +kernel)) ?_
  refine mk_cons (sn_sipush (n := 10000) E.1 (by decide +kernel) (by decide +kernel)) ?_
  refine mk_cons (sn_goto (off := 7) E.1 (by decide +kernel) (by decide +kernel)) ?_
  refine mk_cons (sn_iload_n (k := 0) E.1 (by decide +kernel) rfl) ?_
  refine mk_cons (sn_callS (i := 237) E.1 E.2.2.2.1 E.2.2.2.2.1 E.2.2.2.2.2.1 (E.2.2.2.2.2.2.2 n_Mo_tenTo) ok_Mo_tenTo km_Mo_237 ks_Mo_tenTo (by decide +kernel)) ?_
  refine mk_cons (sn_iret E.1 E.2.1 E.2.2.2.2.2.2.1 (by decide +kernel)) ?_
  exact mk_nil
set_option maxRecDepth 100000 in
set_option maxHeartbeats 4000000 in
theorem rw_Mo_isSeen : mk_Rows n_Mo_isSeen := by
  intro p l e R s m args below meth c D cy b sk lim cr Q n0 d E
  show ∀ q ∈ t_Mo_isSeen, _
  refine mk_cons (sn_aload_n (k := 0) E.1 E.2.2.2.1 (by decide +kernel) rfl) ?_
  refine mk_cons (sn_getI (i := 226) (c0 := 0) E.1 cls_12 (by decide) rfl (by decide) kf_Mo_226 (by decide +kernel)) ?_
  refine mk_cons (sn_aload_n (k := 0) E.1 E.2.2.2.1 (by decide +kernel) rfl) ?_
  refine mk_cons (sn_getR (i := 7) E.1 cls_12 (by decide) rfl kf_Mo_7 (by decide +kernel)) ?_
  refine mk_cons (sn_bipush (n := 7) E.1 (by decide +kernel) (by decide +kernel)) ?_
  refine mk_cons (sn_iald E.1 (by decide +kernel)) ?_
  refine mk_cons (sn_cne (off := 7) E.1 (by decide +kernel) (by decide +kernel)) ?_
  refine mk_cons (sn_iconst (n := 1) E.1 (by decide +kernel) (by decide +kernel)) ?_
  refine mk_cons (sn_goto (off := 4) E.1 (by decide +kernel) (by decide +kernel)) ?_
  refine mk_cons (sn_iconst (n := 0) E.1 (by decide +kernel) (by decide +kernel)) ?_
  refine mk_cons (sn_istore_n (k := 1) E.1 (by decide +kernel) rfl (by decide +kernel)) ?_
  refine mk_cons (sn_iconst (n := 0) E.1 (by decide +kernel) (by decide +kernel)) ?_
  refine mk_cons (sn_istore_n (k := 2) E.1 (by decide +kernel) rfl (by decide +kernel)) ?_
  refine mk_cons (sn_iload_n (k := 2) E.1 (by decide +kernel) rfl) ?_
  refine mk_cons (sn_aload_n (k := 0) E.1 E.2.2.2.1 (by decide +kernel) rfl) ?_
  refine mk_cons (sn_getI (i := 226) (c0 := 0) E.1 cls_12 (by decide) rfl (by decide) kf_Mo_226 (by decide +kernel)) ?_
  refine mk_cons (sn_cge (off := 37) E.1 (by decide +kernel) (by decide +kernel)) ?_
  refine mk_cons (sn_iload_n (k := 1) E.1 (by decide +kernel) rfl) ?_
  refine mk_cons (sn_ifeq (off := 33) E.1 (by decide +kernel) (by decide +kernel)) ?_
  refine mk_cons (sn_aload_n (k := 0) E.1 E.2.2.2.1 (by decide +kernel) rfl) ?_
  refine mk_cons (sn_getR (i := 42) E.1 cls_12 (by decide) rfl kf_Mo_42 (by decide +kernel)) ?_
  refine mk_cons (sn_iload_n (k := 2) E.1 (by decide +kernel) rfl) ?_
  refine mk_cons (sn_iald E.1 (by decide +kernel)) ?_
  refine mk_cons (sn_aload_n (k := 0) E.1 E.2.2.2.1 (by decide +kernel) rfl) ?_
  refine mk_cons (sn_getR (i := 7) E.1 cls_12 (by decide) rfl kf_Mo_7 (by decide +kernel)) ?_
  refine mk_cons (sn_bipush (n := 22) E.1 (by decide +kernel) (by decide +kernel)) ?_
  refine mk_cons (sn_iload_n (k := 2) E.1 (by decide +kernel) rfl) ?_
  refine mk_cons (sn_iadd E.1 (by decide +kernel)) ?_
  refine mk_cons (sn_iald E.1 (by decide +kernel)) ?_
  refine mk_cons (sn_cne (off := 7) E.1 (by decide +kernel) (by decide +kernel)) ?_
  refine mk_cons (sn_iconst (n := 1) E.1 (by decide +kernel) (by decide +kernel)) ?_
  refine mk_cons (sn_goto (off := 4) E.1 (by decide +kernel) (by decide +kernel)) ?_
  refine mk_cons (sn_iconst (n := 0) E.1 (by decide +kernel) (by decide +kernel)) ?_
  refine mk_cons (sn_istore_n (k := 1) E.1 (by decide +kernel) rfl (by decide +kernel)) ?_
  refine mk_cons (sn_iinc (n := 1) E.1 (by decide +kernel) (by decide +kernel) (by decide +kernel)) ?_
  refine mk_cons (sn_goto (off := (-39)) E.1 (by decide +kernel) (by decide +kernel)) ?_
  refine mk_cons (sn_iload_n (k := 1) E.1 (by decide +kernel) rfl) ?_
  refine mk_cons (sn_zret E.1 E.2.1 E.2.2.2.2.2.2.1 (by decide +kernel)) ?_
  exact mk_nil
set_option maxRecDepth 100000 in
set_option maxHeartbeats 4000000 in
theorem rw_Mo_digitOf : mk_Rows n_Mo_digitOf := by
  intro p l e R s m args below meth c D cy b sk lim cr Q n0 d E
  show ∀ q ∈ t_Mo_digitOf, _
  refine mk_cons (sn_iload_n (k := 3) E.1 (by decide +kernel) rfl) ?_
  refine mk_cons (sn_iconst (n := 0) E.1 (by decide +kernel) (by decide +kernel)) ?_
  refine mk_cons (sn_iload_n (k := 2) E.1 (by decide +kernel) rfl) ?_
  refine mk_cons (sn_iconst (n := 1) E.1 (by decide +kernel) (by decide +kernel)) ?_
  refine mk_cons (sn_isub E.1 (by decide +kernel)) ?_
  refine mk_cons (sn_callS (i := 72) E.1 E.2.2.2.1 E.2.2.2.2.1 E.2.2.2.2.2.1 (E.2.2.2.2.2.2.2 n_Mo_isIn) ok_Mo_isIn km_Mo_72 ks_Mo_isIn (by decide +kernel)) ?_
  refine mk_cons (sn_ifeq (off := 19) E.1 (by decide +kernel) (by decide +kernel)) ?_
  refine mk_cons (sn_iload_n (k := 1) E.1 (by decide +kernel) rfl) ?_
  refine mk_cons (sn_iload_n (k := 2) E.1 (by decide +kernel) rfl) ?_
  refine mk_cons (sn_iconst (n := 1) E.1 (by decide +kernel) (by decide +kernel)) ?_
  refine mk_cons (sn_isub E.1 (by decide +kernel)) ?_
  refine mk_cons (sn_iload_n (k := 3) E.1 (by decide +kernel) rfl) ?_
  refine mk_cons (sn_isub E.1 (by decide +kernel)) ?_
  refine mk_cons (sn_callS (i := 237) E.1 E.2.2.2.1 E.2.2.2.2.1 E.2.2.2.2.2.1 (E.2.2.2.2.2.2.2 n_Mo_tenTo) ok_Mo_tenTo km_Mo_237 ks_Mo_tenTo (by decide +kernel)) ?_
  refine mk_cons (sn_idiv E.1 (by decide +kernel)) ?_
  refine mk_cons (sn_bipush (n := 10) E.1 (by decide +kernel) (by decide +kernel)) ?_
  refine mk_cons (sn_irem E.1 (by decide +kernel)) ?_
  refine mk_cons (sn_goto (off := 4) E.1 (by decide +kernel) (by decide +kernel)) ?_
  refine mk_cons (sn_iconst (n := (-1)) E.1 (by decide +kernel) (by decide +kernel)) ?_
  refine mk_cons (sn_iret E.1 E.2.1 E.2.2.2.2.2.2.1 (by decide +kernel)) ?_
  exact mk_nil
set_option maxRecDepth 100000 in
set_option maxHeartbeats 4000000 in
theorem rw_Mo_meant : mk_Rows n_Mo_meant := by
  intro p l e R s m args below meth c D cy b sk lim cr Q n0 d E
  show ∀ q ∈ t_Mo_meant, _
  refine mk_cons (sn_aload_n (k := 0) E.1 E.2.2.2.1 (by decide +kernel) rfl) ?_
  refine mk_cons (sn_iload_n (k := 1) E.1 (by decide +kernel) rfl) ?_
  refine mk_cons (sn_iload_n (k := 2) E.1 (by decide +kernel) rfl) ?_
  refine mk_cons (sn_callV (i := 272) E.1 E.2.2.2.1 E.2.2.2.2.1 E.2.2.2.2.2.1 (E.2.2.2.2.2.2.2 n_Mo_isFrost) ok_Mo_isFrost cls_12 rfl km_Mo_272 kn_Mo_isFrost kv_Mo_isFrost (by decide +kernel)) ?_
  refine mk_cons (sn_ifeq (off := 34) E.1 (by decide +kernel) (by decide +kernel)) ?_
  refine mk_cons (sn_iload_n (k := 3) E.1 (by decide +kernel) rfl) ?_
  refine mk_cons (sn_iconst (n := 0) E.1 (by decide +kernel) (by decide +kernel)) ?_
  refine mk_cons (sn_iconst (n := 4) E.1 (by decide +kernel) (by decide +kernel)) ?_
  refine mk_cons (sn_callS (i := 72) E.1 E.2.2.2.1 E.2.2.2.2.1 E.2.2.2.2.2.1 (E.2.2.2.2.2.2.2 n_Mo_isIn) ok_Mo_isIn km_Mo_72 ks_Mo_isIn (by decide +kernel)) ?_
  refine mk_cons (sn_ifeq (off := 25) E.1 (by decide +kernel) (by decide +kernel)) ?_
  refine mk_cons (sn_iload E.1 (by decide +kernel)) ?_
  refine mk_cons (sn_iconst (n := 0) E.1 (by decide +kernel) (by decide +kernel)) ?_
  refine mk_cons (sn_iconst (n := 1) E.1 (by decide +kernel) (by decide +kernel)) ?_
  refine mk_cons (sn_callS (i := 72) E.1 E.2.2.2.1 E.2.2.2.2.1 E.2.2.2.2.2.1 (E.2.2.2.2.2.2.2 n_Mo_isIn) ok_Mo_isIn km_Mo_72 ks_Mo_isIn (by decide +kernel)) ?_
  refine mk_cons (sn_ifne (off := 17) E.1 (by decide +kernel) (by decide +kernel)) ?_
  refine mk_cons (sn_iload E.1 (by decide +kernel)) ?_
  refine mk_cons (sn_bipush (n := 10) E.1 (by decide +kernel) (by decide +kernel)) ?_
  refine mk_cons (sn_bipush (n := 13) E.1 (by decide +kernel) (by decide +kernel)) ?_
  refine mk_cons (sn_callS (i := 72) E.1 E.2.2.2.1 E.2.2.2.2.1 E.2.2.2.2.2.1 (E.2.2.2.2.2.2.2 n_Mo_isIn) ok_Mo_isIn km_Mo_72 ks_Mo_isIn (by decide +kernel)) ?_
  refine mk_cons (sn_ifne (off := 5) E.1 (by decide +kernel) (by decide +kernel)) ?_
  refine mk_cons (sn_iconst (n := (-1)) E.1 (by decide +kernel) (by decide +kernel)) ?_
  refine mk_cons (sn_iret E.1 E.2.1 E.2.2.2.2.2.2.1 (by decide +kernel)) ?_
  refine mk_cons (sn_iconst (n := 0) E.1 (by decide +kernel) (by decide +kernel)) ?_
  refine mk_cons (sn_istore E.1 (by decide +kernel) (by decide +kernel)) ?_
  refine mk_cons (sn_iconst (n := (-1)) E.1 (by decide +kernel) (by decide +kernel)) ?_
  refine mk_cons (sn_istore E.1 (by decide +kernel) (by decide +kernel)) ?_
  refine mk_cons (sn_iconst (n := 0) E.1 (by decide +kernel) (by decide +kernel)) ?_
  refine mk_cons (sn_istore E.1 (by decide +kernel) (by decide +kernel)) ?_
  refine mk_cons (sn_iconst (n := 0) E.1 (by decide +kernel) (by decide +kernel)) ?_
  refine mk_cons (sn_istore E.1 (by decide +kernel) (by decide +kernel)) ?_
  refine mk_cons (sn_iload E.1 (by decide +kernel)) ?_
  refine mk_cons (sn_iload_n (k := 3) E.1 (by decide +kernel) rfl) ?_
  refine mk_cons (sn_cgt (off := 85) E.1 (by decide +kernel) (by decide +kernel)) ?_
  refine mk_cons (sn_iconst (n := 0) E.1 (by decide +kernel) (by decide +kernel)) ?_
  refine mk_cons (sn_istore E.1 (by decide +kernel) (by decide +kernel)) ?_
  refine mk_cons (sn_iload E.1 (by decide +kernel)) ?_
  refine mk_cons (sn_iload E.1 (by decide +kernel)) ?_
  refine mk_cons (sn_callS (i := 276) E.1 E.2.2.2.1 E.2.2.2.2.1 E.2.2.2.2.2.1 (E.2.2.2.2.2.2.2 n_Mo_powerOf) ok_Mo_powerOf km_Mo_276 ks_Mo_powerOf (by decide +kernel)) ?_
  refine mk_cons (sn_cge (off := 66) E.1 (by decide +kernel) (by decide +kernel)) ?_
  refine mk_cons (sn_aload_n (k := 0) E.1 E.2.2.2.1 (by decide +kernel) rfl) ?_
  refine mk_cons (sn_iload E.1 (by decide +kernel)) ?_
  refine mk_cons (sn_iload E.1 (by decide +kernel)) ?_
  refine mk_cons (sn_callV (i := 279) E.1 E.2.2.2.1 E.2.2.2.2.1 E.2.2.2.2.2.1 (E.2.2.2.2.2.2.2 n_Mo_takesNumber) ok_Mo_takesNumber cls_12 rfl km_Mo_279 kn_Mo_takesNumber kv_Mo_takesNumber (by decide +kernel)) ?_
  refine mk_cons (sn_aload_n (k := 0) E.1 E.2.2.2.1 (by decide +kernel) rfl) ?_
  refine mk_cons (sn_iload_n (k := 1) E.1 (by decide +kernel) rfl) ?_
  refine mk_cons (sn_iload_n (k := 2) E.1 (by decide +kernel) rfl) ?_
  refine mk_cons (sn_iconst (n := 0) E.1 (by decide +kernel) (by decide +kernel)) ?_
  refine mk_cons (sn_callV (i := 262) E.1 E.2.2.2.1 E.2.2.2.2.1 E.2.2.2.2.2.1 (E.2.2.2.2.2.2.2 n_Mo_goesBy) ok_Mo_goesBy cls_12 rfl km_Mo_262 kn_Mo_goesBy kv_Mo_goesBy (by decide +kernel)) ?_
  refine mk_cons (sn_pop E.1 (by decide +kernel)) ?_
  refine mk_cons (sn_aload_n (k := 0) E.1 E.2.2.2.1 (by decide +kernel) rfl) ?_
  refine mk_cons (sn_callV (i := 282) E.1 E.2.2.2.1 E.2.2.2.2.1 E.2.2.2.2.2.1 (E.2.2.2.2.2.2.2 n_Mo_isSeen) ok_Mo_isSeen cls_12 rfl km_Mo_282 kn_Mo_isSeen kv_Mo_isSeen (by decide +kernel)) ?_
  refine mk_cons (sn_ifne (off := 6) E.1 (by decide +kernel) (by decide +kernel)) ?_
  refine mk_cons (sn_goto (off := 34) E.1 (by decide +kernel) (by decide +kernel)) ?_
  refine mk_cons (sn_iload E.1 (by decide +kernel)) ?_
  refine mk_cons (sn_ifne (off := 8) E.1 (by decide +kernel) (by decide +kernel)) ?_
  refine mk_cons (sn_iload E.1 (by decide +kernel)) ?_
  refine mk_cons (sn_goto (off := 5) E.1 (by decide +kernel) (by decide +kernel)) ?_
  refine mk_cons (sn_iload E.1 (by decide +kernel)) ?_
  refine mk_cons (sn_istore E.1 (by decide +kernel) (by decide +kernel)) ?_
  refine mk_cons (sn_iload E.1 (by decide +kernel)) ?_
  refine mk_cons (sn_ifne (off := 8) E.1 (by decide +kernel) (by decide +kernel)) ?_
  refine mk_cons (sn_iload E.1 (by decide +kernel)) ?_
  refine mk_cons (sn_goto (off := 5) E.1 (by decide +kernel) (by decide +kernel)) ?_
  refine mk_cons (sn_iload E.1 (by decide +kernel)) ?_
  refine mk_cons (sn_istore E.1 (by decide +kernel) (by decide +kernel)) ?_
  refine mk_cons (sn_iinc (n := 1) E.1 (by decide +kernel) (by decide +kernel) (by decide +kernel)) ?_
  refine mk_cons (sn_iinc (n := 1) E.1 (by decide +kernel) (by decide +kernel) (by decide +kernel)) ?_
  refine mk_cons (sn_goto (off := (-70)) E.1 (by decide +kernel) (by decide +kernel)) ?_
  refine mk_cons (sn_iinc (n := 1) E.1 (by decide +kernel) (by decide +kernel) (by decide +kernel)) ?_
  refine mk_cons (sn_goto (off := (-85)) E.1 (by decide +kernel) (by decide +kernel)) ?_
  refine mk_cons (sn_iload E.1 (by decide +kernel)) ?_
  refine mk_cons (sn_ifne (off := 8) E.1 (by decide +kernel) (by decide +kernel)) ?_
  refine mk_cons (sn_iload E.1 (by decide +kernel)) ?_
  refine mk_cons (sn_goto (off := 37) E.1 (by decide +kernel) (by decide +kernel)) ?_
  refine mk_cons (sn_iload E.1 (by decide +kernel)) ?_
  refine mk_cons (sn_iconst (n := 1) E.1 (by decide +kernel) (by decide +kernel)) ?_
  refine mk_cons (sn_cne (off := 8) E.1 (by decide +kernel) (by decide +kernel)) ?_
  refine mk_cons (sn_iload E.1 (by decide +kernel)) ?_
  refine mk_cons (sn_goto (off := 26) E.1 (by decide +kernel) (by decide +kernel)) ?_
  refine mk_cons (sn_iload E.1 (by decide +kernel)) ?_
  refine mk_cons (sn_iconst (n := (-1)) E.1 (by decide +kernel) (by decide +kernel)) ?_
  refine mk_cons (sn_cne (off := 7) E.1 (by decide +kernel) (by decide +kernel)) ?_
  refine mk_cons (sn_iconst (n := (-1)) E.1 (by decide +kernel) (by decide +kernel)) ?_
  refine mk_cons (sn_goto (off := 16) E.1 (by decide +kernel) (by decide +kernel)) ?_
  refine mk_cons (sn_aload_n (k := 0) E.1 E.2.2.2.1 (by decide +kernel) rfl) ?_
  refine mk_cons (sn_iload E.1 (by decide +kernel)) ?_
  refine mk_cons (sn_iload E.1 (by decide +kernel)) ?_
  refine mk_cons (sn_iload E.1 (by decide +kernel)) ?_
  refine mk_cons (sn_bipush (n := 10) E.1 (by decide +kernel) (by decide +kernel)) ?_
  refine mk_cons (sn_isub E.1 (by decide +kernel)) ?_
  refine mk_cons (sn_callV (i := 285) E.1 E.2.2.2.1 E.2.2.2.2.1 E.2.2.2.2.2.1 (E.2.2.2.2.2.2.2 n_Mo_digitOf) ok_Mo_digitOf cls_12 rfl km_Mo_285 kn_Mo_digitOf kv_Mo_digitOf (by decide +kernel)) ?_
  refine mk_cons (sn_iret E.1 E.2.1 E.2.2.2.2.2.2.1 (by decide +kernel)) ?_
  exact mk_nil
set_option maxRecDepth 100000 in
set_option maxHeartbeats 4000000 in
theorem rw_Mo_isPaper : mk_Rows n_Mo_isPaper := by
  intro p l e R s m args below meth c D cy b sk lim cr Q n0 d E
  show ∀ q ∈ t_Mo_isPaper, _
  refine mk_cons (sn_iload_n (k := 2) E.1 (by decide +kernel) rfl) ?_
  refine mk_cons (sn_aload_n (k := 0) E.1 E.2.2.2.1 (by decide +kernel) rfl) ?_
  refine mk_cons (sn_getR (i := 7) E.1 cls_12 (by decide) rfl kf_Mo_7 (by decide +kernel)) ?_
  refine mk_cons (sn_bipush (n := 6) E.1 (by decide +kernel) (by decide +kernel)) ?_
  refine mk_cons (sn_iald E.1 (by decide +kernel)) ?_
  refine mk_cons (sn_cne (off := 7) E.1 (by decide +kernel) (by decide +kernel)) ?_
  refine mk_cons (sn_iconst (n := 1) E.1 (by decide +kernel) (by decide +kernel)) ?_
  refine mk_cons (sn_goto (off := 4) E.1 (by decide +kernel) (by decide +kernel)) ?_
  refine mk_cons (sn_iconst (n := 0) E.1 (by decide +kernel) (by decide +kernel)) ?_
  refine mk_cons (sn_istore_n (k := 3) E.1 (by decide +kernel) rfl (by decide +kernel)) ?_
  refine mk_cons (sn_iconst (n := 0) E.1 (by decide +kernel) (by decide +kernel)) ?_
  refine mk_cons (sn_istore E.1 (by decide +kernel) (by decide +kernel)) ?_
  refine mk_cons (sn_iload E.1 (by decide +kernel)) ?_
  refine mk_cons (sn_iload_n (k := 2) E.1 (by decide +kernel) rfl) ?_
  refine mk_cons (sn_cge (off := 40) E.1 (by decide +kernel) (by decide +kernel)) ?_
  refine mk_cons (sn_iload_n (k := 3) E.1 (by decide +kernel) rfl) ?_
  refine mk_cons (sn_ifeq (off := 36) E.1 (by decide +kernel) (by decide +kernel)) ?_
  refine mk_cons (sn_aload_n (k := 0) E.1 E.2.2.2.1 (by decide +kernel) rfl) ?_
  refine mk_cons (sn_getR (i := 7) E.1 cls_12 (by decide) rfl kf_Mo_7 (by decide +kernel)) ?_
  refine mk_cons (sn_bipush (n := 10) E.1 (by decide +kernel) (by decide +kernel)) ?_
  refine mk_cons (sn_iload E.1 (by decide +kernel)) ?_
  refine mk_cons (sn_iadd E.1 (by decide +kernel)) ?_
  refine mk_cons (sn_iald E.1 (by decide +kernel)) ?_
  refine mk_cons (sn_aload_n (k := 0) E.1 E.2.2.2.1 (by decide +kernel) rfl) ?_
  refine mk_cons (sn_iload_n (k := 1) E.1 (by decide +kernel) rfl) ?_
  refine mk_cons (sn_iload_n (k := 2) E.1 (by decide +kernel) rfl) ?_
  refine mk_cons (sn_iload E.1 (by decide +kernel)) ?_
  refine mk_cons (sn_callV (i := 285) E.1 E.2.2.2.1 E.2.2.2.2.1 E.2.2.2.2.2.1 (E.2.2.2.2.2.2.2 n_Mo_digitOf) ok_Mo_digitOf cls_12 rfl km_Mo_285 kn_Mo_digitOf kv_Mo_digitOf (by decide +kernel)) ?_
  refine mk_cons (sn_cne (off := 7) E.1 (by decide +kernel) (by decide +kernel)) ?_
  refine mk_cons (sn_iconst (n := 1) E.1 (by decide +kernel) (by decide +kernel)) ?_
  refine mk_cons (sn_goto (off := 4) E.1 (by decide +kernel) (by decide +kernel)) ?_
  refine mk_cons (sn_iconst (n := 0) E.1 (by decide +kernel) (by decide +kernel)) ?_
  refine mk_cons (sn_istore_n (k := 3) E.1 (by decide +kernel) rfl (by decide +kernel)) ?_
  refine mk_cons (sn_iinc (n := 1) E.1 (by decide +kernel) (by decide +kernel) (by decide +kernel)) ?_
  refine mk_cons (sn_goto (off := (-40)) E.1 (by decide +kernel) (by decide +kernel)) ?_
  refine mk_cons (sn_iload_n (k := 3) E.1 (by decide +kernel) rfl) ?_
  refine mk_cons (sn_zret E.1 E.2.1 E.2.2.2.2.2.2.1 (by decide +kernel)) ?_
  exact mk_nil
