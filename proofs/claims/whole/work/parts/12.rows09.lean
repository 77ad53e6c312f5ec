set_option maxRecDepth 100000 in
set_option maxHeartbeats 4000000 in
theorem rw_Mo_oneTest : mk_Rows n_Mo_oneTest := by
  intro p l e R s m args below meth c D cy b sk lim cr Q n0 d E
  show ∀ q ∈ t_Mo_oneTest, _
  refine mk_cons (sn_aload_n (k := 0) E.1 E.2.2.2.1 (by decide +kernel) rfl) ?_
  refine mk_cons (sn_getI (i := 145) (c0 := 0) E.1 cls_12 (by decide) rfl (by decide) kf_Mo_145 (by decide +kernel)) ?_
  refine mk_cons (sn_bipush (n := 6) E.1 (by decide +kernel) (by decide +kernel)) ?_
  refine mk_cons (sn_cne (off := 38) E.1 (by decide +kernel) (by decide +kernel)) ?_
  refine mk_cons (sn_aload_n (k := 0) E.1 E.2.2.2.1 (by decide +kernel) rfl) ?_
  refine mk_cons (sn_callV (i := 195) E.1 E.2.2.2.1 E.2.2.2.2.1 E.2.2.2.2.2.1 (E.2.2.2.2.2.2.2 n_Mo_opens) ok_Mo_opens cls_12 rfl km_Mo_195 kn_Mo_opens kv_Mo_opens (by decide +kernel)) ?_
  refine mk_cons (sn_ifeq (off := 10) E.1 (by decide +kernel) (by decide +kernel)) ?_
  refine mk_cons (sn_aload_n (k := 0) E.1 E.2.2.2.1 (by decide +kernel) rfl) ?_
  refine mk_cons (sn_callV (i := 192) E.1 E.2.2.2.1 E.2.2.2.2.1 E.2.2.2.2.2.1 (E.2.2.2.2.2.2.2 n_Mo_oneTest) ok_Mo_oneTest cls_12 rfl km_Mo_192 kn_Mo_oneTest kv_Mo_oneTest (by decide +kernel)) ?_
  refine mk_cons (sn_ifne (off := 5) E.1 (by decide +kernel) (by decide +kernel)) ?_
  refine mk_cons (sn_iconst (n := 0) E.1 (by decide +kernel) (by decide +kernel)) ?_
  refine mk_cons (sn_zret E.1 E.2.1 E.2.2.2.2.2.2.1 (by decide +kernel)) ?_
  refine mk_cons (sn_aload_n (k := 0) E.1 E.2.2.2.1 (by decide +kernel) rfl) ?_
  refine mk_cons (sn_dup E.1 (by decide +kernel)) ?_
  refine mk_cons (sn_getI (i := 175) (c0 := 0) E.1 cls_12 (by decide) rfl (by decide) kf_Mo_175 (by decide +kernel)) ?_
  refine mk_cons (sn_iconst (n := 1) E.1 (by decide +kernel) (by decide +kernel)) ?_
  refine mk_cons (sn_isub E.1 (by decide +kernel)) ?_
  refine mk_cons (sn_putI (i := 175) E.1 cls_12 (by decide) rfl rfl rfl kf_Mo_175 (by decide +kernel)) ?_
  refine mk_cons (sn_aload_n (k := 0) E.1 E.2.2.2.1 (by decide +kernel) rfl) ?_
  refine mk_cons (sn_bipush (n := 20) E.1 (by decide +kernel) (by decide +kernel)) ?_
  refine mk_cons (sn_iconst (n := 0) E.1 (by decide +kernel) (by decide +kernel)) ?_
  refine mk_cons (sn_callV (i := 182) E.1 E.2.2.2.1 E.2.2.2.2.1 E.2.2.2.2.2.1 (E.2.2.2.2.2.2.2 n_Mo_lay) ok_Mo_lay cls_12 rfl km_Mo_182 kn_Mo_lay kv_Mo_lay (by decide +kernel)) ?_
  refine mk_cons (sn_iconst (n := 1) E.1 (by decide +kernel) (by decide +kernel)) ?_
  refine mk_cons (sn_zret E.1 E.2.1 E.2.2.2.2.2.2.1 (by decide +kernel)) ?_
  refine mk_cons (sn_aload_n (k := 0) E.1 E.2.2.2.1 (by decide +kernel) rfl) ?_
  refine mk_cons (sn_getI (i := 145) (c0 := 0) E.1 cls_12 (by decide) rfl (by decide) kf_Mo_145 (by decide +kernel)) ?_
  refine mk_cons (sn_sipush (n := 140) E.1 (by decide +kernel) (by decide +kernel)) ?_
  refine mk_cons (sn_cne (off := 41) E.1 (by decide +kernel) (by decide +kernel)) ?_
  refine mk_cons (sn_aload_n (k := 0) E.1 E.2.2.2.1 (by decide +kernel) rfl) ?_
  refine mk_cons (sn_callV (i := 195) E.1 E.2.2.2.1 E.2.2.2.2.1 E.2.2.2.2.2.1 (E.2.2.2.2.2.2.2 n_Mo_opens) ok_Mo_opens cls_12 rfl km_Mo_195 kn_Mo_opens kv_Mo_opens (by decide +kernel)) ?_
  refine mk_cons (sn_ifeq (off := 20) E.1 (by decide +kernel) (by decide +kernel)) ?_
  refine mk_cons (sn_aload_n (k := 0) E.1 E.2.2.2.1 (by decide +kernel) rfl) ?_
  refine mk_cons (sn_callV (i := 198) E.1 E.2.2.2.1 E.2.2.2.2.1 E.2.2.2.2.2.1 (E.2.2.2.2.2.2.2 n_Mo_any) ok_Mo_any cls_12 rfl km_Mo_198 kn_Mo_any kv_Mo_any (by decide +kernel)) ?_
  refine mk_cons (sn_ifeq (off := 13) E.1 (by decide +kernel) (by decide +kernel)) ?_
  refine mk_cons (sn_aload_n (k := 0) E.1 E.2.2.2.1 (by decide +kernel) rfl) ?_
  refine mk_cons (sn_sipush (n := 141) E.1 (by decide +kernel) (by decide +kernel)) ?_
  refine mk_cons (sn_callV (i := 201) E.1 E.2.2.2.1 E.2.2.2.2.1 E.2.2.2.2.2.1 (E.2.2.2.2.2.2.2 n_Mo_need) ok_Mo_need cls_12 rfl km_Mo_201 kn_Mo_need kv_Mo_need (by decide +kernel)) ?_
  refine mk_cons (sn_ifne (off := 5) E.1 (by decide +kernel) (by decide +kernel)) ?_
  refine mk_cons (sn_iconst (n := 0) E.1 (by decide +kernel) (by decide +kernel)) ?_
  refine mk_cons (sn_zret E.1 E.2.1 E.2.2.2.2.2.2.1 (by decide +kernel)) ?_
  refine mk_cons (sn_aload_n (k := 0) E.1 E.2.2.2.1 (by decide +kernel) rfl) ?_
  refine mk_cons (sn_dup E.1 (by decide +kernel)) ?_
  refine mk_cons (sn_getI (i := 175) (c0 := 0) E.1 cls_12 (by decide) rfl (by decide) kf_Mo_175 (by decide +kernel)) ?_
  refine mk_cons (sn_iconst (n := 1) E.1 (by decide +kernel) (by decide +kernel)) ?_
  refine mk_cons (sn_isub E.1 (by decide +kernel)) ?_
  refine mk_cons (sn_putI (i := 175) E.1 cls_12 (by decide) rfl rfl rfl kf_Mo_175 (by decide +kernel)) ?_
  refine mk_cons (sn_iconst (n := 1) E.1 (by decide +kernel) (by decide +kernel)) ?_
  refine mk_cons (sn_zret E.1 E.2.1 E.2.2.2.2.2.2.1 (by decide +kernel)) ?_
  refine mk_cons (sn_aload_n (k := 0) E.1 E.2.2.2.1 (by decide +kernel) rfl) ?_
  refine mk_cons (sn_callV (i := 204) E.1 E.2.2.2.1 E.2.2.2.2.1 E.2.2.2.2.2.1 (E.2.2.2.2.2.2.2 n_Mo_sumUp) ok_Mo_sumUp cls_12 rfl km_Mo_204 kn_Mo_sumUp kv_Mo_sumUp (by decide +kernel)) ?_
  refine mk_cons (sn_ifne (off := 5) E.1 (by decide +kernel) (by decide +kernel)) ?_
  refine mk_cons (sn_iconst (n := 0) E.1 (by decide +kernel) (by decide +kernel)) ?_
  refine mk_cons (sn_zret E.1 E.2.1 E.2.2.2.2.2.2.1 (by decide +kernel)) ?_
  refine mk_cons (sn_aload_n (k := 0) E.1 E.2.2.2.1 (by decide +kernel) rfl) ?_
  refine mk_cons (sn_getI (i := 145) (c0 := 0) E.1 cls_12 (by decide) rfl (by decide) kf_Mo_145 (by decide +kernel)) ?_
  refine mk_cons (sn_sipush (n := 160) E.1 (by decide +kernel) (by decide +kernel)) ?_
  refine mk_cons (sn_cne (off := 8) E.1 (by decide +kernel) (by decide +kernel)) ?_
  refine mk_cons (sn_bipush (n := 17) E.1 (by decide +kernel) (by decide +kernel)) ?_
  refine mk_cons (sn_goto (off := 34) E.1 (by decide +kernel) (by decide +kernel)) ?_
  refine mk_cons (sn_aload_n (k := 0) E.1 E.2.2.2.1 (by decide +kernel) rfl) ?_
  refine mk_cons (sn_getI (i := 145) (c0 := 0) E.1 cls_12 (by decide) rfl (by decide) kf_Mo_145 (by decide +kernel)) ?_
  refine mk_cons (sn_sipush (n := 161) E.1 (by decide +kernel) (by decide +kernel)) ?_
  refine mk_cons (sn_cne (off := 8) E.1 (by decide +kernel) (by decide +kernel)) ?_
  refine mk_cons (sn_bipush (n := 18) E.1 (by decide +kernel) (by decide +kernel)) ?_
  refine mk_cons (sn_goto (off := 19) E.1 (by decide +kernel) (by decide +kernel)) ?_
  refine mk_cons (sn_aload_n (k := 0) E.1 E.2.2.2.1 (by decide +kernel) rfl) ?_
  refine mk_cons (sn_getI (i := 145) (c0 := 0) E.1 cls_12 (by decide) rfl (by decide) kf_Mo_145 (by decide +kernel)) ?_
  refine mk_cons (sn_sipush (n := 162) E.1 (by decide +kernel) (by decide +kernel)) ?_
  refine mk_cons (sn_cne (off := 8) E.1 (by decide +kernel) (by decide +kernel)) ?_
  refine mk_cons (sn_bipush (n := 19) E.1 (by decide +kernel) (by decide +kernel)) ?_
  refine mk_cons (sn_goto (off := 4) E.1 (by decide +kernel) (by decide +kernel)) ?_
  refine mk_cons (sn_iconst (n := (-1)) E.1 (by decide +kernel) (by decide +kernel)) ?_
  refine mk_cons (sn_istore_n (k := 1) E.1 (by decide +kernel) rfl (by decide +kernel)) ?_
  refine mk_cons (sn_iload_n (k := 1) E.1 (by decide +kernel) rfl) ?_
  refine mk_cons (sn_iconst (n := (-1)) E.1 (by decide +kernel) (by decide +kernel)) ?_
  refine mk_cons (sn_cne (off := 9) E.1 (by decide +kernel) (by decide +kernel)) ?_
  refine mk_cons (sn_aload_n (k := 0) E.1 E.2.2.2.1 (by decide +kernel) rfl) ?_
  refine mk_cons (sn_iconst (n := 1) E.1 (by decide +kernel) (by decide +kernel)) ?_
  refine mk_cons (sn_callV (i := 166) E.1 E.2.2.2.1 E.2.2.2.2.1 E.2.2.2.2.2.1 (E.2.2.2.2.2.2.2 n_Mo_bad) ok_Mo_bad cls_12 rfl km_Mo_166 kn_Mo_bad kv_Mo_bad (by decide +kernel)) ?_
  refine mk_cons (sn_zret E.1 E.2.1 E.2.2.2.2.2.2.1 (by decide +kernel)) ?_
  refine mk_cons (sn_aload_n (k := 0) E.1 E.2.2.2.1 (by decide +kernel) rfl) ?_
  refine mk_cons (sn_callV (i := 169) E.1 E.2.2.2.1 E.2.2.2.2.1 E.2.2.2.2.2.1 (E.2.2.2.2.2.2.2 n_Mo_next0) ok_Mo_next0 cls_12 rfl km_Mo_169 kn_Mo_next0 kv_Mo_next0 (by decide +kernel)) ?_
  refine mk_cons (sn_aload_n (k := 0) E.1 E.2.2.2.1 (by decide +kernel) rfl) ?_
  refine mk_cons (sn_callV (i := 204) E.1 E.2.2.2.1 E.2.2.2.2.1 E.2.2.2.2.2.1 (E.2.2.2.2.2.2.2 n_Mo_sumUp) ok_Mo_sumUp cls_12 rfl km_Mo_204 kn_Mo_sumUp kv_Mo_sumUp (by decide +kernel)) ?_
  refine mk_cons (sn_ifne (off := 5) E.1 (by decide +kernel) (by decide +kernel)) ?_
  refine mk_cons (sn_iconst (n := 0) E.1 (by decide +kernel) (by decide +kernel)) ?_
  refine mk_cons (sn_zret E.1 E.2.1 E.2.2.2.2.2.2.1 (by decide +kernel)) ?_
  refine mk_cons (sn_aload_n (k := 0) E.1 E.2.2.2.1 (by decide +kernel) rfl) ?_
  refine mk_cons (sn_iload_n (k := 1) E.1 (by decide +kernel) rfl) ?_
  refine mk_cons (sn_iconst (n := 0) E.1 (by decide +kernel) (by decide +kernel)) ?_
  refine mk_cons (sn_callV (i := 182) E.1 E.2.2.2.1 E.2.2.2.2.1 E.2.2.2.2.2.1 (E.2.2.2.2.2.2.2 n_Mo_lay) ok_Mo_lay cls_12 rfl km_Mo_182 kn_Mo_lay kv_Mo_lay (by decide +kernel)) ?_
  refine mk_cons (sn_iconst (n := 1) E.1 (by decide +kernel) (by decide +kernel)) ?_
  refine mk_cons (sn_zret E.1 E.2.1 E.2.2.2.2.2.2.1 (by decide +kernel)) ?_
  exact mk_nil
set_option maxRecDepth 100000 in
set_option maxHeartbeats 4000000 in
theorem rw_Mo_aLine : mk_Rows n_Mo_aLine := by
  intro p l e R s m args below meth c D cy b sk lim cr Q n0 d E
  show ∀ q ∈ t_Mo_aLine, _
  refine mk_cons (sn_aload_n (k := 0) E.1 E.2.2.2.1 (by decide +kernel) rfl) ?_
  refine mk_cons (sn_getI (i := 145) (c0 := 0) E.1 cls_12 (by decide) rfl (by decide) kf_Mo_145 (by decide +kernel)) ?_
  refine mk_cons (sn_iconst (n := 2) E.1 (by decide +kernel) (by decide +kernel)) ?_
  refine mk_cons (sn_ceq (off := 9) E.1 (by decide +kernel) (by decide +kernel)) ?_
  refine mk_cons (sn_aload_n (k := 0) E.1 E.2.2.2.1 (by decide +kernel) rfl) ?_
  refine mk_cons (sn_iconst (n := 1) E.1 (by decide +kernel) (by decide +kernel)) ?_
  refine mk_cons (sn_callV (i := 166) E.1 E.2.2.2.1 E.2.2.2.2.1 E.2.2.2.2.2.1 (E.2.2.2.2.2.2.2 n_Mo_bad) ok_Mo_bad cls_12 rfl km_Mo_166 kn_Mo_bad kv_Mo_bad (by decide +kernel)) ?_
  refine mk_cons (sn_zret E.1 E.2.1 E.2.2.2.2.2.2.1 (by decide +kernel)) ?_
  refine mk_cons (sn_aload_n (k := 0) E.1 E.2.2.2.1 (by decide +kernel) rfl) ?_
  refine mk_cons (sn_getI (i := 95) (c0 := 0) E.1 cls_12 (by decide) rfl (by decide) kf_Mo_95 (by decide +kernel)) ?_
  refine mk_cons (sn_aload_n (k := 0) E.1 E.2.2.2.1 (by decide +kernel) rfl) ?_
  refine mk_cons (sn_getI (i := 98) (c0 := 0) E.1 cls_12 (by decide) rfl (by decide) kf_Mo_98 (by decide +kernel)) ?_
  refine mk_cons (sn_isub E.1 (by decide +kernel)) ?_
  refine mk_cons (sn_iconst (n := 1) E.1 (by decide +kernel) (by decide +kernel)) ?_
  refine mk_cons (sn_cle (off := 9) E.1 (by decide +kernel) (by decide +kernel)) ?_
  refine mk_cons (sn_aload_n (k := 0) E.1 E.2.2.2.1 (by decide +kernel) rfl) ?_
  refine mk_cons (sn_iconst (n := 2) E.1 (by decide +kernel) (by decide +kernel)) ?_
  refine mk_cons (sn_callV (i := 166) E.1 E.2.2.2.1 E.2.2.2.2.1 E.2.2.2.2.2.1 (E.2.2.2.2.2.2.2 n_Mo_bad) ok_Mo_bad cls_12 rfl km_Mo_166 kn_Mo_bad kv_Mo_bad (by decide +kernel)) ?_
  refine mk_cons (sn_zret E.1 E.2.1 E.2.2.2.2.2.2.1 (by decide +kernel)) ?_
  refine mk_cons (sn_aload_n (k := 0) E.1 E.2.2.2.1 (by decide +kernel) rfl) ?_
  refine mk_cons (sn_getI (i := 157) (c0 := 0) E.1 cls_12 (by decide) rfl (by decide) kf_Mo_157 (by decide +kernel)) ?_
  refine mk_cons (sn_istore_n (k := 1) E.1 (by decide +kernel) rfl (by decide +kernel)) ?_
  refine mk_cons (sn_aload_n (k := 0) E.1 E.2.2.2.1 (by decide +kernel) rfl) ?_
  refine mk_cons (sn_callV (i := 169) E.1 E.2.2.2.1 E.2.2.2.2.1 E.2.2.2.2.2.1 (E.2.2.2.2.2.2.2 n_Mo_next0) ok_Mo_next0 cls_12 rfl km_Mo_169 kn_Mo_next0 kv_Mo_next0 (by decide +kernel)) ?_
  refine mk_cons (sn_aload_n (k := 0) E.1 E.2.2.2.1 (by decide +kernel) rfl) ?_
  refine mk_cons (sn_getI (i := 145) (c0 := 0) E.1 cls_12 (by decide) rfl (by decide) kf_Mo_145 (by decide +kernel)) ?_
  refine mk_cons (sn_bipush (n := 7) E.1 (by decide +kernel) (by decide +kernel)) ?_
  refine mk_cons (sn_ceq (off := 9) E.1 (by decide +kernel) (by decide +kernel)) ?_
  refine mk_cons (sn_aload_n (k := 0) E.1 E.2.2.2.1 (by decide +kernel) rfl) ?_
  refine mk_cons (sn_iconst (n := 1) E.1 (by decide +kernel) (by decide +kernel)) ?_
  refine mk_cons (sn_callV (i := 166) E.1 E.2.2.2.1 E.2.2.2.2.1 E.2.2.2.2.2.1 (E.2.2.2.2.2.2.2 n_Mo_bad) ok_Mo_bad cls_12 rfl km_Mo_166 kn_Mo_bad kv_Mo_bad (by decide +kernel)) ?_
  refine mk_cons (sn_zret E.1 E.2.1 E.2.2.2.2.2.2.1 (by decide +kernel)) ?_
  refine mk_cons (sn_aload_n (k := 0) E.1 E.2.2.2.1 (by decide +kernel) rfl) ?_
  refine mk_cons (sn_getI (i := 207) (c0 := 0) E.1 cls_12 (by decide) rfl (by decide) kf_Mo_207 (by decide +kernel)) ?_
  refine mk_cons (sn_bipush (n := 16) E.1 (by decide +kernel) (by decide +kernel)) ?_
  refine mk_cons (sn_cne (off := 9) E.1 (by decide +kernel) (by decide +kernel)) ?_
  refine mk_cons (sn_aload_n (k := 0) E.1 E.2.2.2.1 (by decide +kernel) rfl) ?_
  refine mk_cons (sn_iconst (n := 3) E.1 (by decide +kernel) (by decide +kernel)) ?_
  refine mk_cons (sn_callV (i := 166) E.1 E.2.2.2.1 E.2.2.2.2.1 E.2.2.2.2.2.1 (E.2.2.2.2.2.2.2 n_Mo_bad) ok_Mo_bad cls_12 rfl km_Mo_166 kn_Mo_bad kv_Mo_bad (by decide +kernel)) ?_
  refine mk_cons (sn_zret E.1 E.2.1 E.2.2.2.2.2.2.1 (by decide +kernel)) ?_
  refine mk_cons (sn_iconst (n := 5) E.1 (by decide +kernel) (by decide +kernel)) ?_
  refine mk_cons (sn_aload_n (k := 0) E.1 E.2.2.2.1 (by decide +kernel) rfl) ?_
  refine mk_cons (sn_getI (i := 207) (c0 := 0) E.1 cls_12 (by decide) rfl (by decide) kf_Mo_207 (by decide +kernel)) ?_
  refine mk_cons (sn_imul E.1 (by decide +kernel)) ?_
  refine mk_cons (sn_istore_n (k := 2) E.1 (by decide +kernel) rfl (by decide +kernel)) ?_
  refine mk_cons (sn_aload_n (k := 0) E.1 E.2.2.2.1 (by decide +kernel) rfl) ?_
  refine mk_cons (sn_getR (i := 23) E.1 cls_12 (by decide) rfl kf_Mo_23 (by decide +kernel)) ?_
  refine mk_cons (sn_iload_n (k := 2) E.1 (by decide +kernel) rfl) ?_
  refine mk_cons (sn_iload_n (k := 1) E.1 (by decide +kernel) rfl) ?_
  refine mk_cons (sn_iast E.1 (by decide +kernel)) ?_
  refine mk_cons (sn_aload_n (k := 0) E.1 E.2.2.2.1 (by decide +kernel) rfl) ?_
  refine mk_cons (sn_iconst (n := 0) E.1 (by decide +kernel) (by decide +kernel)) ?_
  refine mk_cons (sn_putI (i := 175) E.1 cls_12 (by decide) rfl rfl rfl kf_Mo_175 (by decide +kernel)) ?_
  refine mk_cons (sn_aload_n (k := 0) E.1 E.2.2.2.1 (by decide +kernel) rfl) ?_
  refine mk_cons (sn_callV (i := 169) E.1 E.2.2.2.1 E.2.2.2.2.1 E.2.2.2.2.2.1 (E.2.2.2.2.2.2.2 n_Mo_next0) ok_Mo_next0 cls_12 rfl km_Mo_169 kn_Mo_next0 kv_Mo_next0 (by decide +kernel)) ?_
  refine mk_cons (sn_aload_n (k := 0) E.1 E.2.2.2.1 (by decide +kernel) rfl) ?_
  refine mk_cons (sn_getI (i := 145) (c0 := 0) E.1 cls_12 (by decide) rfl (by decide) kf_Mo_145 (by decide +kernel)) ?_
  refine mk_cons (sn_iconst (n := 2) E.1 (by decide +kernel) (by decide +kernel)) ?_
  refine mk_cons (sn_ceq (off := 18) E.1 (by decide +kernel) (by decide +kernel)) ?_
  refine mk_cons (sn_aload_n (k := 0) E.1 E.2.2.2.1 (by decide +kernel) rfl) ?_
  refine mk_cons (sn_getI (i := 145) (c0 := 0) E.1 cls_12 (by decide) rfl (by decide) kf_Mo_145 (by decide +kernel)) ?_
  refine mk_cons (sn_bipush (n := 8) E.1 (by decide +kernel) (by decide +kernel)) ?_
  refine mk_cons (sn_ceq (off := 9) E.1 (by decide +kernel) (by decide +kernel)) ?_
  refine mk_cons (sn_aload_n (k := 0) E.1 E.2.2.2.1 (by decide +kernel) rfl) ?_
  refine mk_cons (sn_iconst (n := 1) E.1 (by decide +kernel) (by decide +kernel)) ?_
  refine mk_cons (sn_callV (i := 166) E.1 E.2.2.2.1 E.2.2.2.2.1 E.2.2.2.2.2.1 (E.2.2.2.2.2.2.2 n_Mo_bad) ok_Mo_bad cls_12 rfl km_Mo_166 kn_Mo_bad kv_Mo_bad (by decide +kernel)) ?_
  refine mk_cons (sn_zret E.1 E.2.1 E.2.2.2.2.2.2.1 (by decide +kernel)) ?_
  refine mk_cons (sn_aload_n (k := 0) E.1 E.2.2.2.1 (by decide +kernel) rfl) ?_
  refine mk_cons (sn_getR (i := 23) E.1 cls_12 (by decide) rfl kf_Mo_23 (by decide +kernel)) ?_
  refine mk_cons (sn_iload_n (k := 2) E.1 (by decide +kernel) rfl) ?_
  refine mk_cons (sn_iconst (n := 1) E.1 (by decide +kernel) (by decide +kernel)) ?_
  refine mk_cons (sn_iadd E.1 (by decide +kernel)) ?_
  refine mk_cons (sn_aload_n (k := 0) E.1 E.2.2.2.1 (by decide +kernel) rfl) ?_
  refine mk_cons (sn_getI (i := 145) (c0 := 0) E.1 cls_12 (by decide) rfl (by decide) kf_Mo_145 (by decide +kernel)) ?_
  refine mk_cons (sn_bipush (n := 8) E.1 (by decide +kernel) (by decide +kernel)) ?_
  refine mk_cons (sn_cne (off := 7) E.1 (by decide +kernel) (by decide +kernel)) ?_
  refine mk_cons (sn_iconst (n := 0) E.1 (by decide +kernel) (by decide +kernel)) ?_
  refine mk_cons (sn_goto (off := 7) E.1 (by decide +kernel) (by decide +kernel)) ?_
  refine mk_cons (sn_aload_n (k := 0) E.1 E.2.2.2.1 (by decide +kernel) rfl) ?_
  refine mk_cons (sn_getI (i := 157) (c0 := 0) E.1 cls_12 (by decide) rfl (by decide) kf_Mo_157 (by decide +kernel)) ?_
  refine mk_cons (sn_iast E.1 (by decide +kernel)) ?_
  refine mk_cons (sn_aload_n (k := 0) E.1 E.2.2.2.1 (by decide +kernel) rfl) ?_
  refine mk_cons (sn_getR (i := 23) E.1 cls_12 (by decide) rfl kf_Mo_23 (by decide +kernel)) ?_
  refine mk_cons (sn_iload_n (k := 2) E.1 (by decide +kernel) rfl) ?_
  refine mk_cons (sn_iconst (n := 2) E.1 (by decide +kernel) (by decide +kernel)) ?_
  refine mk_cons (sn_iadd E.1 (by decide +kernel)) ?_
  refine mk_cons (sn_aload_n (k := 0) E.1 E.2.2.2.1 (by decide +kernel) rfl) ?_
  refine mk_cons (sn_getI (i := 145) (c0 := 0) E.1 cls_12 (by decide) rfl (by decide) kf_Mo_145 (by decide +kernel)) ?_
  refine mk_cons (sn_bipush (n := 8) E.1 (by decide +kernel) (by decide +kernel)) ?_
  refine mk_cons (sn_cne (off := 7) E.1 (by decide +kernel) (by decide +kernel)) ?_
  refine mk_cons (sn_iconst (n := 0) E.1 (by decide +kernel) (by decide +kernel)) ?_
  refine mk_cons (sn_goto (off := 12) E.1 (by decide +kernel) (by decide +kernel)) ?_
  refine mk_cons (sn_aload_n (k := 0) E.1 E.2.2.2.1 (by decide +kernel) rfl) ?_
  refine mk_cons (sn_getI (i := 95) (c0 := 0) E.1 cls_12 (by decide) rfl (by decide) kf_Mo_95 (by decide +kernel)) ?_
  refine mk_cons (sn_aload_n (k := 0) E.1 E.2.2.2.1 (by decide +kernel) rfl) ?_
  refine mk_cons (sn_getI (i := 98) (c0 := 0) E.1 cls_12 (by decide) rfl (by decide) kf_Mo_98 (by decide +kernel)) ?_
  refine mk_cons (sn_isub E.1 (by decide +kernel)) ?_
  refine mk_cons (sn_iast E.1 (by decide +kernel)) ?_
  refine mk_cons (sn_aload_n (k := 0) E.1 E.2.2.2.1 (by decide +kernel) rfl) ?_
  refine mk_cons (sn_callV (i := 169) E.1 E.2.2.2.1 E.2.2.2.2.1 E.2.2.2.2.2.1 (E.2.2.2.2.2.2.2 n_Mo_next0) ok_Mo_next0 cls_12 rfl km_Mo_169 kn_Mo_next0 kv_Mo_next0 (by decide +kernel)) ?_
  refine mk_cons (sn_aload_n (k := 0) E.1 E.2.2.2.1 (by decide +kernel) rfl) ?_
  refine mk_cons (sn_getR (i := 23) E.1 cls_12 (by decide) rfl kf_Mo_23 (by decide +kernel)) ?_
  refine mk_cons (sn_iload_n (k := 2) E.1 (by decide +kernel) rfl) ?_
  refine mk_cons (sn_iconst (n := 3) E.1 (by decide +kernel) (by decide +kernel)) ?_
  refine mk_cons (sn_iadd E.1 (by decide +kernel)) ?_
  refine mk_cons (sn_aload_n (k := 0) E.1 E.2.2.2.1 (by decide +kernel) rfl) ?_
  refine mk_cons (sn_getI (i := 172) (c0 := 0) E.1 cls_12 (by decide) rfl (by decide) kf_Mo_172 (by decide +kernel)) ?_
  refine mk_cons (sn_iast E.1 (by decide +kernel)) ?_
  refine mk_cons (sn_aload_n (k := 0) E.1 E.2.2.2.1 (by decide +kernel) rfl) ?_
  refine mk_cons (sn_getI (i := 145) (c0 := 0) E.1 cls_12 (by decide) rfl (by decide) kf_Mo_145 (by decide +kernel)) ?_
  refine mk_cons (sn_iconst (n := 3) E.1 (by decide +kernel) (by decide +kernel)) ?_
  refine mk_cons (sn_cne (off := 16) E.1 (by decide +kernel) (by decide +kernel)) ?_
  refine mk_cons (sn_aload_n (k := 0) E.1 E.2.2.2.1 (by decide +kernel) rfl) ?_
  refine mk_cons (sn_callV (i := 169) E.1 E.2.2.2.1 E.2.2.2.2.1 E.2.2.2.2.2.1 (E.2.2.2.2.2.2.2 n_Mo_next0) ok_Mo_next0 cls_12 rfl km_Mo_169 kn_Mo_next0 kv_Mo_next0 (by decide +kernel)) ?_
  refine mk_cons (sn_aload_n (k := 0) E.1 E.2.2.2.1 (by decide +kernel) rfl) ?_
  refine mk_cons (sn_callV (i := 198) E.1 E.2.2.2.1 E.2.2.2.2.1 E.2.2.2.2.2.1 (E.2.2.2.2.2.2.2 n_Mo_any) ok_Mo_any cls_12 rfl km_Mo_198 kn_Mo_any kv_Mo_any (by decide +kernel)) ?_
  refine mk_cons (sn_ifne (off := 5) E.1 (by decide +kernel) (by decide +kernel)) ?_
  refine mk_cons (sn_iconst (n := 0) E.1 (by decide +kernel) (by decide +kernel)) ?_
  refine mk_cons (sn_zret E.1 E.2.1 E.2.2.2.2.2.2.1 (by decide +kernel)) ?_
  refine mk_cons (sn_aload_n (k := 0) E.1 E.2.2.2.1 (by decide +kernel) rfl) ?_
  refine mk_cons (sn_getR (i := 23) E.1 cls_12 (by decide) rfl kf_Mo_23 (by decide +kernel)) ?_
  refine mk_cons (sn_iload_n (k := 2) E.1 (by decide +kernel) rfl) ?_
  refine mk_cons (sn_iconst (n := 4) E.1 (by decide +kernel) (by decide +kernel)) ?_
  refine mk_cons (sn_iadd E.1 (by decide +kernel)) ?_
  refine mk_cons (sn_aload_n (k := 0) E.1 E.2.2.2.1 (by decide +kernel) rfl) ?_
  refine mk_cons (sn_getI (i := 172) (c0 := 0) E.1 cls_12 (by decide) rfl (by decide) kf_Mo_172 (by decide +kernel)) ?_
  refine mk_cons (sn_iast E.1 (by decide +kernel)) ?_
  refine mk_cons (sn_aload_n (k := 0) E.1 E.2.2.2.1 (by decide +kernel) rfl) ?_
  refine mk_cons (sn_sipush (n := 159) E.1 (by decide +kernel) (by decide +kernel)) ?_
  refine mk_cons (sn_callV (i := 201) E.1 E.2.2.2.1 E.2.2.2.2.1 E.2.2.2.2.2.1 (E.2.2.2.2.2.2.2 n_Mo_need) ok_Mo_need cls_12 rfl km_Mo_201 kn_Mo_need kv_Mo_need (by decide +kernel)) ?_
  refine mk_cons (sn_zret E.1 E.2.1 E.2.2.2.2.2.2.1 (by decide +kernel)) ?_
  exact mk_nil
set_option maxRecDepth 100000 in
set_option maxHeartbeats 4000000 in
theorem rw_Mo_text : mk_Rows n_Mo_text := by
  intro p l e R s m args below meth c D cy b sk lim cr Q n0 d E
  show ∀ q ∈ t_Mo_text, _
  refine mk_cons (sn_aload_n (k := 0) E.1 E.2.2.2.1 (by decide +kernel) rfl) ?_
  refine mk_cons (sn_iconst (n := 0) E.1 (by decide +kernel) (by decide +kernel)) ?_
  refine mk_cons (sn_putI (i := 160) E.1 cls_12 (by decide) rfl rfl rfl kf_Mo_160 (by decide +kernel)) ?_
  refine mk_cons (sn_iload_n (k := 1) E.1 (by decide +kernel) rfl) ?_
  refine mk_cons (sn_iconst (n := 0) E.1 (by decide +kernel) (by decide +kernel)) ?_
  refine mk_cons (sn_iconst (n := 3) E.1 (by decide +kernel) (by decide +kernel)) ?_
  refine mk_cons (sn_callS (i := 72) E.1 E.2.2.2.1 E.2.2.2.2.1 E.2.2.2.2.2.1 (E.2.2.2.2.2.2.2 n_Mo_isIn) ok_Mo_isIn km_Mo_72 ks_Mo_isIn (by decide +kernel)) ?_
  refine mk_cons (sn_ifne (off := 20) E.1 (by decide +kernel) (by decide +kernel)) ?_
  refine mk_cons (sn_aload_n (k := 0) E.1 E.2.2.2.1 (by decide +kernel) rfl) ?_
  refine mk_cons (sn_iconst (n := 0) E.1 (by decide +kernel) (by decide +kernel)) ?_
  refine mk_cons (sn_putI (i := 92) E.1 cls_12 (by decide) rfl rfl rfl kf_Mo_92 (by decide +kernel)) ?_
  refine mk_cons (sn_aload_n (k := 0) E.1 E.2.2.2.1 (by decide +kernel) rfl) ?_
  refine mk_cons (sn_iconst (n := 0) E.1 (by decide +kernel) (by decide +kernel)) ?_
  refine mk_cons (sn_putI (i := 210) E.1 cls_12 (by decide) rfl rfl rfl kf_Mo_210 (by decide +kernel)) ?_
  refine mk_cons (sn_aload_n (k := 0) E.1 E.2.2.2.1 (by decide +kernel) rfl) ?_
  refine mk_cons (sn_iconst (n := (-1)) E.1 (by decide +kernel) (by decide +kernel)) ?_
  refine mk_cons (sn_putI (i := 38) E.1 cls_12 (by decide) rfl rfl rfl kf_Mo_38 (by decide +kernel)) ?_
  refine mk_cons (sn_iconst (n := (-1)) E.1 (by decide +kernel) (by decide +kernel)) ?_
  refine mk_cons (sn_iret E.1 E.2.1 E.2.2.2.2.2.2.1 (by decide +kernel)) ?_
  refine mk_cons (sn_aload_n (k := 0) E.1 E.2.2.2.1 (by decide +kernel) rfl) ?_
  refine mk_cons (sn_iconst (n := 0) E.1 (by decide +kernel) (by decide +kernel)) ?_
  refine mk_cons (sn_putI (i := 95) E.1 cls_12 (by decide) rfl rfl rfl kf_Mo_95 (by decide +kernel)) ?_
  refine mk_cons (sn_aload_n (k := 0) E.1 E.2.2.2.1 (by decide +kernel) rfl) ?_
  refine mk_cons (sn_iconst (n := 0) E.1 (by decide +kernel) (by decide +kernel)) ?_
  refine mk_cons (sn_putI (i := 207) E.1 cls_12 (by decide) rfl rfl rfl kf_Mo_207 (by decide +kernel)) ?_
  refine mk_cons (sn_aload_n (k := 0) E.1 E.2.2.2.1 (by decide +kernel) rfl) ?_
  refine mk_cons (sn_iconst (n := 0) E.1 (by decide +kernel) (by decide +kernel)) ?_
  refine mk_cons (sn_putI (i := 172) E.1 cls_12 (by decide) rfl rfl rfl kf_Mo_172 (by decide +kernel)) ?_
  refine mk_cons (sn_aload_n (k := 0) E.1 E.2.2.2.1 (by decide +kernel) rfl) ?_
  refine mk_cons (sn_callV (i := 169) E.1 E.2.2.2.1 E.2.2.2.2.1 E.2.2.2.2.2.1 (E.2.2.2.2.2.2.2 n_Mo_next0) ok_Mo_next0 cls_12 rfl km_Mo_169 kn_Mo_next0 kv_Mo_next0 (by decide +kernel)) ?_
  refine mk_cons (sn_iconst (n := 1) E.1 (by decide +kernel) (by decide +kernel)) ?_
  refine mk_cons (sn_istore_n (k := 2) E.1 (by decide +kernel) rfl (by decide +kernel)) ?_
  refine mk_cons (sn_iload_n (k := 2) E.1 (by decide +kernel) rfl) ?_
  refine mk_cons (sn_ifeq (off := 36) E.1 (by decide +kernel) (by decide +kernel)) ?_
  refine mk_cons (sn_aload_n (k := 0) E.1 E.2.2.2.1 (by decide +kernel) rfl) ?_
  refine mk_cons (sn_getI (i := 145) (c0 := 0) E.1 cls_12 (by decide) rfl (by decide) kf_Mo_145 (by decide +kernel)) ?_
  refine mk_cons (sn_ifeq (off := 29) E.1 (by decide +kernel) (by decide +kernel)) ?_
  refine mk_cons (sn_aload_n (k := 0) E.1 E.2.2.2.1 (by decide +kernel) rfl) ?_
  refine mk_cons (sn_callV (i := 213) E.1 E.2.2.2.1 E.2.2.2.2.1 E.2.2.2.2.2.1 (E.2.2.2.2.2.2.2 n_Mo_aLine) ok_Mo_aLine cls_12 rfl km_Mo_213 kn_Mo_aLine kv_Mo_aLine (by decide +kernel)) ?_
  refine mk_cons (sn_istore_n (k := 2) E.1 (by decide +kernel) rfl (by decide +kernel)) ?_
  refine mk_cons (sn_aload_n (k := 0) E.1 E.2.2.2.1 (by decide +kernel) rfl) ?_
  refine mk_cons (sn_dup E.1 (by decide +kernel)) ?_
  refine mk_cons (sn_getI (i := 207) (c0 := 0) E.1 cls_12 (by decide) rfl (by decide) kf_Mo_207 (by decide +kernel)) ?_
  refine mk_cons (sn_iload_n (k := 2) E.1 (by decide +kernel) rfl) ?_
  refine mk_cons (sn_ifeq (off := 7) E.1 (by decide +kernel) (by decide +kernel)) ?_
  refine mk_cons (sn_iconst (n := 1) E.1 (by decide +kernel) (by decide +kernel)) ?_
  refine mk_cons (sn_goto (off := 4) E.1 (by decide +kernel) (by decide +kernel)) ?_
  refine mk_cons (sn_iconst (n := 0) E.1 (by decide +kernel) (by decide +kernel)) ?_
  refine mk_cons (sn_iadd E.1 (by decide +kernel)) ?_
  refine mk_cons (sn_putI (i := 207) E.1 cls_12 (by decide) rfl rfl rfl kf_Mo_207 (by decide +kernel)) ?_
  refine mk_cons (sn_goto (off := (-34)) E.1 (by decide +kernel) (by decide +kernel)) ?_
  refine mk_cons (sn_aload_n (k := 0) E.1 E.2.2.2.1 (by decide +kernel) rfl) ?_
  refine mk_cons (sn_iconst (n := 0) E.1 (by decide +kernel) (by decide +kernel)) ?_
  refine mk_cons (sn_putI (i := 92) E.1 cls_12 (by decide) rfl rfl rfl kf_Mo_92 (by decide +kernel)) ?_
  refine mk_cons (sn_aload_n (k := 0) E.1 E.2.2.2.1 (by decide +kernel) rfl) ?_
  refine mk_cons (sn_aload_n (k := 0) E.1 E.2.2.2.1 (by decide +kernel) rfl) ?_
  refine mk_cons (sn_getI (i := 160) (c0 := 0) E.1 cls_12 (by decide) rfl (by decide) kf_Mo_160 (by decide +kernel)) ?_
  refine mk_cons (sn_putI (i := 210) E.1 cls_12 (by decide) rfl rfl rfl kf_Mo_210 (by decide +kernel)) ?_
  refine mk_cons (sn_aload_n (k := 0) E.1 E.2.2.2.1 (by decide +kernel) rfl) ?_
  refine mk_cons (sn_iload_n (k := 2) E.1 (by decide +kernel) rfl) ?_
  refine mk_cons (sn_ifeq (off := 7) E.1 (by decide +kernel) (by decide +kernel)) ?_
  refine mk_cons (sn_iconst (n := (-1)) E.1 (by decide +kernel) (by decide +kernel)) ?_
  refine mk_cons (sn_goto (off := 7) E.1 (by decide +kernel) (by decide +kernel)) ?_
  refine mk_cons (sn_aload_n (k := 0) E.1 E.2.2.2.1 (by decide +kernel) rfl) ?_
  refine mk_cons (sn_getI (i := 163) (c0 := 0) E.1 cls_12 (by decide) rfl (by decide) kf_Mo_163 (by decide +kernel)) ?_
  refine mk_cons (sn_putI (i := 38) E.1 cls_12 (by decide) rfl rfl rfl kf_Mo_38 (by decide +kernel)) ?_
  refine mk_cons (sn_iload_n (k := 2) E.1 (by decide +kernel) rfl) ?_
  refine mk_cons (sn_ifne (off := 5) E.1 (by decide +kernel) (by decide +kernel)) ?_
  refine mk_cons (sn_iconst (n := (-1)) E.1 (by decide +kernel) (by decide +kernel)) ?_
  refine mk_cons (sn_iret E.1 E.2.1 E.2.2.2.2.2.2.1 (by decide +kernel)) ?_
  refine mk_cons (sn_aload_n (k := 0) E.1 E.2.2.2.1 (by decide +kernel) rfl) ?_
  refine mk_cons (sn_getR (i := 7) E.1 cls_12 (by decide) rfl kf_Mo_7 (by decide +kernel)) ?_
  refine mk_cons (sn_sipush (n := 1670) E.1 (by decide +kernel) (by decide +kernel)) ?_
  refine mk_cons (sn_iload_n (k := 1) E.1 (by decide +kernel) rfl) ?_
  refine mk_cons (sn_iadd E.1 (by decide +kernel)) ?_
  refine mk_cons (sn_aload_n (k := 0) E.1 E.2.2.2.1 (by decide +kernel) rfl) ?_
  refine mk_cons (sn_getI (i := 207) (c0 := 0) E.1 cls_12 (by decide) rfl (by decide) kf_Mo_207 (by decide +kernel)) ?_
  refine mk_cons (sn_iast E.1 (by decide +kernel)) ?_
  refine mk_cons (sn_iconst (n := 0) E.1 (by decide +kernel) (by decide +kernel)) ?_
  refine mk_cons (sn_istore_n (k := 3) E.1 (by decide +kernel) rfl (by decide +kernel)) ?_
  refine mk_cons (sn_iload_n (k := 3) E.1 (by decide +kernel) rfl) ?_
  refine mk_cons (sn_aload_n (k := 0) E.1 E.2.2.2.1 (by decide +kernel) rfl) ?_
  refine mk_cons (sn_getI (i := 207) (c0 := 0) E.1 cls_12 (by decide) rfl (by decide) kf_Mo_207 (by decide +kernel)) ?_
  refine mk_cons (sn_cge (off := 120) E.1 (by decide +kernel) (by decide +kernel)) ?_
  refine mk_cons (sn_bipush (n := 16) E.1 (by decide +kernel) (by decide +kernel)) ?_
  refine mk_cons (sn_iload_n (k := 1) E.1 (by decide +kernel) rfl) ?_
  refine mk_cons (sn_imul E.1 (by decide +kernel)) ?_
  refine mk_cons (sn_iload_n (k := 3) E.1 (by decide +kernel) rfl) ?_
  refine mk_cons (sn_iadd E.1 (by decide +kernel)) ?_
  refine mk_cons (sn_istore E.1 (by decide +kernel) (by decide +kernel)) ?_
  refine mk_cons (sn_aload_n (k := 0) E.1 E.2.2.2.1 (by decide +kernel) rfl) ?_
  refine mk_cons (sn_getR (i := 7) E.1 cls_12 (by decide) rfl kf_Mo_7 (by decide +kernel)) ?_
  refine mk_cons (sn_sipush (n := 1675) E.1 (by decide +kernel) (by decide +kernel)) ?_
  refine mk_cons (sn_iload E.1 (by decide +kernel)) ?_
  refine mk_cons (sn_iadd E.1 (by decide +kernel)) ?_
  refine mk_cons (sn_aload_n (k := 0) E.1 E.2.2.2.1 (by decide +kernel) rfl) ?_
  refine mk_cons (sn_getR (i := 23) E.1 cls_12 (by decide) rfl kf_Mo_23 (by decide +kernel)) ?_
  refine mk_cons (sn_iconst (n := 5) E.1 (by decide +kernel) (by decide +kernel)) ?_
  refine mk_cons (sn_iload_n (k := 3) E.1 (by decide +kernel) rfl) ?_
  refine mk_cons (sn_imul E.1 (by decide +kernel)) ?_
  refine mk_cons (sn_iald E.1 (by decide +kernel)) ?_
  refine mk_cons (sn_iast E.1 (by decide +kernel)) ?_
  refine mk_cons (sn_aload_n (k := 0) E.1 E.2.2.2.1 (by decide +kernel) rfl) ?_
  refine mk_cons (sn_getR (i := 7) E.1 cls_12 (by decide) rfl kf_Mo_7 (by decide +kernel)) ?_
  refine mk_cons (sn_sipush (n := 1740) E.1 (by decide +kernel) (by decide +kernel)) ?_
  refine mk_cons (sn_iload E.1 (by decide +kernel)) ?_
  refine mk_cons (sn_iadd E.1 (by decide +kernel)) ?_
  refine mk_cons (sn_aload_n (k := 0) E.1 E.2.2.2.1 (by decide +kernel) rfl) ?_
  refine mk_cons (sn_getR (i := 23) E.1 cls_12 (by decide) rfl kf_Mo_23 (by decide +kernel)) ?_
  refine mk_cons (sn_iconst (n := 5) E.1 (by decide +kernel) (by decide +kernel)) ?_
  refine mk_cons (sn_iload_n (k := 3) E.1 (by decide +kernel) rfl) ?_
  refine mk_cons (sn_imul E.1 (by decide +kernel)) ?_
  refine mk_cons (sn_iconst (n := 1) E.1 (by decide +kernel) (by decide +kernel)) ?_
  refine mk_cons (sn_iadd E.1 (by decide +kernel)) ?_
  refine mk_cons (sn_iald E.1 (by decide +kernel)) ?_
  refine mk_cons (sn_iast E.1 (by decide +kernel)) ?_
  refine mk_cons (sn_aload_n (k := 0) E.1 E.2.2.2.1 (by decide +kernel) rfl) ?_
  refine mk_cons (sn_getR (i := 7) E.1 cls_12 (by decide) rfl kf_Mo_7 (by decide +kernel)) ?_
  refine mk_cons (sn_sipush (n := 1805) E.1 (by decide +kernel) (by decide +kernel)) ?_
  refine mk_cons (sn_iload E.1 (by decide +kernel)) ?_
  refine mk_cons (sn_iadd E.1 (by decide +kernel)) ?_
  refine mk_cons (sn_aload_n (k := 0) E.1 E.2.2.2.1 (by decide +kernel) rfl) ?_
  refine mk_cons (sn_getR (i := 23) E.1 cls_12 (by decide) rfl kf_Mo_23 (by decide +kernel)) ?_
  refine mk_cons (sn_iconst (n := 5) E.1 (by decide +kernel) (by decide +kernel)) ?_
  refine mk_cons (sn_iload_n (k := 3) E.1 (by decide +kernel) rfl) ?_
  refine mk_cons (sn_imul E.1 (by decide +kernel)) ?_
  refine mk_cons (sn_iconst (n := 2) E.1 (by decide +kernel) (by decide +kernel)) ?_
  refine mk_cons (sn_iadd E.1 (by decide +kernel)) ?_
  refine mk_cons (sn_iald E.1 (by decide +kernel)) ?_
  refine mk_cons (sn_iast E.1 (by decide +kernel)) ?_
  refine mk_cons (sn_aload_n (k := 0) E.1 E.2.2.2.1 (by decide +kernel) rfl) ?_
  refine mk_cons (sn_getR (i := 7) E.1 cls_12 (by decide) rfl kf_Mo_7 (by decide +kernel)) ?_
  refine mk_cons (sn_sipush (n := 1870) E.1 (by decide +kernel) (by decide +kernel)) ?_
  refine mk_cons (sn_iload E.1 (by decide +kernel)) ?_
  refine mk_cons (sn_iadd E.1 (by decide +kernel)) ?_
  refine mk_cons (sn_aload_n (k := 0) E.1 E.2.2.2.1 (by decide +kernel) rfl) ?_
  refine mk_cons (sn_getR (i := 23) E.1 cls_12 (by decide) rfl kf_Mo_23 (by decide +kernel)) ?_
  refine mk_cons (sn_iconst (n := 5) E.1 (by decide +kernel) (by decide +kernel)) ?_
  refine mk_cons (sn_iload_n (k := 3) E.1 (by decide +kernel) rfl) ?_
  refine mk_cons (sn_imul E.1 (by decide +kernel)) ?_
  refine mk_cons (sn_iconst (n := 3) E.1 (by decide +kernel) (by decide +kernel)) ?_
  refine mk_cons (sn_iadd E.1 (by decide +kernel)) ?_
  refine mk_cons (sn_iald E.1 (by decide +kernel)) ?_
  refine mk_cons (sn_iast E.1 (by decide +kernel)) ?_
  refine mk_cons (sn_aload_n (k := 0) E.1 E.2.2.2.1 (by decide +kernel) rfl) ?_
  refine mk_cons (sn_getR (i := 7) E.1 cls_12 (by decide) rfl kf_Mo_7 (by decide +kernel)) ?_
  refine mk_cons (sn_sipush (n := 1935) E.1 (by decide +kernel) (by decide +kernel)) ?_
  refine mk_cons (sn_iload E.1 (by decide +kernel)) ?_
  refine mk_cons (sn_iadd E.1 (by decide +kernel)) ?_
  refine mk_cons (sn_aload_n (k := 0) E.1 E.2.2.2.1 (by decide +kernel) rfl) ?_
  refine mk_cons (sn_getR (i := 23) E.1 cls_12 (by decide) rfl kf_Mo_23 (by decide +kernel)) ?_
  refine mk_cons (sn_iconst (n := 5) E.1 (by decide +kernel) (by decide +kernel)) ?_
  refine mk_cons (sn_iload_n (k := 3) E.1 (by decide +kernel) rfl) ?_
  refine mk_cons (sn_imul E.1 (by decide +kernel)) ?_
  refine mk_cons (sn_iconst (n := 4) E.1 (by decide +kernel) (by decide +kernel)) ?_
  refine mk_cons (sn_iadd E.1 (by decide +kernel)) ?_
  refine mk_cons (sn_iald E.1 (by decide +kernel)) ?_
  refine mk_cons (sn_iast E.1 (by decide +kernel)) ?_
  refine mk_cons (sn_iinc (n := 1) E.1 (by decide +kernel) (by decide +kernel) (by decide +kernel)) ?_
  refine mk_cons (sn_goto (off := (-122)) E.1 (by decide +kernel) (by decide +kernel)) ?_
  refine mk_cons (sn_iconst (n := 0) E.1 (by decide +kernel) (by decide +kernel)) ?_
  refine mk_cons (sn_istore_n (k := 3) E.1 (by decide +kernel) rfl (by decide +kernel)) ?_
  refine mk_cons (sn_iload_n (k := 3) E.1 (by decide +kernel) rfl) ?_
  refine mk_cons (sn_iconst (n := 2) E.1 (by decide +kernel) (by decide +kernel)) ?_
  refine mk_cons (sn_aload_n (k := 0) E.1 E.2.2.2.1 (by decide +kernel) rfl) ?_
  refine mk_cons (sn_getI (i := 172) (c0 := 0) E.1 cls_12 (by decide) rfl (by decide) kf_Mo_172 (by decide +kernel)) ?_
  refine mk_cons (sn_imul E.1 (by decide +kernel)) ?_
  refine mk_cons (sn_cge (off := 31) E.1 (by decide +kernel) (by decide +kernel)) ?_
  refine mk_cons (sn_aload_n (k := 0) E.1 E.2.2.2.1 (by decide +kernel) rfl) ?_
  refine mk_cons (sn_getR (i := 7) E.1 cls_12 (by decide) rfl kf_Mo_7 (by decide +kernel)) ?_
  refine mk_cons (sn_sipush (n := 2000) E.1 (by decide +kernel) (by decide +kernel)) ?_
  refine mk_cons (sn_sipush (n := 820) E.1 (by decide +kernel) (by decide +kernel)) ?_
  refine mk_cons (sn_iload_n (k := 1) E.1 (by decide +kernel) rfl) ?_
  refine mk_cons (sn_imul E.1 (by decide +kernel)) ?_
  refine mk_cons (sn_iadd E.1 (by decide +kernel)) ?_
  refine mk_cons (sn_iload_n (k := 3) E.1 (by decide +kernel) rfl) ?_
  refine mk_cons (sn_iadd E.1 (by decide +kernel)) ?_
  refine mk_cons (sn_aload_n (k := 0) E.1 E.2.2.2.1 (by decide +kernel) rfl) ?_
  refine mk_cons (sn_getR (i := 26) E.1 cls_12 (by decide) rfl kf_Mo_26 (by decide +kernel)) ?_
  refine mk_cons (sn_iload_n (k := 3) E.1 (by decide +kernel) rfl) ?_
  refine mk_cons (sn_iald E.1 (by decide +kernel)) ?_
  refine mk_cons (sn_iast E.1 (by decide +kernel)) ?_
  refine mk_cons (sn_iinc (n := 1) E.1 (by decide +kernel) (by decide +kernel) (by decide +kernel)) ?_
  refine mk_cons (sn_goto (off := (-35)) E.1 (by decide +kernel) (by decide +kernel)) ?_
  refine mk_cons (sn_aload_n (k := 0) E.1 E.2.2.2.1 (by decide +kernel) rfl) ?_
  refine mk_cons (sn_getI (i := 207) (c0 := 0) E.1 cls_12 (by decide) rfl (by decide) kf_Mo_207 (by decide +kernel)) ?_
  refine mk_cons (sn_iret E.1 E.2.1 E.2.2.2.2.2.2.1 (by decide +kernel)) ?_
  exact mk_nil
set_option maxRecDepth 100000 in
set_option maxHeartbeats 4000000 in
theorem rw_Mo_fault : mk_Rows n_Mo_fault := by
  intro p l e R s m args below meth c D cy b sk lim cr Q n0 d E
  show ∀ q ∈ t_Mo_fault, _
  refine mk_cons (sn_iload_n (k := 1) E.1 (by decide +kernel) rfl) ?_
  refine mk_cons (sn_ifne (off := 10) E.1 (by decide +kernel) (by decide +kernel)) ?_
  refine mk_cons (sn_aload_n (k := 0) E.1 E.2.2.2.1 (by decide +kernel) rfl) ?_
  refine mk_cons (sn_getI (i := 210) (c0 := 0) E.1 cls_12 (by decide) rfl (by decide) kf_Mo_210 (by decide +kernel)) ?_
  refine mk_cons (sn_goto (off := 16) E.1 (by decide +kernel) (by decide +kernel)) ?_
  refine mk_cons (sn_iload_n (k := 1) E.1 (by decide +kernel) rfl) ?_
  refine mk_cons (sn_iconst (n := 1) E.1 (by decide +kernel) (by decide +kernel)) ?_
  refine mk_cons (sn_cne (off := 10) E.1 (by decide +kernel) (by decide +kernel)) ?_
  refine mk_cons (sn_aload_n (k := 0) E.1 E.2.2.2.1 (by decide +kernel) rfl) ?_
  refine mk_cons (sn_getI (i := 38) (c0 := 0) E.1 cls_12 (by decide) rfl (by decide) kf_Mo_38 (by decide +kernel)) ?_
  refine mk_cons (sn_goto (off := 4) E.1 (by decide +kernel) (by decide +kernel)) ?_
  refine mk_cons (sn_iconst (n := (-1)) E.1 (by decide +kernel) (by decide +kernel)) ?_
  refine mk_cons (sn_iret E.1 E.2.1 E.2.2.2.2.2.2.1 (by decide +kernel)) ?_
  exact mk_nil
set_option maxRecDepth 100000 in
set_option maxHeartbeats 4000000 in
theorem rw_Mo_both : mk_Rows n_Mo_both := by
  intro p l e R s m args below meth c D cy b sk lim cr Q n0 d E
  show ∀ q ∈ t_Mo_both, _
  refine mk_cons (sn_iload_n (k := 0) E.1 (by decide +kernel) rfl) ?_
  refine mk_cons (sn_tsw (dflt := 100) (lo := 13) (hi := 21) (offs := #[51, 55, 59, 100, 63, 74, 85, 100, 96]) (len := 51) E.1 (by decide +kernel) (by decide +kernel) (by decide +kernel) (by decide +kernel) (by decide +kernel) (by decide +kernel)) ?_
  refine mk_cons (sn_iload_n (k := 1) E.1 (by decide +kernel) rfl) ?_
  refine mk_cons (sn_iload_n (k := 2) E.1 (by decide +kernel) rfl) ?_
  refine mk_cons (sn_iadd E.1 (by decide +kernel)) ?_
  refine mk_cons (sn_iret E.1 E.2.1 E.2.2.2.2.2.2.1 (by decide +kernel)) ?_
  refine mk_cons (sn_iload_n (k := 1) E.1 (by decide +kernel) rfl) ?_
  refine mk_cons (sn_iload_n (k := 2) E.1 (by decide +kernel) rfl) ?_
  refine mk_cons (sn_isub E.1 (by decide +kernel)) ?_
  refine mk_cons (sn_iret E.1 E.2.1 E.2.2.2.2.2.2.1 (by decide +kernel)) ?_
  refine mk_cons (sn_iload_n (k := 1) E.1 (by decide +kernel) rfl) ?_
  refine mk_cons (sn_iload_n (k := 2) E.1 (by decide +kernel) rfl) ?_
  refine mk_cons (sn_imul E.1 (by decide +kernel)) ?_
  refine mk_cons (sn_iret E.1 E.2.1 E.2.2.2.2.2.2.1 (by decide +kernel)) ?_
  refine mk_cons (sn_iload_n (k := 1) E.1 (by decide +kernel) rfl) ?_
  refine mk_cons (sn_iload_n (k := 2) E.1 (by decide +kernel) rfl) ?_
  refine mk_cons (sn_cge (off := 7) E.1 (by decide +kernel) (by decide +kernel)) ?_
  refine mk_cons (sn_iconst (n := 1) E.1 (by decide +kernel) (by decide +kernel)) ?_
  refine mk_cons (sn_goto (off := 4) E.1 (by decide +kernel) (by decide +kernel)) ?_
  refine mk_cons (sn_iconst (n := 0) E.1 (by decide +kernel) (by decide +kernel)) ?_
  refine mk_cons (sn_iret E.1 E.2.1 E.2.2.2.2.2.2.1 (by decide +kernel)) ?_
  refine mk_cons (sn_iload_n (k := 1) E.1 (by decide +kernel) rfl) ?_
  refine mk_cons (sn_iload_n (k := 2) E.1 (by decide +kernel) rfl) ?_
  refine mk_cons (sn_cne (off := 7) E.1 (by decide +kernel) (by decide +kernel)) ?_
  refine mk_cons (sn_iconst (n := 1) E.1 (by decide +kernel) (by decide +kernel)) ?_
  refine mk_cons (sn_goto (off := 4) E.1 (by decide +kernel) (by decide +kernel)) ?_
  refine mk_cons (sn_iconst (n := 0) E.1 (by decide +kernel) (by decide +kernel)) ?_
  refine mk_cons (sn_iret E.1 E.2.1 E.2.2.2.2.2.2.1 (by decide +kernel)) ?_
  refine mk_cons (sn_iload_n (k := 1) E.1 (by decide +kernel) rfl) ?_
  refine mk_cons (sn_iload_n (k := 2) E.1 (by decide +kernel) rfl) ?_
  refine mk_cons (sn_cle (off := 7) E.1 (by decide +kernel) (by decide +kernel)) ?_
  refine mk_cons (sn_iconst (n := 1) E.1 (by decide +kernel) (by decide +kernel)) ?_
  refine mk_cons (sn_goto (off := 4) E.1 (by decide +kernel) (by decide +kernel)) ?_
  refine mk_cons (sn_iconst (n := 0) E.1 (by decide +kernel) (by decide +kernel)) ?_
  refine mk_cons (sn_iret E.1 E.2.1 E.2.2.2.2.2.2.1 (by decide +kernel)) ?_
  refine mk_cons (sn_iload_n (k := 1) E.1 (by decide +kernel) rfl) ?_
  refine mk_cons (sn_iload_n (k := 2) E.1 (by decide +kernel) rfl) ?_
  refine mk_cons (sn_iand E.1 (by decide +kernel)) ?_
  refine mk_cons (sn_iret E.1 E.2.1 E.2.2.2.2.2.2.1 (by decide +kernel)) ?_
  refine mk_cons (sn_iload_n (k := 1) E.1 (by decide +kernel) rfl) ?_
  refine mk_cons (sn_iload_n (k := 2) E.1 (by decide +kernel) rfl) ?_
  refine mk_cons (sn_ior E.1 (by decide +kernel)) ?_
  refine mk_cons (sn_iret E.1 E.2.1 E.2.2.2.2.2.2.1 (by decide +kernel)) ?_
  exact mk_nil
set_option maxRecDepth 100000 in
set_option maxHeartbeats 4000000 in
theorem rw_Mo_comesTo : mk_Rows n_Mo_comesTo := by
  intro p l e R s m args below meth c D cy b sk lim cr Q n0 d E
  show ∀ q ∈ t_Mo_comesTo, _
  refine mk_cons (sn_iconst (n := 0) E.1 (by decide +kernel) (by decide +kernel)) ?_
  refine mk_cons (sn_istore E.1 (by decide +kernel) (by decide +kernel)) ?_
  refine mk_cons (sn_iload_n (k := 2) E.1 (by decide +kernel) rfl) ?_
  refine mk_cons (sn_istore E.1 (by decide +kernel) (by decide +kernel)) ?_
  refine mk_cons (sn_iload E.1 (by decide +kernel)) ?_
  refine mk_cons (sn_iload_n (k := 3) E.1 (by decide +kernel) rfl) ?_
  refine mk_cons (sn_cge (off := 177) E.1 (by decide +kernel) (by decide +kernel)) ?_
  refine mk_cons (sn_aload_n (k := 0) E.1 E.2.2.2.1 (by decide +kernel) rfl) ?_
  refine mk_cons (sn_getR (i := 7) E.1 cls_12 (by decide) rfl kf_Mo_7 (by decide +kernel)) ?_
  refine mk_cons (sn_sipush (n := 2000) E.1 (by decide +kernel) (by decide +kernel)) ?_
  refine mk_cons (sn_sipush (n := 820) E.1 (by decide +kernel) (by decide +kernel)) ?_
  refine mk_cons (sn_iload_n (k := 1) E.1 (by decide +kernel) rfl) ?_
  refine mk_cons (sn_imul E.1 (by decide +kernel)) ?_
  refine mk_cons (sn_iadd E.1 (by decide +kernel)) ?_
  refine mk_cons (sn_iconst (n := 2) E.1 (by decide +kernel) (by decide +kernel)) ?_
  refine mk_cons (sn_iload E.1 (by decide +kernel)) ?_
  refine mk_cons (sn_imul E.1 (by decide +kernel)) ?_
  refine mk_cons (sn_iadd E.1 (by decide +kernel)) ?_
  refine mk_cons (sn_iald E.1 (by decide +kernel)) ?_
  refine mk_cons (sn_istore E.1 (by decide +kernel) (by decide +kernel)) ?_
  refine mk_cons (sn_aload_n (k := 0) E.1 E.2.2.2.1 (by decide +kernel) rfl) ?_
  refine mk_cons (sn_getR (i := 7) E.1 cls_12 (by decide) rfl kf_Mo_7 (by decide +kernel)) ?_
  refine mk_cons (sn_sipush (n := 2000) E.1 (by decide +kernel) (by decide +kernel)) ?_
  refine mk_cons (sn_sipush (n := 820) E.1 (by decide +kernel) (by decide +kernel)) ?_
  refine mk_cons (sn_iload_n (k := 1) E.1 (by decide +kernel) rfl) ?_
  refine mk_cons (sn_imul E.1 (by decide +kernel)) ?_
  refine mk_cons (sn_iadd E.1 (by decide +kernel)) ?_
  refine mk_cons (sn_iconst (n := 2) E.1 (by decide +kernel) (by decide +kernel)) ?_
  refine mk_cons (sn_iload E.1 (by decide +kernel)) ?_
  refine mk_cons (sn_imul E.1 (by decide +kernel)) ?_
  refine mk_cons (sn_iadd E.1 (by decide +kernel)) ?_
  refine mk_cons (sn_iconst (n := 1) E.1 (by decide +kernel) (by decide +kernel)) ?_
  refine mk_cons (sn_iadd E.1 (by decide +kernel)) ?_
  refine mk_cons (sn_iald E.1 (by decide +kernel)) ?_
  refine mk_cons (sn_istore E.1 (by decide +kernel) (by decide +kernel)) ?_
  refine mk_cons (sn_iload E.1 (by decide +kernel)) ?_
  refine mk_cons (sn_bipush (n := 13) E.1 (by decide +kernel) (by decide +kernel)) ?_
  refine mk_cons (sn_cge (off := 33) E.1 (by decide +kernel) (by decide +kernel)) ?_
  refine mk_cons (sn_aload_n (k := 0) E.1 E.2.2.2.1 (by decide +kernel) rfl) ?_
  refine mk_cons (sn_getR (i := 32) E.1 cls_12 (by decide) rfl kf_Mo_32 (by decide +kernel)) ?_
  refine mk_cons (sn_iload E.1 (by decide +kernel)) ?_
  refine mk_cons (sn_iload E.1 (by decide +kernel)) ?_
  refine mk_cons (sn_ifne (off := 8) E.1 (by decide +kernel) (by decide +kernel)) ?_
  refine mk_cons (sn_iload E.1 (by decide +kernel)) ?_
  refine mk_cons (sn_goto (off := 10) E.1 (by decide +kernel) (by decide +kernel)) ?_
  refine mk_cons (sn_aload_n (k := 0) E.1 E.2.2.2.1 (by decide +kernel) rfl) ?_
  refine mk_cons (sn_getR (i := 35) E.1 cls_12 (by decide) rfl kf_Mo_35 (by decide +kernel)) ?_
  refine mk_cons (sn_iload E.1 (by decide +kernel)) ?_
  refine mk_cons (sn_iald E.1 (by decide +kernel)) ?_
  refine mk_cons (sn_iast E.1 (by decide +kernel)) ?_
  refine mk_cons (sn_iinc (n := 1) E.1 (by decide +kernel) (by decide +kernel) (by decide +kernel)) ?_
  refine mk_cons (sn_goto (off := 90) E.1 (by decide +kernel) (by decide +kernel)) ?_
  refine mk_cons (sn_iload E.1 (by decide +kernel)) ?_
  refine mk_cons (sn_bipush (n := 16) E.1 (by decide +kernel) (by decide +kernel)) ?_
  refine mk_cons (sn_cne (off := 20) E.1 (by decide +kernel) (by decide +kernel)) ?_
  refine mk_cons (sn_aload_n (k := 0) E.1 E.2.2.2.1 (by decide +kernel) rfl) ?_
  refine mk_cons (sn_getR (i := 32) E.1 cls_12 (by decide) rfl kf_Mo_32 (by decide +kernel)) ?_
  refine mk_cons (sn_iload E.1 (by decide +kernel)) ?_
  refine mk_cons (sn_iconst (n := 1) E.1 (by decide +kernel) (by decide +kernel)) ?_
  refine mk_cons (sn_isub E.1 (by decide +kernel)) ?_
  refine mk_cons (sn_dup2 E.1 (by decide +kernel)) ?_
  refine mk_cons (sn_iald E.1 (by decide +kernel)) ?_
  refine mk_cons (sn_iload E.1 (by decide +kernel)) ?_
  refine mk_cons (sn_idiv E.1 (by decide +kernel)) ?_
  refine mk_cons (sn_iast E.1 (by decide +kernel)) ?_
  refine mk_cons (sn_goto (off := 66) E.1 (by decide +kernel) (by decide +kernel)) ?_
  refine mk_cons (sn_iload E.1 (by decide +kernel)) ?_
  refine mk_cons (sn_bipush (n := 20) E.1 (by decide +kernel) (by decide +kernel)) ?_
  refine mk_cons (sn_cne (off := 26) E.1 (by decide +kernel) (by decide +kernel)) ?_
  refine mk_cons (sn_aload_n (k := 0) E.1 E.2.2.2.1 (by decide +kernel) rfl) ?_
  refine mk_cons (sn_getR (i := 32) E.1 cls_12 (by decide) rfl kf_Mo_32 (by decide +kernel)) ?_
  refine mk_cons (sn_iload E.1 (by decide +kernel)) ?_
  refine mk_cons (sn_iconst (n := 1) E.1 (by decide +kernel) (by decide +kernel)) ?_
  refine mk_cons (sn_isub E.1 (by decide +kernel)) ?_
  refine mk_cons (sn_iconst (n := 1) E.1 (by decide +kernel) (by decide +kernel)) ?_
  refine mk_cons (sn_aload_n (k := 0) E.1 E.2.2.2.1 (by decide +kernel) rfl) ?_
  refine mk_cons (sn_getR (i := 32) E.1 cls_12 (by decide) rfl kf_Mo_32 (by decide +kernel)) ?_
  refine mk_cons (sn_iload E.1 (by decide +kernel)) ?_
  refine mk_cons (sn_iconst (n := 1) E.1 (by decide +kernel) (by decide +kernel)) ?_
  refine mk_cons (sn_isub E.1 (by decide +kernel)) ?_
  refine mk_cons (sn_iald E.1 (by decide +kernel)) ?_
  refine mk_cons (sn_isub E.1 (by decide +kernel)) ?_
  refine mk_cons (sn_iast E.1 (by decide +kernel)) ?_
  refine mk_cons (sn_goto (off := 36) E.1 (by decide +kernel) (by decide +kernel)) ?_
  refine mk_cons (sn_iinc (n := (-1)) E.1 (by decide +kernel) (by decide +kernel) (by decide +kernel)) ?_
  refine mk_cons (sn_aload_n (k := 0) E.1 E.2.2.2.1 (by decide +kernel) rfl) ?_
  refine mk_cons (sn_getR (i := 32) E.1 cls_12 (by decide) rfl kf_Mo_32 (by decide +kernel)) ?_
  refine mk_cons (sn_iload E.1 (by decide +kernel)) ?_
  refine mk_cons (sn_iconst (n := 1) E.1 (by decide +kernel) (by decide +kernel)) ?_
  refine mk_cons (sn_isub E.1 (by decide +kernel)) ?_
  refine mk_cons (sn_iload E.1 (by decide +kernel)) ?_
  refine mk_cons (sn_aload_n (k := 0) E.1 E.2.2.2.1 (by decide +kernel) rfl) ?_
  refine mk_cons (sn_getR (i := 32) E.1 cls_12 (by decide) rfl kf_Mo_32 (by decide +kernel)) ?_
  refine mk_cons (sn_iload E.1 (by decide +kernel)) ?_
  refine mk_cons (sn_iconst (n := 1) E.1 (by decide +kernel) (by decide +kernel)) ?_
  refine mk_cons (sn_isub E.1 (by decide +kernel)) ?_
  refine mk_cons (sn_iald E.1 (by decide +kernel)) ?_
  refine mk_cons (sn_aload_n (k := 0) E.1 E.2.2.2.1 (by decide +kernel) rfl) ?_
  refine mk_cons (sn_getR (i := 32) E.1 cls_12 (by decide) rfl kf_Mo_32 (by decide +kernel)) ?_
  refine mk_cons (sn_iload E.1 (by decide +kernel)) ?_
  refine mk_cons (sn_iald E.1 (by decide +kernel)) ?_
  refine mk_cons (sn_callS (i := 216) E.1 E.2.2.2.1 E.2.2.2.2.1 E.2.2.2.2.2.1 (E.2.2.2.2.2.2.2 n_Mo_both) ok_Mo_both km_Mo_216 ks_Mo_both (by decide +kernel)) ?_
  refine mk_cons (sn_iast E.1 (by decide +kernel)) ?_
  refine mk_cons (sn_iinc (n := 1) E.1 (by decide +kernel) (by decide +kernel) (by decide +kernel)) ?_
  refine mk_cons (sn_goto (off := (-177)) E.1 (by decide +kernel) (by decide +kernel)) ?_
  refine mk_cons (sn_aload_n (k := 0) E.1 E.2.2.2.1 (by decide +kernel) rfl) ?_
  refine mk_cons (sn_getR (i := 32) E.1 cls_12 (by decide) rfl kf_Mo_32 (by decide +kernel)) ?_
  refine mk_cons (sn_iconst (n := 0) E.1 (by decide +kernel) (by decide +kernel)) ?_
  refine mk_cons (sn_iald E.1 (by decide +kernel)) ?_
  refine mk_cons (sn_iret E.1 E.2.1 E.2.2.2.2.2.2.1 (by decide +kernel)) ?_
  exact mk_nil
set_option maxRecDepth 100000 in
set_option maxHeartbeats 4000000 in
theorem rw_Mo_puts : mk_Rows n_Mo_puts := by
  intro p l e R s m args below meth c D cy b sk lim cr Q n0 d E
  show ∀ q ∈ t_Mo_puts, _
  refine mk_cons (sn_aload_n (k := 0) E.1 E.2.2.2.1 (by decide +kernel) rfl) ?_
  refine mk_cons (sn_getI (i := 220) (c0 := 0) E.1 cls_12 (by decide) rfl (by decide) kf_Mo_220 (by decide +kernel)) ?_
  refine mk_cons (sn_bipush (n := 36) E.1 (by decide +kernel) (by decide +kernel)) ?_
  refine mk_cons (sn_cne (off := 4) E.1 (by decide +kernel) (by decide +kernel)) ?_
  refine mk_cons (sn_ret E.1 E.2.1 E.2.2.2.2.2.2.1 (by decide +kernel)) ?_
  refine mk_cons (sn_aload_n (k := 0) E.1 E.2.2.2.1 (by decide +kernel) rfl) ?_
  refine mk_cons (sn_getR (i := 45) E.1 cls_12 (by decide) rfl kf_Mo_45 (by decide +kernel)) ?_
  refine mk_cons (sn_aload_n (k := 0) E.1 E.2.2.2.1 (by decide +kernel) rfl) ?_
  refine mk_cons (sn_getI (i := 220) (c0 := 0) E.1 cls_12 (by decide) rfl (by decide) kf_Mo_220 (by decide +kernel)) ?_
  refine mk_cons (sn_iload_n (k := 1) E.1 (by decide +kernel) rfl) ?_
  refine mk_cons (sn_iast E.1 (by decide +kernel)) ?_
  refine mk_cons (sn_aload_n (k := 0) E.1 E.2.2.2.1 (by decide +kernel) rfl) ?_
  refine mk_cons (sn_dup E.1 (by decide +kernel)) ?_
  refine mk_cons (sn_getI (i := 220) (c0 := 0) E.1 cls_12 (by decide) rfl (by decide) kf_Mo_220 (by decide +kernel)) ?_
  refine mk_cons (sn_iconst (n := 1) E.1 (by decide +kernel) (by decide +kernel)) ?_
  refine mk_cons (sn_iadd E.1 (by decide +kernel)) ?_
  refine mk_cons (sn_putI (i := 220) E.1 cls_12 (by decide) rfl rfl rfl kf_Mo_220 (by decide +kernel)) ?_
  refine mk_cons (sn_ret E.1 E.2.1 E.2.2.2.2.2.2.1 (by decide +kernel)) ?_
  exact mk_nil
set_option maxRecDepth 100000 in
set_option maxHeartbeats 4000000 in
theorem rw_Mo_ruleFor : mk_Rows n_Mo_ruleFor := by
  intro p l e R s m args below meth c D cy b sk lim cr Q n0 d E
  show ∀ q ∈ t_Mo_ruleFor, _
  refine mk_cons (sn_iconst (n := 0) E.1 (by decide +kernel) (by decide +kernel)) ?_
  refine mk_cons (sn_istore_n (k := 3) E.1 (by decide +kernel) rfl (by decide +kernel)) ?_
  refine mk_cons (sn_iload_n (k := 3) E.1 (by decide +kernel) rfl) ?_
  refine mk_cons (sn_aload_n (k := 0) E.1 E.2.2.2.1 (by decide +kernel) rfl) ?_
  refine mk_cons (sn_getR (i := 7) E.1 cls_12 (by decide) rfl kf_Mo_7 (by decide +kernel)) ?_
  refine mk_cons (sn_sipush (n := 1670) E.1 (by decide +kernel) (by decide +kernel)) ?_
  refine mk_cons (sn_iload_n (k := 1) E.1 (by decide +kernel) rfl) ?_
  refine mk_cons (sn_iadd E.1 (by decide +kernel)) ?_
  refine mk_cons (sn_iald E.1 (by decide +kernel)) ?_
  refine mk_cons (sn_cge (off := 91) E.1 (by decide +kernel) (by decide +kernel)) ?_
  refine mk_cons (sn_bipush (n := 16) E.1 (by decide +kernel) (by decide +kernel)) ?_
  refine mk_cons (sn_iload_n (k := 1) E.1 (by decide +kernel) rfl) ?_
  refine mk_cons (sn_imul E.1 (by decide +kernel)) ?_
  refine mk_cons (sn_iload_n (k := 3) E.1 (by decide +kernel) rfl) ?_
  refine mk_cons (sn_iadd E.1 (by decide +kernel)) ?_
  refine mk_cons (sn_istore E.1 (by decide +kernel) (by decide +kernel)) ?_
  refine mk_cons (sn_aload_n (k := 0) E.1 E.2.2.2.1 (by decide +kernel) rfl) ?_
  refine mk_cons (sn_getR (i := 7) E.1 cls_12 (by decide) rfl kf_Mo_7 (by decide +kernel)) ?_
  refine mk_cons (sn_sipush (n := 1675) E.1 (by decide +kernel) (by decide +kernel)) ?_
  refine mk_cons (sn_iload E.1 (by decide +kernel)) ?_
  refine mk_cons (sn_iadd E.1 (by decide +kernel)) ?_
  refine mk_cons (sn_iald E.1 (by decide +kernel)) ?_
  refine mk_cons (sn_iload_n (k := 2) E.1 (by decide +kernel) rfl) ?_
  refine mk_cons (sn_cne (off := 62) E.1 (by decide +kernel) (by decide +kernel)) ?_
  refine mk_cons (sn_aload_n (k := 0) E.1 E.2.2.2.1 (by decide +kernel) rfl) ?_
  refine mk_cons (sn_getR (i := 7) E.1 cls_12 (by decide) rfl kf_Mo_7 (by decide +kernel)) ?_
  refine mk_cons (sn_sipush (n := 1935) E.1 (by decide +kernel) (by decide +kernel)) ?_
  refine mk_cons (sn_iload E.1 (by decide +kernel)) ?_
  refine mk_cons (sn_iadd E.1 (by decide +kernel)) ?_
  refine mk_cons (sn_iald E.1 (by decide +kernel)) ?_
  refine mk_cons (sn_aload_n (k := 0) E.1 E.2.2.2.1 (by decide +kernel) rfl) ?_
  refine mk_cons (sn_getR (i := 7) E.1 cls_12 (by decide) rfl kf_Mo_7 (by decide +kernel)) ?_
  refine mk_cons (sn_sipush (n := 1870) E.1 (by decide +kernel) (by decide +kernel)) ?_
  refine mk_cons (sn_iload E.1 (by decide +kernel)) ?_
  refine mk_cons (sn_iadd E.1 (by decide +kernel)) ?_
  refine mk_cons (sn_iald E.1 (by decide +kernel)) ?_
  refine mk_cons (sn_ceq (off := 34) E.1 (by decide +kernel) (by decide +kernel)) ?_
  refine mk_cons (sn_aload_n (k := 0) E.1 E.2.2.2.1 (by decide +kernel) rfl) ?_
  refine mk_cons (sn_iload_n (k := 1) E.1 (by decide +kernel) rfl) ?_
  refine mk_cons (sn_aload_n (k := 0) E.1 E.2.2.2.1 (by decide +kernel) rfl) ?_
  refine mk_cons (sn_getR (i := 7) E.1 cls_12 (by decide) rfl kf_Mo_7 (by decide +kernel)) ?_
  refine mk_cons (sn_sipush (n := 1870) E.1 (by decide +kernel) (by decide +kernel)) ?_
  refine mk_cons (sn_iload E.1 (by decide +kernel)) ?_
  refine mk_cons (sn_iadd E.1 (by decide +kernel)) ?_
  refine mk_cons (sn_iald E.1 (by decide +kernel)) ?_
  refine mk_cons (sn_aload_n (k := 0) E.1 E.2.2.2.1 (by decide +kernel) rfl) ?_
  refine mk_cons (sn_getR (i := 7) E.1 cls_12 (by decide) rfl kf_Mo_7 (by decide +kernel)) ?_
  refine mk_cons (sn_sipush (n := 1935) E.1 (by decide +kernel) (by decide +kernel)) ?_
  refine mk_cons (sn_iload E.1 (by decide +kernel)) ?_
  refine mk_cons (sn_iadd E.1 (by decide +kernel)) ?_
  refine mk_cons (sn_iald E.1 (by decide +kernel)) ?_
  refine mk_cons (sn_callV (i := 223) E.1 E.2.2.2.1 E.2.2.2.2.1 E.2.2.2.2.2.1 (E.2.2.2.2.2.2.2 n_Mo_comesTo) ok_Mo_comesTo cls_12 rfl km_Mo_223 kn_Mo_comesTo kv_Mo_comesTo (by decide +kernel)) ?_
  refine mk_cons (sn_iconst (n := 1) E.1 (by decide +kernel) (by decide +kernel)) ?_
  refine mk_cons (sn_cne (off := 6) E.1 (by decide +kernel) (by decide +kernel)) ?_
  refine mk_cons (sn_iload E.1 (by decide +kernel)) ?_
  refine mk_cons (sn_iret E.1 E.2.1 E.2.2.2.2.2.2.1 (by decide +kernel)) ?_
  refine mk_cons (sn_iinc (n := 1) E.1 (by decide +kernel) (by decide +kernel) (by decide +kernel)) ?_
  refine mk_cons (sn_goto (off := (-99)) E.1 (by decide +kernel) (by decide +kernel)) ?_
  refine mk_cons (sn_iconst (n := (-1)) E.1 (by decide +kernel) (by decide +kernel)) ?_
  refine mk_cons (sn_iret E.1 E.2.1 E.2.2.2.2.2.2.1 (by decide +kernel)) ?_
  exact mk_nil
