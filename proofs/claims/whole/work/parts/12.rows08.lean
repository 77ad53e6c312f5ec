set_option maxRecDepth 100000 in
set_option maxHeartbeats 4000000 in
theorem rw_Mo_end : mk_Rows n_Mo_end := by
  intro p l e R s m args below meth c D cy b sk lim cr Q n0 d E
  show ∀ q ∈ t_Mo_end, _
  refine mk_cons (sn_iload_n (k := 1) E.1 (by decide +kernel) rfl) ?_
  refine mk_cons (sn_iconst (n := 0) E.1 (by decide +kernel) (by decide +kernel)) ?_
  refine mk_cons (sn_aload_n (k := 0) E.1 E.2.2.2.1 (by decide +kernel) rfl) ?_
  refine mk_cons (sn_getI (i := 92) (c0 := 0) E.1 cls_12 (by decide) rfl (by decide) kf_Mo_92 (by decide +kernel)) ?_
  refine mk_cons (sn_callS (i := 72) E.1 E.2.2.2.1 E.2.2.2.2.1 E.2.2.2.2.2.1 (E.2.2.2.2.2.2.2 n_Mo_isIn) ok_Mo_isIn km_Mo_72 ks_Mo_isIn (by decide +kernel)) ?_
  refine mk_cons (sn_ifne (off := 5) E.1 (by decide +kernel) (by decide +kernel)) ?_
  refine mk_cons (sn_iconst (n := 0) E.1 (by decide +kernel) (by decide +kernel)) ?_
  refine mk_cons (sn_zret E.1 E.2.1 E.2.2.2.2.2.2.1 (by decide +kernel)) ?_
  refine mk_cons (sn_aload_n (k := 0) E.1 E.2.2.2.1 (by decide +kernel) rfl) ?_
  refine mk_cons (sn_iload_n (k := 1) E.1 (by decide +kernel) rfl) ?_
  refine mk_cons (sn_putI (i := 92) E.1 cls_12 (by decide) rfl rfl rfl kf_Mo_92 (by decide +kernel)) ?_
  refine mk_cons (sn_iconst (n := 1) E.1 (by decide +kernel) (by decide +kernel)) ?_
  refine mk_cons (sn_zret E.1 E.2.1 E.2.2.2.2.2.2.1 (by decide +kernel)) ?_
  exact mk_nil
set_option maxRecDepth 100000 in
set_option maxHeartbeats 4000000 in
theorem rw_Mo_see : mk_Rows n_Mo_see := by
  intro p l e R s m args below meth c D cy b sk lim cr Q n0 d E
  show ∀ q ∈ t_Mo_see, _
  refine mk_cons (sn_iload_n (k := 1) E.1 (by decide +kernel) rfl) ?_
  refine mk_cons (sn_aload_n (k := 0) E.1 E.2.2.2.1 (by decide +kernel) rfl) ?_
  refine mk_cons (sn_getI (i := 92) (c0 := 0) E.1 cls_12 (by decide) rfl (by decide) kf_Mo_92 (by decide +kernel)) ?_
  refine mk_cons (sn_cge (off := 12) E.1 (by decide +kernel) (by decide +kernel)) ?_
  refine mk_cons (sn_aload_n (k := 0) E.1 E.2.2.2.1 (by decide +kernel) rfl) ?_
  refine mk_cons (sn_getR (i := 29) E.1 cls_12 (by decide) rfl kf_Mo_29 (by decide +kernel)) ?_
  refine mk_cons (sn_iload_n (k := 1) E.1 (by decide +kernel) rfl) ?_
  refine mk_cons (sn_iald E.1 (by decide +kernel)) ?_
  refine mk_cons (sn_goto (off := 4) E.1 (by decide +kernel) (by decide +kernel)) ?_
  refine mk_cons (sn_iconst (n := (-1)) E.1 (by decide +kernel) (by decide +kernel)) ?_
  refine mk_cons (sn_iret E.1 E.2.1 E.2.2.2.2.2.2.1 (by decide +kernel)) ?_
  exact mk_nil
set_option maxRecDepth 100000 in
set_option maxHeartbeats 4000000 in
theorem rw_Mo_isLetter : mk_Rows n_Mo_isLetter := by
  intro p l e R s m args below meth c D cy b sk lim cr Q n0 d E
  show ∀ q ∈ t_Mo_isLetter, _
  refine mk_cons (sn_iload_n (k := 0) E.1 (by decide +kernel) rfl) ?_
  refine mk_cons (sn_bipush (n := 97) E.1 (by decide +kernel) (by decide +kernel)) ?_
  refine mk_cons (sn_bipush (n := 122) E.1 (by decide +kernel) (by decide +kernel)) ?_
  refine mk_cons (sn_callS (i := 72) E.1 E.2.2.2.1 E.2.2.2.2.1 E.2.2.2.2.2.1 (E.2.2.2.2.2.2.2 n_Mo_isIn) ok_Mo_isIn km_Mo_72 ks_Mo_isIn (by decide +kernel)) ?_
  refine mk_cons (sn_ifne (off := 14) E.1 (by decide +kernel) (by decide +kernel)) ?_
  refine mk_cons (sn_iload_n (k := 0) E.1 (by decide +kernel) rfl) ?_
  refine mk_cons (sn_bipush (n := 65) E.1 (by decide +kernel) (by decide +kernel)) ?_
  refine mk_cons (sn_bipush (n := 90) E.1 (by decide +kernel) (by decide +kernel)) ?_
  refine mk_cons (sn_callS (i := 72) E.1 E.2.2.2.1 E.2.2.2.2.1 E.2.2.2.2.2.1 (E.2.2.2.2.2.2.2 n_Mo_isIn) ok_Mo_isIn km_Mo_72 ks_Mo_isIn (by decide +kernel)) ?_
  refine mk_cons (sn_ifeq (off := 7) E.1 (by decide +kernel) (by decide +kernel)) ?_
  refine mk_cons (sn_iconst (n := 1) E.1 (by decide +kernel) (by decide +kernel)) ?_
  refine mk_cons (sn_goto (off := 4) E.1 (by decide +kernel) (by decide +kernel)) ?_
  refine mk_cons (sn_iconst (n := 0) E.1 (by decide +kernel) (by decide +kernel)) ?_
  refine mk_cons (sn_zret E.1 E.2.1 E.2.2.2.2.2.2.1 (by decide +kernel)) ?_
  exact mk_nil
set_option maxRecDepth 100000 in
set_option maxHeartbeats 4000000 in
theorem rw_Mo_isDigit : mk_Rows n_Mo_isDigit := by
  intro p l e R s m args below meth c D cy b sk lim cr Q n0 d E
  show ∀ q ∈ t_Mo_isDigit, _
  refine mk_cons (sn_iload_n (k := 0) E.1 (by decide +kernel) rfl) ?_
  refine mk_cons (sn_bipush (n := 48) E.1 (by decide +kernel) (by decide +kernel)) ?_
  refine mk_cons (sn_bipush (n := 57) E.1 (by decide +kernel) (by decide +kernel)) ?_
  refine mk_cons (sn_callS (i := 72) E.1 E.2.2.2.1 E.2.2.2.2.1 E.2.2.2.2.2.1 (E.2.2.2.2.2.2.2 n_Mo_isIn) ok_Mo_isIn km_Mo_72 ks_Mo_isIn (by decide +kernel)) ?_
  refine mk_cons (sn_zret E.1 E.2.1 E.2.2.2.2.2.2.1 (by decide +kernel)) ?_
  exact mk_nil
set_option maxRecDepth 100000 in
set_option maxHeartbeats 4000000 in
theorem rw_Mo_is : mk_Rows n_Mo_is := by
  intro p l e R s m args below meth c D cy b sk lim cr Q n0 d E
  show ∀ q ∈ t_Mo_is, _
  refine mk_cons (sn_aload_n (k := 0) E.1 E.2.2.2.1 (by decide +kernel) rfl) ?_
  refine mk_cons (sn_getI (i := 95) (c0 := 0) E.1 cls_12 (by decide) rfl (by decide) kf_Mo_95 (by decide +kernel)) ?_
  refine mk_cons (sn_aload_n (k := 0) E.1 E.2.2.2.1 (by decide +kernel) rfl) ?_
  refine mk_cons (sn_getI (i := 98) (c0 := 0) E.1 cls_12 (by decide) rfl (by decide) kf_Mo_98 (by decide +kernel)) ?_
  refine mk_cons (sn_isub E.1 (by decide +kernel)) ?_
  refine mk_cons (sn_aload_n (k := 1) E.1 E.2.2.2.1 (by decide +kernel) rfl) ?_
  refine mk_cons (sn_callT (i := 101) E.1 E.2.2.2.1 E.2.2.2.2.1 E.2.2.2.2.2.1 (E.2.2.2.2.2.2.2 n_Str_length) ok_Str_length rfl km_Mo_101 kn_Str_length kv_Str_length (by decide +kernel)) ?_
  refine mk_cons (sn_cne (off := 7) E.1 (by decide +kernel) (by decide +kernel)) ?_
  refine mk_cons (sn_iconst (n := 1) E.1 (by decide +kernel) (by decide +kernel)) ?_
  refine mk_cons (sn_goto (off := 4) E.1 (by decide +kernel) (by decide +kernel)) ?_
  refine mk_cons (sn_iconst (n := 0) E.1 (by decide +kernel) (by decide +kernel)) ?_
  refine mk_cons (sn_istore_n (k := 2) E.1 (by decide +kernel) rfl (by decide +kernel)) ?_
  refine mk_cons (sn_iconst (n := 0) E.1 (by decide +kernel) (by decide +kernel)) ?_
  refine mk_cons (sn_istore_n (k := 3) E.1 (by decide +kernel) rfl (by decide +kernel)) ?_
  refine mk_cons (sn_iload_n (k := 3) E.1 (by decide +kernel) rfl) ?_
  refine mk_cons (sn_aload_n (k := 1) E.1 E.2.2.2.1 (by decide +kernel) rfl) ?_
  refine mk_cons (sn_callT (i := 101) E.1 E.2.2.2.1 E.2.2.2.2.1 E.2.2.2.2.2.1 (E.2.2.2.2.2.2.2 n_Str_length) ok_Str_length rfl km_Mo_101 kn_Str_length kv_Str_length (by decide +kernel)) ?_
  refine mk_cons (sn_cge (off := 38) E.1 (by decide +kernel) (by decide +kernel)) ?_
  refine mk_cons (sn_iload_n (k := 2) E.1 (by decide +kernel) rfl) ?_
  refine mk_cons (sn_ifeq (off := 34) E.1 (by decide +kernel) (by decide +kernel)) ?_
  refine mk_cons (sn_aload_n (k := 0) E.1 E.2.2.2.1 (by decide +kernel) rfl) ?_
  refine mk_cons (sn_getR (i := 29) E.1 cls_12 (by decide) rfl kf_Mo_29 (by decide +kernel)) ?_
  refine mk_cons (sn_aload_n (k := 0) E.1 E.2.2.2.1 (by decide +kernel) rfl) ?_
  refine mk_cons (sn_getI (i := 98) (c0 := 0) E.1 cls_12 (by decide) rfl (by decide) kf_Mo_98 (by decide +kernel)) ?_
  refine mk_cons (sn_iload_n (k := 3) E.1 (by decide +kernel) rfl) ?_
  refine mk_cons (sn_iadd E.1 (by decide +kernel)) ?_
  refine mk_cons (sn_iald E.1 (by decide +kernel)) ?_
  refine mk_cons (sn_aload_n (k := 1) E.1 E.2.2.2.1 (by decide +kernel) rfl) ?_
  refine mk_cons (sn_iload_n (k := 3) E.1 (by decide +kernel) rfl) ?_
  refine mk_cons (sn_callT (i := 107) E.1 E.2.2.2.1 E.2.2.2.2.1 E.2.2.2.2.2.1 (E.2.2.2.2.2.2.2 n_Str_charAt) ok_Str_charAt rfl km_Mo_107 kn_Str_charAt kv_Str_charAt (by decide +kernel)) ?_
  refine mk_cons (sn_cne (off := 7) E.1 (by decide +kernel) (by decide +kernel)) ?_
  refine mk_cons (sn_iconst (n := 1) E.1 (by decide +kernel) (by decide +kernel)) ?_
  refine mk_cons (sn_goto (off := 4) E.1 (by decide +kernel) (by decide +kernel)) ?_
  refine mk_cons (sn_iconst (n := 0) E.1 (by decide +kernel) (by decide +kernel)) ?_
  refine mk_cons (sn_istore_n (k := 2) E.1 (by decide +kernel) rfl (by decide +kernel)) ?_
  refine mk_cons (sn_iinc (n := 1) E.1 (by decide +kernel) (by decide +kernel) (by decide +kernel)) ?_
  refine mk_cons (sn_goto (off := (-40)) E.1 (by decide +kernel) (by decide +kernel)) ?_
  refine mk_cons (sn_iload_n (k := 2) E.1 (by decide +kernel) rfl) ?_
  refine mk_cons (sn_zret E.1 E.2.1 E.2.2.2.2.2.2.1 (by decide +kernel)) ?_
  exact mk_nil
set_option maxRecDepth 100000 in
set_option maxHeartbeats 4000000 in
theorem rw_Mo_nameWord : mk_Rows n_Mo_nameWord := by
  intro p l e R s m args below meth c D cy b sk lim cr Q n0 d E
  show ∀ q ∈ t_Mo_nameWord, _
  refine mk_cons (sn_aload_n (k := 0) E.1 E.2.2.2.1 (by decide +kernel) rfl) ?_
  refine mk_cons (sn_ldcS (i := 111) (j := 8) (tx := "day") E.1 (by decide) (E.2.2.2.2.1.1 8 ("LostSevensModel", 111, "day") rfl) (by decide +kernel)) ?_
  refine mk_cons (sn_callV (i := 113) E.1 E.2.2.2.1 E.2.2.2.2.1 E.2.2.2.2.2.1 (E.2.2.2.2.2.2.2 n_Mo_is) ok_Mo_is cls_12 rfl km_Mo_113 kn_Mo_is kv_Mo_is (by decide +kernel)) ?_
  refine mk_cons (sn_ifeq (off := 6) E.1 (by decide +kernel) (by decide +kernel)) ?_
  refine mk_cons (sn_bipush (n := 41) E.1 (by decide +kernel) (by decide +kernel)) ?_
  refine mk_cons (sn_iret E.1 E.2.1 E.2.2.2.2.2.2.1 (by decide +kernel)) ?_
  refine mk_cons (sn_aload_n (k := 0) E.1 E.2.2.2.1 (by decide +kernel) rfl) ?_
  refine mk_cons (sn_ldcS (i := 117) (j := 9) (tx := "frost") E.1 (by decide) (E.2.2.2.2.1.1 9 ("LostSevensModel", 117, "frost") rfl) (by decide +kernel)) ?_
  refine mk_cons (sn_callV (i := 113) E.1 E.2.2.2.1 E.2.2.2.2.1 E.2.2.2.2.2.1 (E.2.2.2.2.2.2.2 n_Mo_is) ok_Mo_is cls_12 rfl km_Mo_113 kn_Mo_is kv_Mo_is (by decide +kernel)) ?_
  refine mk_cons (sn_ifeq (off := 6) E.1 (by decide +kernel) (by decide +kernel)) ?_
  refine mk_cons (sn_bipush (n := 42) E.1 (by decide +kernel) (by decide +kernel)) ?_
  refine mk_cons (sn_iret E.1 E.2.1 E.2.2.2.2.2.2.1 (by decide +kernel)) ?_
  refine mk_cons (sn_aload_n (k := 0) E.1 E.2.2.2.1 (by decide +kernel) rfl) ?_
  refine mk_cons (sn_ldcS (i := 119) (j := 10) (tx := "place") E.1 (by decide) (E.2.2.2.2.1.1 10 ("LostSevensModel", 119, "place") rfl) (by decide +kernel)) ?_
  refine mk_cons (sn_callV (i := 113) E.1 E.2.2.2.1 E.2.2.2.2.1 E.2.2.2.2.2.1 (E.2.2.2.2.2.2.2 n_Mo_is) ok_Mo_is cls_12 rfl km_Mo_113 kn_Mo_is kv_Mo_is (by decide +kernel)) ?_
  refine mk_cons (sn_ifeq (off := 6) E.1 (by decide +kernel) (by decide +kernel)) ?_
  refine mk_cons (sn_bipush (n := 43) E.1 (by decide +kernel) (by decide +kernel)) ?_
  refine mk_cons (sn_iret E.1 E.2.1 E.2.2.2.2.2.2.1 (by decide +kernel)) ?_
  refine mk_cons (sn_aload_n (k := 0) E.1 E.2.2.2.1 (by decide +kernel) rfl) ?_
  refine mk_cons (sn_ldcS (i := 121) (j := 11) (tx := "length") E.1 (by decide) (E.2.2.2.2.1.1 11 ("LostSevensModel", 121, "length") rfl) (by decide +kernel)) ?_
  refine mk_cons (sn_callV (i := 113) E.1 E.2.2.2.1 E.2.2.2.2.1 E.2.2.2.2.2.1 (E.2.2.2.2.2.2.2 n_Mo_is) ok_Mo_is cls_12 rfl km_Mo_113 kn_Mo_is kv_Mo_is (by decide +kernel)) ?_
  refine mk_cons (sn_ifeq (off := 6) E.1 (by decide +kernel) (by decide +kernel)) ?_
  refine mk_cons (sn_bipush (n := 44) E.1 (by decide +kernel) (by decide +kernel)) ?_
  refine mk_cons (sn_iret E.1 E.2.1 E.2.2.2.2.2.2.1 (by decide +kernel)) ?_
  refine mk_cons (sn_aload_n (k := 0) E.1 E.2.2.2.1 (by decide +kernel) rfl) ?_
  refine mk_cons (sn_ldcS (i := 122) (j := 12) (tx := "left") E.1 (by decide) (E.2.2.2.2.1.1 12 ("LostSevensModel", 122, "left") rfl) (by decide +kernel)) ?_
  refine mk_cons (sn_callV (i := 113) E.1 E.2.2.2.1 E.2.2.2.2.1 E.2.2.2.2.2.1 (E.2.2.2.2.2.2.2 n_Mo_is) ok_Mo_is cls_12 rfl km_Mo_113 kn_Mo_is kv_Mo_is (by decide +kernel)) ?_
  refine mk_cons (sn_ifeq (off := 6) E.1 (by decide +kernel) (by decide +kernel)) ?_
  refine mk_cons (sn_bipush (n := 45) E.1 (by decide +kernel) (by decide +kernel)) ?_
  refine mk_cons (sn_iret E.1 E.2.1 E.2.2.2.2.2.2.1 (by decide +kernel)) ?_
  refine mk_cons (sn_aload_n (k := 0) E.1 E.2.2.2.1 (by decide +kernel) rfl) ?_
  refine mk_cons (sn_ldcS (i := 124) (j := 13) (tx := "right") E.1 (by decide) (E.2.2.2.2.1.1 13 ("LostSevensModel", 124, "right") rfl) (by decide +kernel)) ?_
  refine mk_cons (sn_callV (i := 113) E.1 E.2.2.2.1 E.2.2.2.2.1 E.2.2.2.2.2.1 (E.2.2.2.2.2.2.2 n_Mo_is) ok_Mo_is cls_12 rfl km_Mo_113 kn_Mo_is kv_Mo_is (by decide +kernel)) ?_
  refine mk_cons (sn_ifeq (off := 8) E.1 (by decide +kernel) (by decide +kernel)) ?_
  refine mk_cons (sn_bipush (n := 46) E.1 (by decide +kernel) (by decide +kernel)) ?_
  refine mk_cons (sn_goto (off := 4) E.1 (by decide +kernel) (by decide +kernel)) ?_
  refine mk_cons (sn_iconst (n := 1) E.1 (by decide +kernel) (by decide +kernel)) ?_
  refine mk_cons (sn_iret E.1 E.2.1 E.2.2.2.2.2.2.1 (by decide +kernel)) ?_
  exact mk_nil
set_option maxRecDepth 100000 in
set_option maxHeartbeats 4000000 in
theorem rw_Mo_word : mk_Rows n_Mo_word := by
  intro p l e R s m args below meth c D cy b sk lim cr Q n0 d E
  show ∀ q ∈ t_Mo_word, _
  refine mk_cons (sn_aload_n (k := 0) E.1 E.2.2.2.1 (by decide +kernel) rfl) ?_
  refine mk_cons (sn_ldcS (i := 126) (j := 2) (tx := "when") E.1 (by decide) (E.2.2.2.2.1.1 2 ("LostSevensModel", 126, "when") rfl) (by decide +kernel)) ?_
  refine mk_cons (sn_callV (i := 113) E.1 E.2.2.2.1 E.2.2.2.2.1 E.2.2.2.2.2.1 (E.2.2.2.2.2.2.2 n_Mo_is) ok_Mo_is cls_12 rfl km_Mo_113 kn_Mo_is kv_Mo_is (by decide +kernel)) ?_
  refine mk_cons (sn_ifeq (off := 5) E.1 (by decide +kernel) (by decide +kernel)) ?_
  refine mk_cons (sn_iconst (n := 3) E.1 (by decide +kernel) (by decide +kernel)) ?_
  refine mk_cons (sn_iret E.1 E.2.1 E.2.2.2.2.2.2.1 (by decide +kernel)) ?_
  refine mk_cons (sn_aload_n (k := 0) E.1 E.2.2.2.1 (by decide +kernel) rfl) ?_
  refine mk_cons (sn_ldcS (i := 128) (j := 3) (tx := "or") E.1 (by decide) (E.2.2.2.2.1.1 3 ("LostSevensModel", 128, "or") rfl) (by decide +kernel)) ?_
  refine mk_cons (sn_callV (i := 113) E.1 E.2.2.2.1 E.2.2.2.2.1 E.2.2.2.2.2.1 (E.2.2.2.2.2.2.2 n_Mo_is) ok_Mo_is cls_12 rfl km_Mo_113 kn_Mo_is kv_Mo_is (by decide +kernel)) ?_
  refine mk_cons (sn_ifeq (off := 5) E.1 (by decide +kernel) (by decide +kernel)) ?_
  refine mk_cons (sn_iconst (n := 4) E.1 (by decide +kernel) (by decide +kernel)) ?_
  refine mk_cons (sn_iret E.1 E.2.1 E.2.2.2.2.2.2.1 (by decide +kernel)) ?_
  refine mk_cons (sn_aload_n (k := 0) E.1 E.2.2.2.1 (by decide +kernel) rfl) ?_
  refine mk_cons (sn_ldcS (i := 130) (j := 4) (tx := "and") E.1 (by decide) (E.2.2.2.2.1.1 4 ("LostSevensModel", 130, "and") rfl) (by decide +kernel)) ?_
  refine mk_cons (sn_callV (i := 113) E.1 E.2.2.2.1 E.2.2.2.2.1 E.2.2.2.2.2.1 (E.2.2.2.2.2.2.2 n_Mo_is) ok_Mo_is cls_12 rfl km_Mo_113 kn_Mo_is kv_Mo_is (by decide +kernel)) ?_
  refine mk_cons (sn_ifeq (off := 5) E.1 (by decide +kernel) (by decide +kernel)) ?_
  refine mk_cons (sn_iconst (n := 5) E.1 (by decide +kernel) (by decide +kernel)) ?_
  refine mk_cons (sn_iret E.1 E.2.1 E.2.2.2.2.2.2.1 (by decide +kernel)) ?_
  refine mk_cons (sn_aload_n (k := 0) E.1 E.2.2.2.1 (by decide +kernel) rfl) ?_
  refine mk_cons (sn_ldcS (i := 132) (j := 5) (tx := "not") E.1 (by decide) (E.2.2.2.2.1.1 5 ("LostSevensModel", 132, "not") rfl) (by decide +kernel)) ?_
  refine mk_cons (sn_callV (i := 113) E.1 E.2.2.2.1 E.2.2.2.2.1 E.2.2.2.2.2.1 (E.2.2.2.2.2.2.2 n_Mo_is) ok_Mo_is cls_12 rfl km_Mo_113 kn_Mo_is kv_Mo_is (by decide +kernel)) ?_
  refine mk_cons (sn_ifeq (off := 6) E.1 (by decide +kernel) (by decide +kernel)) ?_
  refine mk_cons (sn_bipush (n := 6) E.1 (by decide +kernel) (by decide +kernel)) ?_
  refine mk_cons (sn_iret E.1 E.2.1 E.2.2.2.2.2.2.1 (by decide +kernel)) ?_
  refine mk_cons (sn_aload_n (k := 0) E.1 E.2.2.2.1 (by decide +kernel) rfl) ?_
  refine mk_cons (sn_ldcS (i := 134) (j := 6) (tx := "to") E.1 (by decide) (E.2.2.2.2.1.1 6 ("LostSevensModel", 134, "to") rfl) (by decide +kernel)) ?_
  refine mk_cons (sn_callV (i := 113) E.1 E.2.2.2.1 E.2.2.2.2.1 E.2.2.2.2.2.1 (E.2.2.2.2.2.2.2 n_Mo_is) ok_Mo_is cls_12 rfl km_Mo_113 kn_Mo_is kv_Mo_is (by decide +kernel)) ?_
  refine mk_cons (sn_ifeq (off := 6) E.1 (by decide +kernel) (by decide +kernel)) ?_
  refine mk_cons (sn_bipush (n := 7) E.1 (by decide +kernel) (by decide +kernel)) ?_
  refine mk_cons (sn_iret E.1 E.2.1 E.2.2.2.2.2.2.1 (by decide +kernel)) ?_
  refine mk_cons (sn_aload_n (k := 0) E.1 E.2.2.2.1 (by decide +kernel) rfl) ?_
  refine mk_cons (sn_ldcS (i := 136) (j := 7) (tx := "none") E.1 (by decide) (E.2.2.2.2.1.1 7 ("LostSevensModel", 136, "none") rfl) (by decide +kernel)) ?_
  refine mk_cons (sn_callV (i := 113) E.1 E.2.2.2.1 E.2.2.2.2.1 E.2.2.2.2.2.1 (E.2.2.2.2.2.2.2 n_Mo_is) ok_Mo_is cls_12 rfl km_Mo_113 kn_Mo_is kv_Mo_is (by decide +kernel)) ?_
  refine mk_cons (sn_ifeq (off := 8) E.1 (by decide +kernel) (by decide +kernel)) ?_
  refine mk_cons (sn_bipush (n := 8) E.1 (by decide +kernel) (by decide +kernel)) ?_
  refine mk_cons (sn_goto (off := 7) E.1 (by decide +kernel) (by decide +kernel)) ?_
  refine mk_cons (sn_aload_n (k := 0) E.1 E.2.2.2.1 (by decide +kernel) rfl) ?_
  refine mk_cons (sn_callV (i := 138) E.1 E.2.2.2.1 E.2.2.2.2.1 E.2.2.2.2.2.1 (E.2.2.2.2.2.2.2 n_Mo_nameWord) ok_Mo_nameWord cls_12 rfl km_Mo_138 kn_Mo_nameWord kv_Mo_nameWord (by decide +kernel)) ?_
  refine mk_cons (sn_iret E.1 E.2.1 E.2.2.2.2.2.2.1 (by decide +kernel)) ?_
  exact mk_nil
set_option maxRecDepth 100000 in
set_option maxHeartbeats 4000000 in
theorem rw_Mo_next0 : mk_Rows n_Mo_next0 := by
  intro p l e R s m args below meth c D cy b sk lim cr Q n0 d E
  show ∀ q ∈ t_Mo_next0, _
  refine mk_cons (sn_aload_n (k := 0) E.1 E.2.2.2.1 (by decide +kernel) rfl) ?_
  refine mk_cons (sn_aload_n (k := 0) E.1 E.2.2.2.1 (by decide +kernel) rfl) ?_
  refine mk_cons (sn_getI (i := 95) (c0 := 0) E.1 cls_12 (by decide) rfl (by decide) kf_Mo_95 (by decide +kernel)) ?_
  refine mk_cons (sn_callV (i := 141) E.1 E.2.2.2.1 E.2.2.2.2.1 E.2.2.2.2.2.1 (E.2.2.2.2.2.2.2 n_Mo_see) ok_Mo_see cls_12 rfl km_Mo_141 kn_Mo_see kv_Mo_see (by decide +kernel)) ?_
  refine mk_cons (sn_bipush (n := 32) E.1 (by decide +kernel) (by decide +kernel)) ?_
  refine mk_cons (sn_ceq (off := 16) E.1 (by decide +kernel) (by decide +kernel)) ?_
  refine mk_cons (sn_aload_n (k := 0) E.1 E.2.2.2.1 (by decide +kernel) rfl) ?_
  refine mk_cons (sn_aload_n (k := 0) E.1 E.2.2.2.1 (by decide +kernel) rfl) ?_
  refine mk_cons (sn_getI (i := 95) (c0 := 0) E.1 cls_12 (by decide) rfl (by decide) kf_Mo_95 (by decide +kernel)) ?_
  refine mk_cons (sn_callV (i := 141) E.1 E.2.2.2.1 E.2.2.2.2.1 E.2.2.2.2.2.1 (E.2.2.2.2.2.2.2 n_Mo_see) ok_Mo_see cls_12 rfl km_Mo_141 kn_Mo_see kv_Mo_see (by decide +kernel)) ?_
  refine mk_cons (sn_bipush (n := 10) E.1 (by decide +kernel) (by decide +kernel)) ?_
  refine mk_cons (sn_cne (off := 16) E.1 (by decide +kernel) (by decide +kernel)) ?_
  refine mk_cons (sn_aload_n (k := 0) E.1 E.2.2.2.1 (by decide +kernel) rfl) ?_
  refine mk_cons (sn_dup E.1 (by decide +kernel)) ?_
  refine mk_cons (sn_getI (i := 95) (c0 := 0) E.1 cls_12 (by decide) rfl (by decide) kf_Mo_95 (by decide +kernel)) ?_
  refine mk_cons (sn_iconst (n := 1) E.1 (by decide +kernel) (by decide +kernel)) ?_
  refine mk_cons (sn_iadd E.1 (by decide +kernel)) ?_
  refine mk_cons (sn_putI (i := 95) E.1 cls_12 (by decide) rfl rfl rfl kf_Mo_95 (by decide +kernel)) ?_
  refine mk_cons (sn_goto (off := (-36)) E.1 (by decide +kernel) (by decide +kernel)) ?_
  refine mk_cons (sn_aload_n (k := 0) E.1 E.2.2.2.1 (by decide +kernel) rfl) ?_
  refine mk_cons (sn_aload_n (k := 0) E.1 E.2.2.2.1 (by decide +kernel) rfl) ?_
  refine mk_cons (sn_getI (i := 95) (c0 := 0) E.1 cls_12 (by decide) rfl (by decide) kf_Mo_95 (by decide +kernel)) ?_
  refine mk_cons (sn_putI (i := 98) E.1 cls_12 (by decide) rfl rfl rfl kf_Mo_98 (by decide +kernel)) ?_
  refine mk_cons (sn_aload_n (k := 0) E.1 E.2.2.2.1 (by decide +kernel) rfl) ?_
  refine mk_cons (sn_aload_n (k := 0) E.1 E.2.2.2.1 (by decide +kernel) rfl) ?_
  refine mk_cons (sn_getI (i := 95) (c0 := 0) E.1 cls_12 (by decide) rfl (by decide) kf_Mo_95 (by decide +kernel)) ?_
  refine mk_cons (sn_callV (i := 141) E.1 E.2.2.2.1 E.2.2.2.2.1 E.2.2.2.2.2.1 (E.2.2.2.2.2.2.2 n_Mo_see) ok_Mo_see cls_12 rfl km_Mo_141 kn_Mo_see kv_Mo_see (by decide +kernel)) ?_
  refine mk_cons (sn_istore_n (k := 1) E.1 (by decide +kernel) rfl (by decide +kernel)) ?_
  refine mk_cons (sn_iload_n (k := 1) E.1 (by decide +kernel) rfl) ?_
  refine mk_cons (sn_iconst (n := (-1)) E.1 (by decide +kernel) (by decide +kernel)) ?_
  refine mk_cons (sn_cne (off := 11) E.1 (by decide +kernel) (by decide +kernel)) ?_
  refine mk_cons (sn_aload_n (k := 0) E.1 E.2.2.2.1 (by decide +kernel) rfl) ?_
  refine mk_cons (sn_iconst (n := 0) E.1 (by decide +kernel) (by decide +kernel)) ?_
  refine mk_cons (sn_putI (i := 145) E.1 cls_12 (by decide) rfl rfl rfl kf_Mo_145 (by decide +kernel)) ?_
  refine mk_cons (sn_goto (off := 240) E.1 (by decide +kernel) (by decide +kernel)) ?_
  refine mk_cons (sn_iload_n (k := 1) E.1 (by decide +kernel) rfl) ?_
  refine mk_cons (sn_callS (i := 148) E.1 E.2.2.2.1 E.2.2.2.2.1 E.2.2.2.2.2.1 (E.2.2.2.2.2.2.2 n_Mo_isLetter) ok_Mo_isLetter km_Mo_148 ks_Mo_isLetter (by decide +kernel)) ?_
  refine mk_cons (sn_ifeq (off := 41) E.1 (by decide +kernel) (by decide +kernel)) ?_
  refine mk_cons (sn_aload_n (k := 0) E.1 E.2.2.2.1 (by decide +kernel) rfl) ?_
  refine mk_cons (sn_aload_n (k := 0) E.1 E.2.2.2.1 (by decide +kernel) rfl) ?_
  refine mk_cons (sn_getI (i := 95) (c0 := 0) E.1 cls_12 (by decide) rfl (by decide) kf_Mo_95 (by decide +kernel)) ?_
  refine mk_cons (sn_callV (i := 141) E.1 E.2.2.2.1 E.2.2.2.2.1 E.2.2.2.2.2.1 (E.2.2.2.2.2.2.2 n_Mo_see) ok_Mo_see cls_12 rfl km_Mo_141 kn_Mo_see kv_Mo_see (by decide +kernel)) ?_
  refine mk_cons (sn_callS (i := 148) E.1 E.2.2.2.1 E.2.2.2.2.1 E.2.2.2.2.2.1 (E.2.2.2.2.2.2.2 n_Mo_isLetter) ok_Mo_isLetter km_Mo_148 ks_Mo_isLetter (by decide +kernel)) ?_
  refine mk_cons (sn_ifeq (off := 16) E.1 (by decide +kernel) (by decide +kernel)) ?_
  refine mk_cons (sn_aload_n (k := 0) E.1 E.2.2.2.1 (by decide +kernel) rfl) ?_
  refine mk_cons (sn_dup E.1 (by decide +kernel)) ?_
  refine mk_cons (sn_getI (i := 95) (c0 := 0) E.1 cls_12 (by decide) rfl (by decide) kf_Mo_95 (by decide +kernel)) ?_
  refine mk_cons (sn_iconst (n := 1) E.1 (by decide +kernel) (by decide +kernel)) ?_
  refine mk_cons (sn_iadd E.1 (by decide +kernel)) ?_
  refine mk_cons (sn_putI (i := 95) E.1 cls_12 (by decide) rfl rfl rfl kf_Mo_95 (by decide +kernel)) ?_
  refine mk_cons (sn_goto (off := (-24)) E.1 (by decide +kernel) (by decide +kernel)) ?_
  refine mk_cons (sn_aload_n (k := 0) E.1 E.2.2.2.1 (by decide +kernel) rfl) ?_
  refine mk_cons (sn_aload_n (k := 0) E.1 E.2.2.2.1 (by decide +kernel) rfl) ?_
  refine mk_cons (sn_callV (i := 151) E.1 E.2.2.2.1 E.2.2.2.2.1 E.2.2.2.2.2.1 (E.2.2.2.2.2.2.2 n_Mo_word) ok_Mo_word cls_12 rfl km_Mo_151 kn_Mo_word kv_Mo_word (by decide +kernel)) ?_
  refine mk_cons (sn_putI (i := 145) E.1 cls_12 (by decide) rfl rfl rfl kf_Mo_145 (by decide +kernel)) ?_
  refine mk_cons (sn_goto (off := 195) E.1 (by decide +kernel) (by decide +kernel)) ?_
  refine mk_cons (sn_iload_n (k := 1) E.1 (by decide +kernel) rfl) ?_
  refine mk_cons (sn_callS (i := 154) E.1 E.2.2.2.1 E.2.2.2.2.1 E.2.2.2.2.2.1 (E.2.2.2.2.2.2.2 n_Mo_isDigit) ok_Mo_isDigit km_Mo_154 ks_Mo_isDigit (by decide +kernel)) ?_
  refine mk_cons (sn_ifeq (off := 96) E.1 (by decide +kernel) (by decide +kernel)) ?_
  refine mk_cons (sn_aload_n (k := 0) E.1 E.2.2.2.1 (by decide +kernel) rfl) ?_
  refine mk_cons (sn_iconst (n := 0) E.1 (by decide +kernel) (by decide +kernel)) ?_
  refine mk_cons (sn_putI (i := 157) E.1 cls_12 (by decide) rfl rfl rfl kf_Mo_157 (by decide +kernel)) ?_
  refine mk_cons (sn_aload_n (k := 0) E.1 E.2.2.2.1 (by decide +kernel) rfl) ?_
  refine mk_cons (sn_aload_n (k := 0) E.1 E.2.2.2.1 (by decide +kernel) rfl) ?_
  refine mk_cons (sn_getI (i := 95) (c0 := 0) E.1 cls_12 (by decide) rfl (by decide) kf_Mo_95 (by decide +kernel)) ?_
  refine mk_cons (sn_callV (i := 141) E.1 E.2.2.2.1 E.2.2.2.2.1 E.2.2.2.2.2.1 (E.2.2.2.2.2.2.2 n_Mo_see) ok_Mo_see cls_12 rfl km_Mo_141 kn_Mo_see kv_Mo_see (by decide +kernel)) ?_
  refine mk_cons (sn_callS (i := 154) E.1 E.2.2.2.1 E.2.2.2.2.1 E.2.2.2.2.2.1 (E.2.2.2.2.2.2.2 n_Mo_isDigit) ok_Mo_isDigit km_Mo_154 ks_Mo_isDigit (by decide +kernel)) ?_
  refine mk_cons (sn_ifeq (off := 52) E.1 (by decide +kernel) (by decide +kernel)) ?_
  refine mk_cons (sn_aload_n (k := 0) E.1 E.2.2.2.1 (by decide +kernel) rfl) ?_
  refine mk_cons (sn_getI (i := 95) (c0 := 0) E.1 cls_12 (by decide) rfl (by decide) kf_Mo_95 (by decide +kernel)) ?_
  refine mk_cons (sn_aload_n (k := 0) E.1 E.2.2.2.1 (by decide +kernel) rfl) ?_
  refine mk_cons (sn_getI (i := 98) (c0 := 0) E.1 cls_12 (by decide) rfl (by decide) kf_Mo_98 (by decide +kernel)) ?_
  refine mk_cons (sn_iconst (n := 4) E.1 (by decide +kernel) (by decide +kernel)) ?_
  refine mk_cons (sn_iadd E.1 (by decide +kernel)) ?_
  refine mk_cons (sn_cge (off := 26) E.1 (by decide +kernel) (by decide +kernel)) ?_
  refine mk_cons (sn_aload_n (k := 0) E.1 E.2.2.2.1 (by decide +kernel) rfl) ?_
  refine mk_cons (sn_bipush (n := 10) E.1 (by decide +kernel) (by decide +kernel)) ?_
  refine mk_cons (sn_aload_n (k := 0) E.1 E.2.2.2.1 (by decide +kernel) rfl) ?_
  refine mk_cons (sn_getI (i := 157) (c0 := 0) E.1 cls_12 (by decide) rfl (by decide) kf_Mo_157 (by decide +kernel)) ?_
  refine mk_cons (sn_imul E.1 (by decide +kernel)) ?_
  refine mk_cons (sn_aload_n (k := 0) E.1 E.2.2.2.1 (by decide +kernel) rfl) ?_
  refine mk_cons (sn_aload_n (k := 0) E.1 E.2.2.2.1 (by decide +kernel) rfl) ?_
  refine mk_cons (sn_getI (i := 95) (c0 := 0) E.1 cls_12 (by decide) rfl (by decide) kf_Mo_95 (by decide +kernel)) ?_
  refine mk_cons (sn_callV (i := 141) E.1 E.2.2.2.1 E.2.2.2.2.1 E.2.2.2.2.2.1 (E.2.2.2.2.2.2.2 n_Mo_see) ok_Mo_see cls_12 rfl km_Mo_141 kn_Mo_see kv_Mo_see (by decide +kernel)) ?_
  refine mk_cons (sn_iadd E.1 (by decide +kernel)) ?_
  refine mk_cons (sn_bipush (n := 48) E.1 (by decide +kernel) (by decide +kernel)) ?_
  refine mk_cons (sn_isub E.1 (by decide +kernel)) ?_
  refine mk_cons (sn_putI (i := 157) E.1 cls_12 (by decide) rfl rfl rfl kf_Mo_157 (by decide +kernel)) ?_
  refine mk_cons (sn_aload_n (k := 0) E.1 E.2.2.2.1 (by decide +kernel) rfl) ?_
  refine mk_cons (sn_dup E.1 (by decide +kernel)) ?_
  refine mk_cons (sn_getI (i := 95) (c0 := 0) E.1 cls_12 (by decide) rfl (by decide) kf_Mo_95 (by decide +kernel)) ?_
  refine mk_cons (sn_iconst (n := 1) E.1 (by decide +kernel) (by decide +kernel)) ?_
  refine mk_cons (sn_iadd E.1 (by decide +kernel)) ?_
  refine mk_cons (sn_putI (i := 95) E.1 cls_12 (by decide) rfl rfl rfl kf_Mo_95 (by decide +kernel)) ?_
  refine mk_cons (sn_goto (off := (-60)) E.1 (by decide +kernel) (by decide +kernel)) ?_
  refine mk_cons (sn_aload_n (k := 0) E.1 E.2.2.2.1 (by decide +kernel) rfl) ?_
  refine mk_cons (sn_aload_n (k := 0) E.1 E.2.2.2.1 (by decide +kernel) rfl) ?_
  refine mk_cons (sn_getI (i := 95) (c0 := 0) E.1 cls_12 (by decide) rfl (by decide) kf_Mo_95 (by decide +kernel)) ?_
  refine mk_cons (sn_aload_n (k := 0) E.1 E.2.2.2.1 (by decide +kernel) rfl) ?_
  refine mk_cons (sn_getI (i := 98) (c0 := 0) E.1 cls_12 (by decide) rfl (by decide) kf_Mo_98 (by decide +kernel)) ?_
  refine mk_cons (sn_isub E.1 (by decide +kernel)) ?_
  refine mk_cons (sn_iconst (n := 5) E.1 (by decide +kernel) (by decide +kernel)) ?_
  refine mk_cons (sn_cge (off := 7) E.1 (by decide +kernel) (by decide +kernel)) ?_
  refine mk_cons (sn_iconst (n := 2) E.1 (by decide +kernel) (by decide +kernel)) ?_
  refine mk_cons (sn_goto (off := 4) E.1 (by decide +kernel) (by decide +kernel)) ?_
  refine mk_cons (sn_iconst (n := 1) E.1 (by decide +kernel) (by decide +kernel)) ?_
  refine mk_cons (sn_putI (i := 145) E.1 cls_12 (by decide) rfl rfl rfl kf_Mo_145 (by decide +kernel)) ?_
  refine mk_cons (sn_goto (off := 95) E.1 (by decide +kernel) (by decide +kernel)) ?_
  refine mk_cons (sn_aload_n (k := 0) E.1 E.2.2.2.1 (by decide +kernel) rfl) ?_
  refine mk_cons (sn_dup E.1 (by decide +kernel)) ?_
  refine mk_cons (sn_getI (i := 95) (c0 := 0) E.1 cls_12 (by decide) rfl (by decide) kf_Mo_95 (by decide +kernel)) ?_
  refine mk_cons (sn_iconst (n := 1) E.1 (by decide +kernel) (by decide +kernel)) ?_
  refine mk_cons (sn_iadd E.1 (by decide +kernel)) ?_
  refine mk_cons (sn_putI (i := 95) E.1 cls_12 (by decide) rfl rfl rfl kf_Mo_95 (by decide +kernel)) ?_
  refine mk_cons (sn_iload_n (k := 1) E.1 (by decide +kernel) rfl) ?_
  refine mk_cons (sn_bipush (n := 59) E.1 (by decide +kernel) (by decide +kernel)) ?_
  refine mk_cons (sn_ceq (off := 57) E.1 (by decide +kernel) (by decide +kernel)) ?_
  refine mk_cons (sn_iload_n (k := 1) E.1 (by decide +kernel) rfl) ?_
  refine mk_cons (sn_bipush (n := 43) E.1 (by decide +kernel) (by decide +kernel)) ?_
  refine mk_cons (sn_ceq (off := 51) E.1 (by decide +kernel) (by decide +kernel)) ?_
  refine mk_cons (sn_iload_n (k := 1) E.1 (by decide +kernel) rfl) ?_
  refine mk_cons (sn_bipush (n := 45) E.1 (by decide +kernel) (by decide +kernel)) ?_
  refine mk_cons (sn_ceq (off := 45) E.1 (by decide +kernel) (by decide +kernel)) ?_
  refine mk_cons (sn_iload_n (k := 1) E.1 (by decide +kernel) rfl) ?_
  refine mk_cons (sn_bipush (n := 42) E.1 (by decide +kernel) (by decide +kernel)) ?_
  refine mk_cons (sn_ceq (off := 39) E.1 (by decide +kernel) (by decide +kernel)) ?_
  refine mk_cons (sn_iload_n (k := 1) E.1 (by decide +kernel) rfl) ?_
  refine mk_cons (sn_bipush (n := 47) E.1 (by decide +kernel) (by decide +kernel)) ?_
  refine mk_cons (sn_ceq (off := 33) E.1 (by decide +kernel) (by decide +kernel)) ?_
  refine mk_cons (sn_iload_n (k := 1) E.1 (by decide +kernel) rfl) ?_
  refine mk_cons (sn_bipush (n := 40) E.1 (by decide +kernel) (by decide +kernel)) ?_
  refine mk_cons (sn_ceq (off := 27) E.1 (by decide +kernel) (by decide +kernel)) ?_
  refine mk_cons (sn_iload_n (k := 1) E.1 (by decide +kernel) rfl) ?_
  refine mk_cons (sn_bipush (n := 41) E.1 (by decide +kernel) (by decide +kernel)) ?_
  refine mk_cons (sn_ceq (off := 21) E.1 (by decide +kernel) (by decide +kernel)) ?_
  refine mk_cons (sn_iload_n (k := 1) E.1 (by decide +kernel) rfl) ?_
  refine mk_cons (sn_bipush (n := 60) E.1 (by decide +kernel) (by decide +kernel)) ?_
  refine mk_cons (sn_ceq (off := 15) E.1 (by decide +kernel) (by decide +kernel)) ?_
  refine mk_cons (sn_iload_n (k := 1) E.1 (by decide +kernel) rfl) ?_
  refine mk_cons (sn_bipush (n := 61) E.1 (by decide +kernel) (by decide +kernel)) ?_
  refine mk_cons (sn_ceq (off := 9) E.1 (by decide +kernel) (by decide +kernel)) ?_
  refine mk_cons (sn_iload_n (k := 1) E.1 (by decide +kernel) rfl) ?_
  refine mk_cons (sn_bipush (n := 62) E.1 (by decide +kernel) (by decide +kernel)) ?_
  refine mk_cons (sn_cne (off := 7) E.1 (by decide +kernel) (by decide +kernel)) ?_
  refine mk_cons (sn_iconst (n := 1) E.1 (by decide +kernel) (by decide +kernel)) ?_
  refine mk_cons (sn_goto (off := 4) E.1 (by decide +kernel) (by decide +kernel)) ?_
  refine mk_cons (sn_iconst (n := 0) E.1 (by decide +kernel) (by decide +kernel)) ?_
  refine mk_cons (sn_istore_n (k := 2) E.1 (by decide +kernel) rfl (by decide +kernel)) ?_
  refine mk_cons (sn_aload_n (k := 0) E.1 E.2.2.2.1 (by decide +kernel) rfl) ?_
  refine mk_cons (sn_iload_n (k := 2) E.1 (by decide +kernel) rfl) ?_
  refine mk_cons (sn_ifeq (off := 10) E.1 (by decide +kernel) (by decide +kernel)) ?_
  refine mk_cons (sn_bipush (n := 100) E.1 (by decide +kernel) (by decide +kernel)) ?_
  refine mk_cons (sn_iload_n (k := 1) E.1 (by decide +kernel) rfl) ?_
  refine mk_cons (sn_iadd E.1 (by decide +kernel)) ?_
  refine mk_cons (sn_goto (off := 4) E.1 (by decide +kernel) (by decide +kernel)) ?_
  refine mk_cons (sn_iconst (n := 1) E.1 (by decide +kernel) (by decide +kernel)) ?_
  refine mk_cons (sn_putI (i := 145) E.1 cls_12 (by decide) rfl rfl rfl kf_Mo_145 (by decide +kernel)) ?_
  refine mk_cons (sn_ret E.1 E.2.1 E.2.2.2.2.2.2.1 (by decide +kernel)) ?_
  exact mk_nil
set_option maxRecDepth 100000 in
set_option maxHeartbeats 4000000 in
theorem rw_Mo_bad : mk_Rows n_Mo_bad := by
  intro p l e R s m args below meth c D cy b sk lim cr Q n0 d E
  show ∀ q ∈ t_Mo_bad, _
  refine mk_cons (sn_aload_n (k := 0) E.1 E.2.2.2.1 (by decide +kernel) rfl) ?_
  refine mk_cons (sn_iload_n (k := 1) E.1 (by decide +kernel) rfl) ?_
  refine mk_cons (sn_putI (i := 160) E.1 cls_12 (by decide) rfl rfl rfl kf_Mo_160 (by decide +kernel)) ?_
  refine mk_cons (sn_aload_n (k := 0) E.1 E.2.2.2.1 (by decide +kernel) rfl) ?_
  refine mk_cons (sn_aload_n (k := 0) E.1 E.2.2.2.1 (by decide +kernel) rfl) ?_
  refine mk_cons (sn_getI (i := 98) (c0 := 0) E.1 cls_12 (by decide) rfl (by decide) kf_Mo_98 (by decide +kernel)) ?_
  refine mk_cons (sn_putI (i := 163) E.1 cls_12 (by decide) rfl rfl rfl kf_Mo_163 (by decide +kernel)) ?_
  refine mk_cons (sn_iconst (n := 0) E.1 (by decide +kernel) (by decide +kernel)) ?_
  refine mk_cons (sn_zret E.1 E.2.1 E.2.2.2.2.2.2.1 (by decide +kernel)) ?_
  exact mk_nil
set_option maxRecDepth 100000 in
set_option maxHeartbeats 4000000 in
theorem rw_Mo_need : mk_Rows n_Mo_need := by
  intro p l e R s m args below meth c D cy b sk lim cr Q n0 d E
  show ∀ q ∈ t_Mo_need, _
  refine mk_cons (sn_aload_n (k := 0) E.1 E.2.2.2.1 (by decide +kernel) rfl) ?_
  refine mk_cons (sn_getI (i := 145) (c0 := 0) E.1 cls_12 (by decide) rfl (by decide) kf_Mo_145 (by decide +kernel)) ?_
  refine mk_cons (sn_iload_n (k := 1) E.1 (by decide +kernel) rfl) ?_
  refine mk_cons (sn_ceq (off := 9) E.1 (by decide +kernel) (by decide +kernel)) ?_
  refine mk_cons (sn_aload_n (k := 0) E.1 E.2.2.2.1 (by decide +kernel) rfl) ?_
  refine mk_cons (sn_iconst (n := 1) E.1 (by decide +kernel) (by decide +kernel)) ?_
  refine mk_cons (sn_callV (i := 166) E.1 E.2.2.2.1 E.2.2.2.2.1 E.2.2.2.2.2.1 (E.2.2.2.2.2.2.2 n_Mo_bad) ok_Mo_bad cls_12 rfl km_Mo_166 kn_Mo_bad kv_Mo_bad (by decide +kernel)) ?_
  refine mk_cons (sn_zret E.1 E.2.1 E.2.2.2.2.2.2.1 (by decide +kernel)) ?_
  refine mk_cons (sn_aload_n (k := 0) E.1 E.2.2.2.1 (by decide +kernel) rfl) ?_
  refine mk_cons (sn_callV (i := 169) E.1 E.2.2.2.1 E.2.2.2.2.1 E.2.2.2.2.2.1 (E.2.2.2.2.2.2.2 n_Mo_next0) ok_Mo_next0 cls_12 rfl km_Mo_169 kn_Mo_next0 kv_Mo_next0 (by decide +kernel)) ?_
  refine mk_cons (sn_iconst (n := 1) E.1 (by decide +kernel) (by decide +kernel)) ?_
  refine mk_cons (sn_zret E.1 E.2.1 E.2.2.2.2.2.2.1 (by decide +kernel)) ?_
  exact mk_nil
set_option maxRecDepth 100000 in
set_option maxHeartbeats 4000000 in
theorem rw_Mo_lay : mk_Rows n_Mo_lay := by
  intro p l e R s m args below meth c D cy b sk lim cr Q n0 d E
  show ∀ q ∈ t_Mo_lay, _
  refine mk_cons (sn_aload_n (k := 0) E.1 E.2.2.2.1 (by decide +kernel) rfl) ?_
  refine mk_cons (sn_getR (i := 26) E.1 cls_12 (by decide) rfl kf_Mo_26 (by decide +kernel)) ?_
  refine mk_cons (sn_iconst (n := 2) E.1 (by decide +kernel) (by decide +kernel)) ?_
  refine mk_cons (sn_aload_n (k := 0) E.1 E.2.2.2.1 (by decide +kernel) rfl) ?_
  refine mk_cons (sn_getI (i := 172) (c0 := 0) E.1 cls_12 (by decide) rfl (by decide) kf_Mo_172 (by decide +kernel)) ?_
  refine mk_cons (sn_imul E.1 (by decide +kernel)) ?_
  refine mk_cons (sn_iload_n (k := 1) E.1 (by decide +kernel) rfl) ?_
  refine mk_cons (sn_iast E.1 (by decide +kernel)) ?_
  refine mk_cons (sn_aload_n (k := 0) E.1 E.2.2.2.1 (by decide +kernel) rfl) ?_
  refine mk_cons (sn_getR (i := 26) E.1 cls_12 (by decide) rfl kf_Mo_26 (by decide +kernel)) ?_
  refine mk_cons (sn_iconst (n := 2) E.1 (by decide +kernel) (by decide +kernel)) ?_
  refine mk_cons (sn_aload_n (k := 0) E.1 E.2.2.2.1 (by decide +kernel) rfl) ?_
  refine mk_cons (sn_getI (i := 172) (c0 := 0) E.1 cls_12 (by decide) rfl (by decide) kf_Mo_172 (by decide +kernel)) ?_
  refine mk_cons (sn_imul E.1 (by decide +kernel)) ?_
  refine mk_cons (sn_iconst (n := 1) E.1 (by decide +kernel) (by decide +kernel)) ?_
  refine mk_cons (sn_iadd E.1 (by decide +kernel)) ?_
  refine mk_cons (sn_iload_n (k := 2) E.1 (by decide +kernel) rfl) ?_
  refine mk_cons (sn_iast E.1 (by decide +kernel)) ?_
  refine mk_cons (sn_aload_n (k := 0) E.1 E.2.2.2.1 (by decide +kernel) rfl) ?_
  refine mk_cons (sn_dup E.1 (by decide +kernel)) ?_
  refine mk_cons (sn_getI (i := 172) (c0 := 0) E.1 cls_12 (by decide) rfl (by decide) kf_Mo_172 (by decide +kernel)) ?_
  refine mk_cons (sn_iconst (n := 1) E.1 (by decide +kernel) (by decide +kernel)) ?_
  refine mk_cons (sn_iadd E.1 (by decide +kernel)) ?_
  refine mk_cons (sn_putI (i := 172) E.1 cls_12 (by decide) rfl rfl rfl kf_Mo_172 (by decide +kernel)) ?_
  refine mk_cons (sn_ret E.1 E.2.1 E.2.2.2.2.2.2.1 (by decide +kernel)) ?_
  exact mk_nil
set_option maxRecDepth 100000 in
set_option maxHeartbeats 4000000 in
theorem rw_Mo_opens : mk_Rows n_Mo_opens := by
  intro p l e R s m args below meth c D cy b sk lim cr Q n0 d E
  show ∀ q ∈ t_Mo_opens, _
  refine mk_cons (sn_aload_n (k := 0) E.1 E.2.2.2.1 (by decide +kernel) rfl) ?_
  refine mk_cons (sn_getI (i := 175) (c0 := 0) E.1 cls_12 (by decide) rfl (by decide) kf_Mo_175 (by decide +kernel)) ?_
  refine mk_cons (sn_bipush (n := 8) E.1 (by decide +kernel) (by decide +kernel)) ?_
  refine mk_cons (sn_cne (off := 9) E.1 (by decide +kernel) (by decide +kernel)) ?_
  refine mk_cons (sn_aload_n (k := 0) E.1 E.2.2.2.1 (by decide +kernel) rfl) ?_
  refine mk_cons (sn_iconst (n := 3) E.1 (by decide +kernel) (by decide +kernel)) ?_
  refine mk_cons (sn_callV (i := 166) E.1 E.2.2.2.1 E.2.2.2.2.1 E.2.2.2.2.2.1 (E.2.2.2.2.2.2.2 n_Mo_bad) ok_Mo_bad cls_12 rfl km_Mo_166 kn_Mo_bad kv_Mo_bad (by decide +kernel)) ?_
  refine mk_cons (sn_zret E.1 E.2.1 E.2.2.2.2.2.2.1 (by decide +kernel)) ?_
  refine mk_cons (sn_aload_n (k := 0) E.1 E.2.2.2.1 (by decide +kernel) rfl) ?_
  refine mk_cons (sn_dup E.1 (by decide +kernel)) ?_
  refine mk_cons (sn_getI (i := 175) (c0 := 0) E.1 cls_12 (by decide) rfl (by decide) kf_Mo_175 (by decide +kernel)) ?_
  refine mk_cons (sn_iconst (n := 1) E.1 (by decide +kernel) (by decide +kernel)) ?_
  refine mk_cons (sn_iadd E.1 (by decide +kernel)) ?_
  refine mk_cons (sn_putI (i := 175) E.1 cls_12 (by decide) rfl rfl rfl kf_Mo_175 (by decide +kernel)) ?_
  refine mk_cons (sn_aload_n (k := 0) E.1 E.2.2.2.1 (by decide +kernel) rfl) ?_
  refine mk_cons (sn_callV (i := 169) E.1 E.2.2.2.1 E.2.2.2.2.1 E.2.2.2.2.2.1 (E.2.2.2.2.2.2.2 n_Mo_next0) ok_Mo_next0 cls_12 rfl km_Mo_169 kn_Mo_next0 kv_Mo_next0 (by decide +kernel)) ?_
  refine mk_cons (sn_iconst (n := 1) E.1 (by decide +kernel) (by decide +kernel)) ?_
  refine mk_cons (sn_zret E.1 E.2.1 E.2.2.2.2.2.2.1 (by decide +kernel)) ?_
  exact mk_nil
set_option maxRecDepth 100000 in
set_option maxHeartbeats 4000000 in
theorem rw_Mo_sumUp : mk_Rows n_Mo_sumUp := by
  intro p l e R s m args below meth c D cy b sk lim cr Q n0 d E
  show ∀ q ∈ t_Mo_sumUp, _
  refine mk_cons (sn_aload_n (k := 0) E.1 E.2.2.2.1 (by decide +kernel) rfl) ?_
  refine mk_cons (sn_callV (i := 178) E.1 E.2.2.2.1 E.2.2.2.2.1 E.2.2.2.2.2.1 (E.2.2.2.2.2.2.2 n_Mo_product) ok_Mo_product cls_12 rfl km_Mo_178 kn_Mo_product kv_Mo_product (by decide +kernel)) ?_
  refine mk_cons (sn_ifne (off := 5) E.1 (by decide +kernel) (by decide +kernel)) ?_
  refine mk_cons (sn_iconst (n := 0) E.1 (by decide +kernel) (by decide +kernel)) ?_
  refine mk_cons (sn_zret E.1 E.2.1 E.2.2.2.2.2.2.1 (by decide +kernel)) ?_
  refine mk_cons (sn_aload_n (k := 0) E.1 E.2.2.2.1 (by decide +kernel) rfl) ?_
  refine mk_cons (sn_getI (i := 145) (c0 := 0) E.1 cls_12 (by decide) rfl (by decide) kf_Mo_145 (by decide +kernel)) ?_
  refine mk_cons (sn_sipush (n := 143) E.1 (by decide +kernel) (by decide +kernel)) ?_
  refine mk_cons (sn_ceq (off := 13) E.1 (by decide +kernel) (by decide +kernel)) ?_
  refine mk_cons (sn_aload_n (k := 0) E.1 E.2.2.2.1 (by decide +kernel) rfl) ?_
  refine mk_cons (sn_getI (i := 145) (c0 := 0) E.1 cls_12 (by decide) rfl (by decide) kf_Mo_145 (by decide +kernel)) ?_
  refine mk_cons (sn_sipush (n := 145) E.1 (by decide +kernel) (by decide +kernel)) ?_
  refine mk_cons (sn_cne (off := 43) E.1 (by decide +kernel) (by decide +kernel)) ?_
  refine mk_cons (sn_aload_n (k := 0) E.1 E.2.2.2.1 (by decide +kernel) rfl) ?_
  refine mk_cons (sn_getI (i := 145) (c0 := 0) E.1 cls_12 (by decide) rfl (by decide) kf_Mo_145 (by decide +kernel)) ?_
  refine mk_cons (sn_sipush (n := 143) E.1 (by decide +kernel) (by decide +kernel)) ?_
  refine mk_cons (sn_cne (off := 8) E.1 (by decide +kernel) (by decide +kernel)) ?_
  refine mk_cons (sn_bipush (n := 13) E.1 (by decide +kernel) (by decide +kernel)) ?_
  refine mk_cons (sn_goto (off := 5) E.1 (by decide +kernel) (by decide +kernel)) ?_
  refine mk_cons (sn_bipush (n := 14) E.1 (by decide +kernel) (by decide +kernel)) ?_
  refine mk_cons (sn_istore_n (k := 1) E.1 (by decide +kernel) rfl (by decide +kernel)) ?_
  refine mk_cons (sn_aload_n (k := 0) E.1 E.2.2.2.1 (by decide +kernel) rfl) ?_
  refine mk_cons (sn_callV (i := 169) E.1 E.2.2.2.1 E.2.2.2.2.1 E.2.2.2.2.2.1 (E.2.2.2.2.2.2.2 n_Mo_next0) ok_Mo_next0 cls_12 rfl km_Mo_169 kn_Mo_next0 kv_Mo_next0 (by decide +kernel)) ?_
  refine mk_cons (sn_aload_n (k := 0) E.1 E.2.2.2.1 (by decide +kernel) rfl) ?_
  refine mk_cons (sn_callV (i := 178) E.1 E.2.2.2.1 E.2.2.2.2.1 E.2.2.2.2.2.1 (E.2.2.2.2.2.2.2 n_Mo_product) ok_Mo_product cls_12 rfl km_Mo_178 kn_Mo_product kv_Mo_product (by decide +kernel)) ?_
  refine mk_cons (sn_ifne (off := 5) E.1 (by decide +kernel) (by decide +kernel)) ?_
  refine mk_cons (sn_iconst (n := 0) E.1 (by decide +kernel) (by decide +kernel)) ?_
  refine mk_cons (sn_zret E.1 E.2.1 E.2.2.2.2.2.2.1 (by decide +kernel)) ?_
  refine mk_cons (sn_aload_n (k := 0) E.1 E.2.2.2.1 (by decide +kernel) rfl) ?_
  refine mk_cons (sn_iload_n (k := 1) E.1 (by decide +kernel) rfl) ?_
  refine mk_cons (sn_iconst (n := 0) E.1 (by decide +kernel) (by decide +kernel)) ?_
  refine mk_cons (sn_callV (i := 182) E.1 E.2.2.2.1 E.2.2.2.2.1 E.2.2.2.2.2.1 (E.2.2.2.2.2.2.2 n_Mo_lay) ok_Mo_lay cls_12 rfl km_Mo_182 kn_Mo_lay kv_Mo_lay (by decide +kernel)) ?_
  refine mk_cons (sn_goto (off := (-57)) E.1 (by decide +kernel) (by decide +kernel)) ?_
  refine mk_cons (sn_iconst (n := 1) E.1 (by decide +kernel) (by decide +kernel)) ?_
  refine mk_cons (sn_zret E.1 E.2.1 E.2.2.2.2.2.2.1 (by decide +kernel)) ?_
  exact mk_nil
set_option maxRecDepth 100000 in
set_option maxHeartbeats 4000000 in
theorem rw_Mo_product : mk_Rows n_Mo_product := by
  intro p l e R s m args below meth c D cy b sk lim cr Q n0 d E
  show ∀ q ∈ t_Mo_product, _
  refine mk_cons (sn_aload_n (k := 0) E.1 E.2.2.2.1 (by decide +kernel) rfl) ?_
  refine mk_cons (sn_callV (i := 186) E.1 E.2.2.2.1 E.2.2.2.2.1 E.2.2.2.2.2.1 (E.2.2.2.2.2.2.2 n_Mo_unit) ok_Mo_unit cls_12 rfl km_Mo_186 kn_Mo_unit kv_Mo_unit (by decide +kernel)) ?_
  refine mk_cons (sn_ifne (off := 5) E.1 (by decide +kernel) (by decide +kernel)) ?_
  refine mk_cons (sn_iconst (n := 0) E.1 (by decide +kernel) (by decide +kernel)) ?_
  refine mk_cons (sn_zret E.1 E.2.1 E.2.2.2.2.2.2.1 (by decide +kernel)) ?_
  refine mk_cons (sn_aload_n (k := 0) E.1 E.2.2.2.1 (by decide +kernel) rfl) ?_
  refine mk_cons (sn_getI (i := 145) (c0 := 0) E.1 cls_12 (by decide) rfl (by decide) kf_Mo_145 (by decide +kernel)) ?_
  refine mk_cons (sn_sipush (n := 142) E.1 (by decide +kernel) (by decide +kernel)) ?_
  refine mk_cons (sn_ceq (off := 13) E.1 (by decide +kernel) (by decide +kernel)) ?_
  refine mk_cons (sn_aload_n (k := 0) E.1 E.2.2.2.1 (by decide +kernel) rfl) ?_
  refine mk_cons (sn_getI (i := 145) (c0 := 0) E.1 cls_12 (by decide) rfl (by decide) kf_Mo_145 (by decide +kernel)) ?_
  refine mk_cons (sn_sipush (n := 147) E.1 (by decide +kernel) (by decide +kernel)) ?_
  refine mk_cons (sn_cne (off := 89) E.1 (by decide +kernel) (by decide +kernel)) ?_
  refine mk_cons (sn_aload_n (k := 0) E.1 E.2.2.2.1 (by decide +kernel) rfl) ?_
  refine mk_cons (sn_getI (i := 145) (c0 := 0) E.1 cls_12 (by decide) rfl (by decide) kf_Mo_145 (by decide +kernel)) ?_
  refine mk_cons (sn_sipush (n := 147) E.1 (by decide +kernel) (by decide +kernel)) ?_
  refine mk_cons (sn_cne (off := 7) E.1 (by decide +kernel) (by decide +kernel)) ?_
  refine mk_cons (sn_iconst (n := 1) E.1 (by decide +kernel) (by decide +kernel)) ?_
  refine mk_cons (sn_goto (off := 4) E.1 (by decide +kernel) (by decide +kernel)) ?_
  refine mk_cons (sn_iconst (n := 0) E.1 (by decide +kernel) (by decide +kernel)) ?_
  refine mk_cons (sn_istore_n (k := 1) E.1 (by decide +kernel) rfl (by decide +kernel)) ?_
  refine mk_cons (sn_aload_n (k := 0) E.1 E.2.2.2.1 (by decide +kernel) rfl) ?_
  refine mk_cons (sn_callV (i := 169) E.1 E.2.2.2.1 E.2.2.2.2.1 E.2.2.2.2.2.1 (E.2.2.2.2.2.2.2 n_Mo_next0) ok_Mo_next0 cls_12 rfl km_Mo_169 kn_Mo_next0 kv_Mo_next0 (by decide +kernel)) ?_
  refine mk_cons (sn_iload_n (k := 1) E.1 (by decide +kernel) rfl) ?_
  refine mk_cons (sn_ifeq (off := 46) E.1 (by decide +kernel) (by decide +kernel)) ?_
  refine mk_cons (sn_aload_n (k := 0) E.1 E.2.2.2.1 (by decide +kernel) rfl) ?_
  refine mk_cons (sn_getI (i := 157) (c0 := 0) E.1 cls_12 (by decide) rfl (by decide) kf_Mo_157 (by decide +kernel)) ?_
  refine mk_cons (sn_istore_n (k := 2) E.1 (by decide +kernel) rfl (by decide +kernel)) ?_
  refine mk_cons (sn_aload_n (k := 0) E.1 E.2.2.2.1 (by decide +kernel) rfl) ?_
  refine mk_cons (sn_getI (i := 145) (c0 := 0) E.1 cls_12 (by decide) rfl (by decide) kf_Mo_145 (by decide +kernel)) ?_
  refine mk_cons (sn_iconst (n := 2) E.1 (by decide +kernel) (by decide +kernel)) ?_
  refine mk_cons (sn_ceq (off := 9) E.1 (by decide +kernel) (by decide +kernel)) ?_
  refine mk_cons (sn_aload_n (k := 0) E.1 E.2.2.2.1 (by decide +kernel) rfl) ?_
  refine mk_cons (sn_iconst (n := 1) E.1 (by decide +kernel) (by decide +kernel)) ?_
  refine mk_cons (sn_callV (i := 166) E.1 E.2.2.2.1 E.2.2.2.2.1 E.2.2.2.2.2.1 (E.2.2.2.2.2.2.2 n_Mo_bad) ok_Mo_bad cls_12 rfl km_Mo_166 kn_Mo_bad kv_Mo_bad (by decide +kernel)) ?_
  refine mk_cons (sn_zret E.1 E.2.1 E.2.2.2.2.2.2.1 (by decide +kernel)) ?_
  refine mk_cons (sn_iload_n (k := 2) E.1 (by decide +kernel) rfl) ?_
  refine mk_cons (sn_ifne (off := 9) E.1 (by decide +kernel) (by decide +kernel)) ?_
  refine mk_cons (sn_aload_n (k := 0) E.1 E.2.2.2.1 (by decide +kernel) rfl) ?_
  refine mk_cons (sn_iconst (n := 2) E.1 (by decide +kernel) (by decide +kernel)) ?_
  refine mk_cons (sn_callV (i := 166) E.1 E.2.2.2.1 E.2.2.2.2.1 E.2.2.2.2.2.1 (E.2.2.2.2.2.2.2 n_Mo_bad) ok_Mo_bad cls_12 rfl km_Mo_166 kn_Mo_bad kv_Mo_bad (by decide +kernel)) ?_
  refine mk_cons (sn_zret E.1 E.2.1 E.2.2.2.2.2.2.1 (by decide +kernel)) ?_
  refine mk_cons (sn_aload_n (k := 0) E.1 E.2.2.2.1 (by decide +kernel) rfl) ?_
  refine mk_cons (sn_callV (i := 169) E.1 E.2.2.2.1 E.2.2.2.2.1 E.2.2.2.2.2.1 (E.2.2.2.2.2.2.2 n_Mo_next0) ok_Mo_next0 cls_12 rfl km_Mo_169 kn_Mo_next0 kv_Mo_next0 (by decide +kernel)) ?_
  refine mk_cons (sn_aload_n (k := 0) E.1 E.2.2.2.1 (by decide +kernel) rfl) ?_
  refine mk_cons (sn_bipush (n := 16) E.1 (by decide +kernel) (by decide +kernel)) ?_
  refine mk_cons (sn_iload_n (k := 2) E.1 (by decide +kernel) rfl) ?_
  refine mk_cons (sn_callV (i := 182) E.1 E.2.2.2.1 E.2.2.2.2.1 E.2.2.2.2.2.1 (E.2.2.2.2.2.2.2 n_Mo_lay) ok_Mo_lay cls_12 rfl km_Mo_182 kn_Mo_lay kv_Mo_lay (by decide +kernel)) ?_
  refine mk_cons (sn_goto (off := 19) E.1 (by decide +kernel) (by decide +kernel)) ?_
  refine mk_cons (sn_aload_n (k := 0) E.1 E.2.2.2.1 (by decide +kernel) rfl) ?_
  refine mk_cons (sn_callV (i := 186) E.1 E.2.2.2.1 E.2.2.2.2.1 E.2.2.2.2.2.1 (E.2.2.2.2.2.2.2 n_Mo_unit) ok_Mo_unit cls_12 rfl km_Mo_186 kn_Mo_unit kv_Mo_unit (by decide +kernel)) ?_
  refine mk_cons (sn_ifne (off := 5) E.1 (by decide +kernel) (by decide +kernel)) ?_
  refine mk_cons (sn_iconst (n := 0) E.1 (by decide +kernel) (by decide +kernel)) ?_
  refine mk_cons (sn_zret E.1 E.2.1 E.2.2.2.2.2.2.1 (by decide +kernel)) ?_
  refine mk_cons (sn_aload_n (k := 0) E.1 E.2.2.2.1 (by decide +kernel) rfl) ?_
  refine mk_cons (sn_bipush (n := 15) E.1 (by decide +kernel) (by decide +kernel)) ?_
  refine mk_cons (sn_iconst (n := 0) E.1 (by decide +kernel) (by decide +kernel)) ?_
  refine mk_cons (sn_callV (i := 182) E.1 E.2.2.2.1 E.2.2.2.2.1 E.2.2.2.2.2.1 (E.2.2.2.2.2.2.2 n_Mo_lay) ok_Mo_lay cls_12 rfl km_Mo_182 kn_Mo_lay kv_Mo_lay (by decide +kernel)) ?_
  refine mk_cons (sn_goto (off := (-103)) E.1 (by decide +kernel) (by decide +kernel)) ?_
  refine mk_cons (sn_iconst (n := 1) E.1 (by decide +kernel) (by decide +kernel)) ?_
  refine mk_cons (sn_zret E.1 E.2.1 E.2.2.2.2.2.2.1 (by decide +kernel)) ?_
  exact mk_nil
set_option maxRecDepth 100000 in
set_option maxHeartbeats 4000000 in
theorem rw_Mo_unit : mk_Rows n_Mo_unit := by
  intro p l e R s m args below meth c D cy b sk lim cr Q n0 d E
  show ∀ q ∈ t_Mo_unit, _
  refine mk_cons (sn_aload_n (k := 0) E.1 E.2.2.2.1 (by decide +kernel) rfl) ?_
  refine mk_cons (sn_getI (i := 145) (c0 := 0) E.1 cls_12 (by decide) rfl (by decide) kf_Mo_145 (by decide +kernel)) ?_
  refine mk_cons (sn_bipush (n := 41) E.1 (by decide +kernel) (by decide +kernel)) ?_
  refine mk_cons (sn_bipush (n := 46) E.1 (by decide +kernel) (by decide +kernel)) ?_
  refine mk_cons (sn_callS (i := 72) E.1 E.2.2.2.1 E.2.2.2.2.1 E.2.2.2.2.2.1 (E.2.2.2.2.2.2.2 n_Mo_isIn) ok_Mo_isIn km_Mo_72 ks_Mo_isIn (by decide +kernel)) ?_
  refine mk_cons (sn_istore_n (k := 1) E.1 (by decide +kernel) rfl (by decide +kernel)) ?_
  refine mk_cons (sn_aload_n (k := 0) E.1 E.2.2.2.1 (by decide +kernel) rfl) ?_
  refine mk_cons (sn_getI (i := 145) (c0 := 0) E.1 cls_12 (by decide) rfl (by decide) kf_Mo_145 (by decide +kernel)) ?_
  refine mk_cons (sn_iconst (n := 2) E.1 (by decide +kernel) (by decide +kernel)) ?_
  refine mk_cons (sn_ceq (off := 13) E.1 (by decide +kernel) (by decide +kernel)) ?_
  refine mk_cons (sn_iload_n (k := 1) E.1 (by decide +kernel) rfl) ?_
  refine mk_cons (sn_ifne (off := 9) E.1 (by decide +kernel) (by decide +kernel)) ?_
  refine mk_cons (sn_aload_n (k := 0) E.1 E.2.2.2.1 (by decide +kernel) rfl) ?_
  refine mk_cons (sn_iconst (n := 1) E.1 (by decide +kernel) (by decide +kernel)) ?_
  refine mk_cons (sn_callV (i := 166) E.1 E.2.2.2.1 E.2.2.2.2.1 E.2.2.2.2.2.1 (E.2.2.2.2.2.2.2 n_Mo_bad) ok_Mo_bad cls_12 rfl km_Mo_166 kn_Mo_bad kv_Mo_bad (by decide +kernel)) ?_
  refine mk_cons (sn_zret E.1 E.2.1 E.2.2.2.2.2.2.1 (by decide +kernel)) ?_
  refine mk_cons (sn_aload_n (k := 0) E.1 E.2.2.2.1 (by decide +kernel) rfl) ?_
  refine mk_cons (sn_iload_n (k := 1) E.1 (by decide +kernel) rfl) ?_
  refine mk_cons (sn_ifeq (off := 13) E.1 (by decide +kernel) (by decide +kernel)) ?_
  refine mk_cons (sn_aload_n (k := 0) E.1 E.2.2.2.1 (by decide +kernel) rfl) ?_
  refine mk_cons (sn_getI (i := 145) (c0 := 0) E.1 cls_12 (by decide) rfl (by decide) kf_Mo_145 (by decide +kernel)) ?_
  refine mk_cons (sn_bipush (n := 40) E.1 (by decide +kernel) (by decide +kernel)) ?_
  refine mk_cons (sn_isub E.1 (by decide +kernel)) ?_
  refine mk_cons (sn_goto (off := 4) E.1 (by decide +kernel) (by decide +kernel)) ?_
  refine mk_cons (sn_iconst (n := 0) E.1 (by decide +kernel) (by decide +kernel)) ?_
  refine mk_cons (sn_aload_n (k := 0) E.1 E.2.2.2.1 (by decide +kernel) rfl) ?_
  refine mk_cons (sn_getI (i := 157) (c0 := 0) E.1 cls_12 (by decide) rfl (by decide) kf_Mo_157 (by decide +kernel)) ?_
  refine mk_cons (sn_callV (i := 182) E.1 E.2.2.2.1 E.2.2.2.2.1 E.2.2.2.2.2.1 (E.2.2.2.2.2.2.2 n_Mo_lay) ok_Mo_lay cls_12 rfl km_Mo_182 kn_Mo_lay kv_Mo_lay (by decide +kernel)) ?_
  refine mk_cons (sn_aload_n (k := 0) E.1 E.2.2.2.1 (by decide +kernel) rfl) ?_
  refine mk_cons (sn_callV (i := 169) E.1 E.2.2.2.1 E.2.2.2.2.1 E.2.2.2.2.2.1 (E.2.2.2.2.2.2.2 n_Mo_next0) ok_Mo_next0 cls_12 rfl km_Mo_169 kn_Mo_next0 kv_Mo_next0 (by decide +kernel)) ?_
  refine mk_cons (sn_iconst (n := 1) E.1 (by decide +kernel) (by decide +kernel)) ?_
  refine mk_cons (sn_zret E.1 E.2.1 E.2.2.2.2.2.2.1 (by decide +kernel)) ?_
  exact mk_nil
set_option maxRecDepth 100000 in
set_option maxHeartbeats 4000000 in
theorem rw_Mo_any : mk_Rows n_Mo_any := by
  intro p l e R s m args below meth c D cy b sk lim cr Q n0 d E
  show ∀ q ∈ t_Mo_any, _
  refine mk_cons (sn_aload_n (k := 0) E.1 E.2.2.2.1 (by decide +kernel) rfl) ?_
  refine mk_cons (sn_callV (i := 189) E.1 E.2.2.2.1 E.2.2.2.2.1 E.2.2.2.2.2.1 (E.2.2.2.2.2.2.2 n_Mo_every) ok_Mo_every cls_12 rfl km_Mo_189 kn_Mo_every kv_Mo_every (by decide +kernel)) ?_
  refine mk_cons (sn_ifne (off := 5) E.1 (by decide +kernel) (by decide +kernel)) ?_
  refine mk_cons (sn_iconst (n := 0) E.1 (by decide +kernel) (by decide +kernel)) ?_
  refine mk_cons (sn_zret E.1 E.2.1 E.2.2.2.2.2.2.1 (by decide +kernel)) ?_
  refine mk_cons (sn_aload_n (k := 0) E.1 E.2.2.2.1 (by decide +kernel) rfl) ?_
  refine mk_cons (sn_getI (i := 145) (c0 := 0) E.1 cls_12 (by decide) rfl (by decide) kf_Mo_145 (by decide +kernel)) ?_
  refine mk_cons (sn_iconst (n := 4) E.1 (by decide +kernel) (by decide +kernel)) ?_
  refine mk_cons (sn_cne (off := 26) E.1 (by decide +kernel) (by decide +kernel)) ?_
  refine mk_cons (sn_aload_n (k := 0) E.1 E.2.2.2.1 (by decide +kernel) rfl) ?_
  refine mk_cons (sn_callV (i := 169) E.1 E.2.2.2.1 E.2.2.2.2.1 E.2.2.2.2.2.1 (E.2.2.2.2.2.2.2 n_Mo_next0) ok_Mo_next0 cls_12 rfl km_Mo_169 kn_Mo_next0 kv_Mo_next0 (by decide +kernel)) ?_
  refine mk_cons (sn_aload_n (k := 0) E.1 E.2.2.2.1 (by decide +kernel) rfl) ?_
  refine mk_cons (sn_callV (i := 189) E.1 E.2.2.2.1 E.2.2.2.2.1 E.2.2.2.2.2.1 (E.2.2.2.2.2.2.2 n_Mo_every) ok_Mo_every cls_12 rfl km_Mo_189 kn_Mo_every kv_Mo_every (by decide +kernel)) ?_
  refine mk_cons (sn_ifne (off := 5) E.1 (by decide +kernel) (by decide +kernel)) ?_
  refine mk_cons (sn_iconst (n := 0) E.1 (by decide +kernel) (by decide +kernel)) ?_
  refine mk_cons (sn_zret E.1 E.2.1 E.2.2.2.2.2.2.1 (by decide +kernel)) ?_
  refine mk_cons (sn_aload_n (k := 0) E.1 E.2.2.2.1 (by decide +kernel) rfl) ?_
  refine mk_cons (sn_bipush (n := 22) E.1 (by decide +kernel) (by decide +kernel)) ?_
  refine mk_cons (sn_iconst (n := 0) E.1 (by decide +kernel) (by decide +kernel)) ?_
  refine mk_cons (sn_callV (i := 182) E.1 E.2.2.2.1 E.2.2.2.2.1 E.2.2.2.2.2.1 (E.2.2.2.2.2.2.2 n_Mo_lay) ok_Mo_lay cls_12 rfl km_Mo_182 kn_Mo_lay kv_Mo_lay (by decide +kernel)) ?_
  refine mk_cons (sn_goto (off := (-28)) E.1 (by decide +kernel) (by decide +kernel)) ?_
  refine mk_cons (sn_iconst (n := 1) E.1 (by decide +kernel) (by decide +kernel)) ?_
  refine mk_cons (sn_zret E.1 E.2.1 E.2.2.2.2.2.2.1 (by decide +kernel)) ?_
  exact mk_nil
set_option maxRecDepth 100000 in
set_option maxHeartbeats 4000000 in
theorem rw_Mo_every : mk_Rows n_Mo_every := by
  intro p l e R s m args below meth c D cy b sk lim cr Q n0 d E
  show ∀ q ∈ t_Mo_every, _
  refine mk_cons (sn_aload_n (k := 0) E.1 E.2.2.2.1 (by decide +kernel) rfl) ?_
  refine mk_cons (sn_callV (i := 192) E.1 E.2.2.2.1 E.2.2.2.2.1 E.2.2.2.2.2.1 (E.2.2.2.2.2.2.2 n_Mo_oneTest) ok_Mo_oneTest cls_12 rfl km_Mo_192 kn_Mo_oneTest kv_Mo_oneTest (by decide +kernel)) ?_
  refine mk_cons (sn_ifne (off := 5) E.1 (by decide +kernel) (by decide +kernel)) ?_
  refine mk_cons (sn_iconst (n := 0) E.1 (by decide +kernel) (by decide +kernel)) ?_
  refine mk_cons (sn_zret E.1 E.2.1 E.2.2.2.2.2.2.1 (by decide +kernel)) ?_
  refine mk_cons (sn_aload_n (k := 0) E.1 E.2.2.2.1 (by decide +kernel) rfl) ?_
  refine mk_cons (sn_getI (i := 145) (c0 := 0) E.1 cls_12 (by decide) rfl (by decide) kf_Mo_145 (by decide +kernel)) ?_
  refine mk_cons (sn_iconst (n := 5) E.1 (by decide +kernel) (by decide +kernel)) ?_
  refine mk_cons (sn_cne (off := 26) E.1 (by decide +kernel) (by decide +kernel)) ?_
  refine mk_cons (sn_aload_n (k := 0) E.1 E.2.2.2.1 (by decide +kernel) rfl) ?_
  refine mk_cons (sn_callV (i := 169) E.1 E.2.2.2.1 E.2.2.2.2.1 E.2.2.2.2.2.1 (E.2.2.2.2.2.2.2 n_Mo_next0) ok_Mo_next0 cls_12 rfl km_Mo_169 kn_Mo_next0 kv_Mo_next0 (by decide +kernel)) ?_
  refine mk_cons (sn_aload_n (k := 0) E.1 E.2.2.2.1 (by decide +kernel) rfl) ?_
  refine mk_cons (sn_callV (i := 192) E.1 E.2.2.2.1 E.2.2.2.2.1 E.2.2.2.2.2.1 (E.2.2.2.2.2.2.2 n_Mo_oneTest) ok_Mo_oneTest cls_12 rfl km_Mo_192 kn_Mo_oneTest kv_Mo_oneTest (by decide +kernel)) ?_
  refine mk_cons (sn_ifne (off := 5) E.1 (by decide +kernel) (by decide +kernel)) ?_
  refine mk_cons (sn_iconst (n := 0) E.1 (by decide +kernel) (by decide +kernel)) ?_
  refine mk_cons (sn_zret E.1 E.2.1 E.2.2.2.2.2.2.1 (by decide +kernel)) ?_
  refine mk_cons (sn_aload_n (k := 0) E.1 E.2.2.2.1 (by decide +kernel) rfl) ?_
  refine mk_cons (sn_bipush (n := 21) E.1 (by decide +kernel) (by decide +kernel)) ?_
  refine mk_cons (sn_iconst (n := 0) E.1 (by decide +kernel) (by decide +kernel)) ?_
  refine mk_cons (sn_callV (i := 182) E.1 E.2.2.2.1 E.2.2.2.2.1 E.2.2.2.2.2.1 (E.2.2.2.2.2.2.2 n_Mo_lay) ok_Mo_lay cls_12 rfl km_Mo_182 kn_Mo_lay kv_Mo_lay (by decide +kernel)) ?_
  refine mk_cons (sn_goto (off := (-28)) E.1 (by decide +kernel) (by decide +kernel)) ?_
  refine mk_cons (sn_iconst (n := 1) E.1 (by decide +kernel) (by decide +kernel)) ?_
  refine mk_cons (sn_zret E.1 E.2.1 E.2.2.2.2.2.2.1 (by decide +kernel)) ?_
  exact mk_nil
