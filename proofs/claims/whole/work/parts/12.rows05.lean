set_option maxRecDepth 100000 in
set_option maxHeartbeats 4000000 in
theorem rw_LS_init : mk_Rows n_LS_init := by
  intro p l e R s m args below meth c D cy b sk lim cr Q n0 d E
  show ∀ q ∈ t_LS_init, _
  refine mk_cons (sn_aload_n (k := 0) E.1 E.2.2.2.1 (by decide +kernel) rfl) ?_
  refine mk_cons (sn_oini (i := 3) E.1 km_LS_3 kn_oini kd_oini (by decide +kernel)) ?_
  refine mk_cons (sn_aload_n (k := 0) E.1 E.2.2.2.1 (by decide +kernel) rfl) ?_
  refine mk_cons (sn_new (i := 9) E.1 cls_10 rfl kk_LS_9 ki_World kz_World (by decide +kernel)) ?_
  refine mk_cons (sn_dup E.1 (by decide +kernel)) ?_
  refine mk_cons (sn_callI (i := 11) E.1 E.2.2.2.1 E.2.2.2.2.1 E.2.2.2.2.2.1 (E.2.2.2.2.2.2.2 n_World_init) ok_World_init rfl rfl km_LS_11 kn_World_init (by decide +kernel)) ?_
  refine mk_cons (sn_putRF (i := 12) E.1 E.2.2.1 cls_11 (by decide) rfl (Or.inl ⟨_, rfl⟩) rfl rfl kf_LS_12 (by decide +kernel)) ?_
  refine mk_cons (sn_aload_n (k := 0) E.1 E.2.2.2.1 (by decide +kernel) rfl) ?_
  refine mk_cons (sn_new (i := 16) E.1 cls_5 rfl kk_LS_16 ki_Past kz_Past (by decide +kernel)) ?_
  refine mk_cons (sn_dup E.1 (by decide +kernel)) ?_
  refine mk_cons (sn_callI (i := 18) E.1 E.2.2.2.1 E.2.2.2.2.1 E.2.2.2.2.2.1 (E.2.2.2.2.2.2.2 n_Past_init) ok_Past_init rfl rfl km_LS_18 kn_Past_init (by decide +kernel)) ?_
  refine mk_cons (sn_putRF (i := 19) E.1 E.2.2.1 cls_11 (by decide) rfl (Or.inl ⟨_, rfl⟩) rfl rfl kf_LS_19 (by decide +kernel)) ?_
  refine mk_cons (sn_aload_n (k := 0) E.1 E.2.2.2.1 (by decide +kernel) rfl) ?_
  refine mk_cons (sn_new (i := 23) E.1 cls_9 rfl kk_LS_23 ki_Tape kz_Tape (by decide +kernel)) ?_
  refine mk_cons (sn_dup E.1 (by decide +kernel)) ?_
  refine mk_cons (sn_callI (i := 25) E.1 E.2.2.2.1 E.2.2.2.2.1 E.2.2.2.2.2.1 (E.2.2.2.2.2.2.2 n_Tape_init) ok_Tape_init rfl rfl km_LS_25 kn_Tape_init (by decide +kernel)) ?_
  refine mk_cons (sn_putRF (i := 26) E.1 E.2.2.1 cls_11 (by decide) rfl (Or.inl ⟨_, rfl⟩) rfl rfl kf_LS_26 (by decide +kernel)) ?_
  refine mk_cons (sn_aload_n (k := 0) E.1 E.2.2.2.1 (by decide +kernel) rfl) ?_
  refine mk_cons (sn_new (i := 30) E.1 cls_4 rfl kk_LS_30 ki_Parser kz_Parser (by decide +kernel)) ?_
  refine mk_cons (sn_dup E.1 (by decide +kernel)) ?_
  refine mk_cons (sn_aload_n (k := 0) E.1 E.2.2.2.1 (by decide +kernel) rfl) ?_
  refine mk_cons (sn_getR (i := 26) E.1 cls_11 (by decide) rfl kf_LS_26 (by decide +kernel)) ?_
  refine mk_cons (sn_callI (i := 32) E.1 E.2.2.2.1 E.2.2.2.2.1 E.2.2.2.2.2.1 (E.2.2.2.2.2.2.2 n_Parser_init) ok_Parser_init rfl rfl km_LS_32 kn_Parser_init (by decide +kernel)) ?_
  refine mk_cons (sn_putRF (i := 35) E.1 E.2.2.1 cls_11 (by decide) rfl (Or.inl ⟨_, rfl⟩) rfl rfl kf_LS_35 (by decide +kernel)) ?_
  refine mk_cons (sn_aload_n (k := 0) E.1 E.2.2.2.1 (by decide +kernel) rfl) ?_
  refine mk_cons (sn_new (i := 39) E.1 cls_0 rfl kk_LS_39 ki_Clerk kz_Clerk (by decide +kernel)) ?_
  refine mk_cons (sn_dup E.1 (by decide +kernel)) ?_
  refine mk_cons (sn_callI (i := 41) E.1 E.2.2.2.1 E.2.2.2.2.1 E.2.2.2.2.2.1 (E.2.2.2.2.2.2.2 n_Clerk_init) ok_Clerk_init rfl rfl km_LS_41 kn_Clerk_init (by decide +kernel)) ?_
  refine mk_cons (sn_putRF (i := 42) E.1 E.2.2.1 cls_11 (by decide) rfl (Or.inl ⟨_, rfl⟩) rfl rfl kf_LS_42 (by decide +kernel)) ?_
  refine mk_cons (sn_aload_n (k := 0) E.1 E.2.2.2.1 (by decide +kernel) rfl) ?_
  refine mk_cons (sn_new (i := 46) E.1 cls_8 rfl kk_LS_46 ki_Seeker kz_Seeker (by decide +kernel)) ?_
  refine mk_cons (sn_dup E.1 (by decide +kernel)) ?_
  refine mk_cons (sn_aload_n (k := 0) E.1 E.2.2.2.1 (by decide +kernel) rfl) ?_
  refine mk_cons (sn_getR (i := 42) E.1 cls_11 (by decide) rfl kf_LS_42 (by decide +kernel)) ?_
  refine mk_cons (sn_callI (i := 48) E.1 E.2.2.2.1 E.2.2.2.2.1 E.2.2.2.2.2.1 (E.2.2.2.2.2.2.2 n_Seeker_init) ok_Seeker_init rfl rfl km_LS_48 kn_Seeker_init (by decide +kernel)) ?_
  refine mk_cons (sn_putRF (i := 51) E.1 E.2.2.1 cls_11 (by decide) rfl (Or.inl ⟨_, rfl⟩) rfl rfl kf_LS_51 (by decide +kernel)) ?_
  refine mk_cons (sn_aload_n (k := 0) E.1 E.2.2.2.1 (by decide +kernel) rfl) ?_
  refine mk_cons (sn_new (i := 55) E.1 cls_1 rfl kk_LS_55 ki_Coder kz_Coder (by decide +kernel)) ?_
  refine mk_cons (sn_dup E.1 (by decide +kernel)) ?_
  refine mk_cons (sn_aload_n (k := 0) E.1 E.2.2.2.1 (by decide +kernel) rfl) ?_
  refine mk_cons (sn_getR (i := 42) E.1 cls_11 (by decide) rfl kf_LS_42 (by decide +kernel)) ?_
  refine mk_cons (sn_callI (i := 57) E.1 E.2.2.2.1 E.2.2.2.2.1 E.2.2.2.2.2.1 (E.2.2.2.2.2.2.2 n_Coder_init) ok_Coder_init rfl rfl km_LS_57 kn_Coder_init (by decide +kernel)) ?_
  refine mk_cons (sn_putRF (i := 58) E.1 E.2.2.1 cls_11 (by decide) rfl (Or.inl ⟨_, rfl⟩) rfl rfl kf_LS_58 (by decide +kernel)) ?_
  refine mk_cons (sn_aload_n (k := 0) E.1 E.2.2.2.1 (by decide +kernel) rfl) ?_
  refine mk_cons (sn_new (i := 62) E.1 cls_6 rfl kk_LS_62 ki_Router kz_Router (by decide +kernel)) ?_
  refine mk_cons (sn_dup E.1 (by decide +kernel)) ?_
  refine mk_cons (sn_aload_n (k := 0) E.1 E.2.2.2.1 (by decide +kernel) rfl) ?_
  refine mk_cons (sn_getR (i := 42) E.1 cls_11 (by decide) rfl kf_LS_42 (by decide +kernel)) ?_
  refine mk_cons (sn_callI (i := 64) E.1 E.2.2.2.1 E.2.2.2.2.1 E.2.2.2.2.2.1 (E.2.2.2.2.2.2.2 n_Router_init) ok_Router_init rfl rfl km_LS_64 kn_Router_init (by decide +kernel)) ?_
  refine mk_cons (sn_putRF (i := 65) E.1 E.2.2.1 cls_11 (by decide) rfl (Or.inl ⟨_, rfl⟩) rfl rfl kf_LS_65 (by decide +kernel)) ?_
  refine mk_cons (sn_aload_n (k := 0) E.1 E.2.2.2.1 (by decide +kernel) rfl) ?_
  refine mk_cons (sn_new (i := 69) E.1 cls_3 rfl kk_LS_69 ki_Message kz_Message (by decide +kernel)) ?_
  refine mk_cons (sn_dup E.1 (by decide +kernel)) ?_
  refine mk_cons (sn_callI (i := 71) E.1 E.2.2.2.1 E.2.2.2.2.1 E.2.2.2.2.2.1 (E.2.2.2.2.2.2.2 n_Message_init) ok_Message_init rfl rfl km_LS_71 kn_Message_init (by decide +kernel)) ?_
  refine mk_cons (sn_putRF (i := 72) E.1 E.2.2.1 cls_11 (by decide) rfl (Or.inl ⟨_, rfl⟩) rfl rfl kf_LS_72 (by decide +kernel)) ?_
  refine mk_cons (sn_aload_n (k := 0) E.1 E.2.2.2.1 (by decide +kernel) rfl) ?_
  refine mk_cons (sn_iconst (n := 4) E.1 (by decide +kernel) (by decide +kernel)) ?_
  refine mk_cons (sn_newI E.1 ka_int (by decide +kernel)) ?_
  refine mk_cons (sn_putRF (i := 76) E.1 E.2.2.1 cls_11 (by decide) rfl (Or.inr ⟨_, rfl⟩) rfl rfl kf_LS_76 (by decide +kernel)) ?_
  refine mk_cons (sn_aload_n (k := 0) E.1 E.2.2.2.1 (by decide +kernel) rfl) ?_
  refine mk_cons (sn_null E.1 (by decide +kernel)) ?_
  refine mk_cons (sn_putR (i := 80) E.1 cls_11 (by decide) rfl (Or.inl ⟨_, rfl⟩) rfl kf_LS_80 (by decide +kernel)) ?_
  refine mk_cons (sn_ret E.1 E.2.1 E.2.2.2.2.2.2.1 (by decide +kernel)) ?_
  exact mk_nil
set_option maxRecDepth 100000 in
set_option maxHeartbeats 4000000 in
theorem rw_LS_state : mk_Rows n_LS_state := by
  intro p l e R s m args below meth c D cy b sk lim cr Q n0 d E
  show ∀ q ∈ t_LS_state, _
  refine mk_cons (sn_aload_n (k := 0) E.1 E.2.2.2.1 (by decide +kernel) rfl) ?_
  refine mk_cons (sn_getR (i := 12) E.1 cls_11 (by decide) rfl kf_LS_12 (by decide +kernel)) ?_
  refine mk_cons (sn_getI (i := 83) (c0 := 0) E.1 cls_10 (by decide) rfl (by decide) kf_LS_83 (by decide +kernel)) ?_
  refine mk_cons (sn_istore_n (k := 2) E.1 (by decide +kernel) rfl (by decide +kernel)) ?_
  refine mk_cons (sn_aload_n (k := 0) E.1 E.2.2.2.1 (by decide +kernel) rfl) ?_
  refine mk_cons (sn_getR (i := 12) E.1 cls_11 (by decide) rfl kf_LS_12 (by decide +kernel)) ?_
  refine mk_cons (sn_iload_n (k := 1) E.1 (by decide +kernel) rfl) ?_
  refine mk_cons (sn_putI (i := 83) E.1 cls_10 (by decide) rfl rfl rfl kf_LS_83 (by decide +kernel)) ?_
  refine mk_cons (sn_iload_n (k := 2) E.1 (by decide +kernel) rfl) ?_
  refine mk_cons (sn_iret E.1 E.2.1 E.2.2.2.2.2.2.1 (by decide +kernel)) ?_
  exact mk_nil
set_option maxRecDepth 100000 in
set_option maxHeartbeats 4000000 in
theorem rw_LS_line : mk_Rows n_LS_line := by
  intro p l e R s m args below meth c D cy b sk lim cr Q n0 d E
  show ∀ q ∈ t_LS_line, _
  refine mk_cons (sn_iload_n (k := 1) E.1 (by decide +kernel) rfl) ?_
  refine mk_cons (sn_callS (i := 87) E.1 E.2.2.2.1 E.2.2.2.2.1 E.2.2.2.2.2.1 (E.2.2.2.2.2.2.2 n_LS_isStation) ok_LS_isStation km_LS_87 ks_LS_isStation (by decide +kernel)) ?_
  refine mk_cons (sn_ifeq (off := 50) E.1 (by decide +kernel) (by decide +kernel)) ?_
  refine mk_cons (sn_iload_n (k := 2) E.1 (by decide +kernel) rfl) ?_
  refine mk_cons (sn_callS (i := 87) E.1 E.2.2.2.1 E.2.2.2.2.1 E.2.2.2.2.2.1 (E.2.2.2.2.2.2.2 n_LS_isStation) ok_LS_isStation km_LS_87 ks_LS_isStation (by decide +kernel)) ?_
  refine mk_cons (sn_ifeq (off := 43) E.1 (by decide +kernel) (by decide +kernel)) ?_
  refine mk_cons (sn_iload_n (k := 1) E.1 (by decide +kernel) rfl) ?_
  refine mk_cons (sn_iload_n (k := 2) E.1 (by decide +kernel) rfl) ?_
  refine mk_cons (sn_ceq (off := 38) E.1 (by decide +kernel) (by decide +kernel)) ?_
  refine mk_cons (sn_iload_n (k := 3) E.1 (by decide +kernel) rfl) ?_
  refine mk_cons (sn_callS (i := 91) E.1 E.2.2.2.1 E.2.2.2.2.1 E.2.2.2.2.2.1 (E.2.2.2.2.2.2.2 n_LS_isKind) ok_LS_isKind km_LS_91 ks_LS_isKind (by decide +kernel)) ?_
  refine mk_cons (sn_ifeq (off := 31) E.1 (by decide +kernel) (by decide +kernel)) ?_
  refine mk_cons (sn_iload E.1 (by decide +kernel)) ?_
  refine mk_cons (sn_callS (i := 94) E.1 E.2.2.2.1 E.2.2.2.2.1 E.2.2.2.2.2.1 (E.2.2.2.2.2.2.2 n_LS_isSet) ok_LS_isSet km_LS_94 ks_LS_isSet (by decide +kernel)) ?_
  refine mk_cons (sn_ifeq (off := 23) E.1 (by decide +kernel) (by decide +kernel)) ?_
  refine mk_cons (sn_iload E.1 (by decide +kernel)) ?_
  refine mk_cons (sn_callS (i := 94) E.1 E.2.2.2.1 E.2.2.2.2.1 E.2.2.2.2.2.1 (E.2.2.2.2.2.2.2 n_LS_isSet) ok_LS_isSet km_LS_94 ks_LS_isSet (by decide +kernel)) ?_
  refine mk_cons (sn_ifeq (off := 15) E.1 (by decide +kernel) (by decide +kernel)) ?_
  refine mk_cons (sn_iload E.1 (by decide +kernel)) ?_
  refine mk_cons (sn_callS (i := 97) E.1 E.2.2.2.1 E.2.2.2.2.1 E.2.2.2.2.2.1 (E.2.2.2.2.2.2.2 n_LS_isOdds) ok_LS_isOdds km_LS_97 ks_LS_isOdds (by decide +kernel)) ?_
  refine mk_cons (sn_ifeq (off := 7) E.1 (by decide +kernel) (by decide +kernel)) ?_
  refine mk_cons (sn_iconst (n := 1) E.1 (by decide +kernel) (by decide +kernel)) ?_
  refine mk_cons (sn_goto (off := 4) E.1 (by decide +kernel) (by decide +kernel)) ?_
  refine mk_cons (sn_iconst (n := 0) E.1 (by decide +kernel) (by decide +kernel)) ?_
  refine mk_cons (sn_istore E.1 (by decide +kernel) (by decide +kernel)) ?_
  refine mk_cons (sn_iload E.1 (by decide +kernel)) ?_
  refine mk_cons (sn_ifeq (off := 15) E.1 (by decide +kernel) (by decide +kernel)) ?_
  refine mk_cons (sn_aload_n (k := 0) E.1 E.2.2.2.1 (by decide +kernel) rfl) ?_
  refine mk_cons (sn_getR (i := 12) E.1 cls_11 (by decide) rfl kf_LS_12 (by decide +kernel)) ?_
  refine mk_cons (sn_getI (i := 100) (c0 := 0) E.1 cls_10 (by decide) rfl (by decide) kf_LS_100 (by decide +kernel)) ?_
  refine mk_cons (sn_bipush (n := 12) E.1 (by decide +kernel) (by decide +kernel)) ?_
  refine mk_cons (sn_clt (off := 5) E.1 (by decide +kernel) (by decide +kernel)) ?_
  refine mk_cons (sn_iconst (n := (-1)) E.1 (by decide +kernel) (by decide +kernel)) ?_
  refine mk_cons (sn_iret E.1 E.2.1 E.2.2.2.2.2.2.1 (by decide +kernel)) ?_
  refine mk_cons (sn_aload_n (k := 0) E.1 E.2.2.2.1 (by decide +kernel) rfl) ?_
  refine mk_cons (sn_getR (i := 12) E.1 cls_11 (by decide) rfl kf_LS_12 (by decide +kernel)) ?_
  refine mk_cons (sn_getR (i := 103) E.1 cls_10 (by decide) rfl kf_LS_103 (by decide +kernel)) ?_
  refine mk_cons (sn_aload_n (k := 0) E.1 E.2.2.2.1 (by decide +kernel) rfl) ?_
  refine mk_cons (sn_getR (i := 12) E.1 cls_11 (by decide) rfl kf_LS_12 (by decide +kernel)) ?_
  refine mk_cons (sn_getI (i := 100) (c0 := 0) E.1 cls_10 (by decide) rfl (by decide) kf_LS_100 (by decide +kernel)) ?_
  refine mk_cons (sn_aald E.1 (by decide +kernel)) ?_
  refine mk_cons (sn_astore E.1 (by decide +kernel) (by decide +kernel)) ?_
  refine mk_cons (sn_aload E.1 E.2.2.2.1 (by decide +kernel)) ?_
  refine mk_cons (sn_iload_n (k := 1) E.1 (by decide +kernel) rfl) ?_
  refine mk_cons (sn_putI (i := 107) E.1 cls_2 (by decide) rfl rfl rfl kf_LS_107 (by decide +kernel)) ?_
  refine mk_cons (sn_aload E.1 E.2.2.2.1 (by decide +kernel)) ?_
  refine mk_cons (sn_iload_n (k := 2) E.1 (by decide +kernel) rfl) ?_
  refine mk_cons (sn_putI (i := 112) E.1 cls_2 (by decide) rfl rfl rfl kf_LS_112 (by decide +kernel)) ?_
  refine mk_cons (sn_aload E.1 E.2.2.2.1 (by decide +kernel)) ?_
  refine mk_cons (sn_iload_n (k := 3) E.1 (by decide +kernel) rfl) ?_
  refine mk_cons (sn_putI (i := 115) E.1 cls_2 (by decide) rfl rfl rfl kf_LS_115 (by decide +kernel)) ?_
  refine mk_cons (sn_aload E.1 E.2.2.2.1 (by decide +kernel)) ?_
  refine mk_cons (sn_iload E.1 (by decide +kernel)) ?_
  refine mk_cons (sn_putI (i := 118) E.1 cls_2 (by decide) rfl rfl rfl kf_LS_118 (by decide +kernel)) ?_
  refine mk_cons (sn_aload E.1 E.2.2.2.1 (by decide +kernel)) ?_
  refine mk_cons (sn_iload E.1 (by decide +kernel)) ?_
  refine mk_cons (sn_putI (i := 121) E.1 cls_2 (by decide) rfl rfl rfl kf_LS_121 (by decide +kernel)) ?_
  refine mk_cons (sn_aload E.1 E.2.2.2.1 (by decide +kernel)) ?_
  refine mk_cons (sn_iload E.1 (by decide +kernel)) ?_
  refine mk_cons (sn_putI (i := 124) E.1 cls_2 (by decide) rfl rfl rfl kf_LS_124 (by decide +kernel)) ?_
  refine mk_cons (sn_aload E.1 E.2.2.2.1 (by decide +kernel)) ?_
  refine mk_cons (sn_iconst (n := 0) E.1 (by decide +kernel) (by decide +kernel)) ?_
  refine mk_cons (sn_putI (i := 127) E.1 cls_2 (by decide) rfl rfl rfl kf_LS_127 (by decide +kernel)) ?_
  refine mk_cons (sn_aload_n (k := 0) E.1 E.2.2.2.1 (by decide +kernel) rfl) ?_
  refine mk_cons (sn_getR (i := 12) E.1 cls_11 (by decide) rfl kf_LS_12 (by decide +kernel)) ?_
  refine mk_cons (sn_dup E.1 (by decide +kernel)) ?_
  refine mk_cons (sn_getI (i := 100) (c0 := 0) E.1 cls_10 (by decide) rfl (by decide) kf_LS_100 (by decide +kernel)) ?_
  refine mk_cons (sn_iconst (n := 1) E.1 (by decide +kernel) (by decide +kernel)) ?_
  refine mk_cons (sn_iadd E.1 (by decide +kernel)) ?_
  refine mk_cons (sn_putI (i := 100) E.1 cls_10 (by decide) rfl rfl rfl kf_LS_100 (by decide +kernel)) ?_
  refine mk_cons (sn_aload_n (k := 0) E.1 E.2.2.2.1 (by decide +kernel) rfl) ?_
  refine mk_cons (sn_getR (i := 19) E.1 cls_11 (by decide) rfl kf_LS_19 (by decide +kernel)) ?_
  refine mk_cons (sn_callV (i := 130) E.1 E.2.2.2.1 E.2.2.2.2.1 E.2.2.2.2.2.1 (E.2.2.2.2.2.2.2 n_Past_forget) ok_Past_forget cls_5 rfl km_LS_130 kn_Past_forget kv_Past_forget (by decide +kernel)) ?_
  refine mk_cons (sn_aload_n (k := 0) E.1 E.2.2.2.1 (by decide +kernel) rfl) ?_
  refine mk_cons (sn_getR (i := 12) E.1 cls_11 (by decide) rfl kf_LS_12 (by decide +kernel)) ?_
  refine mk_cons (sn_getI (i := 100) (c0 := 0) E.1 cls_10 (by decide) rfl (by decide) kf_LS_100 (by decide +kernel)) ?_
  refine mk_cons (sn_iconst (n := 1) E.1 (by decide +kernel) (by decide +kernel)) ?_
  refine mk_cons (sn_isub E.1 (by decide +kernel)) ?_
  refine mk_cons (sn_iret E.1 E.2.1 E.2.2.2.2.2.2.1 (by decide +kernel)) ?_
  exact mk_nil
set_option maxRecDepth 100000 in
set_option maxHeartbeats 4000000 in
theorem rw_LS_set : mk_Rows n_LS_set := by
  intro p l e R s m args below meth c D cy b sk lim cr Q n0 d E
  show ∀ q ∈ t_LS_set, _
  refine mk_cons (sn_aload_n (k := 0) E.1 E.2.2.2.1 (by decide +kernel) rfl) ?_
  refine mk_cons (sn_getR (i := 12) E.1 cls_11 (by decide) rfl kf_LS_12 (by decide +kernel)) ?_
  refine mk_cons (sn_iload_n (k := 1) E.1 (by decide +kernel) rfl) ?_
  refine mk_cons (sn_callV (i := 133) E.1 E.2.2.2.1 E.2.2.2.2.1 E.2.2.2.2.2.1 (E.2.2.2.2.2.2.2 n_World_hasLine) ok_World_hasLine cls_10 rfl km_LS_133 kn_World_hasLine kv_World_hasLine (by decide +kernel)) ?_
  refine mk_cons (sn_ifeq (off := 11) E.1 (by decide +kernel) (by decide +kernel)) ?_
  refine mk_cons (sn_iload_n (k := 2) E.1 (by decide +kernel) rfl) ?_
  refine mk_cons (sn_iload_n (k := 3) E.1 (by decide +kernel) rfl) ?_
  refine mk_cons (sn_callS (i := 136) E.1 E.2.2.2.1 E.2.2.2.2.1 E.2.2.2.2.2.1 (E.2.2.2.2.2.2.2 n_LS_canBeSet) ok_LS_canBeSet km_LS_136 ks_LS_canBeSet (by decide +kernel)) ?_
  refine mk_cons (sn_ifne (off := 5) E.1 (by decide +kernel) (by decide +kernel)) ?_
  refine mk_cons (sn_iconst (n := 0) E.1 (by decide +kernel) (by decide +kernel)) ?_
  refine mk_cons (sn_zret E.1 E.2.1 E.2.2.2.2.2.2.1 (by decide +kernel)) ?_
  refine mk_cons (sn_aload_n (k := 0) E.1 E.2.2.2.1 (by decide +kernel) rfl) ?_
  refine mk_cons (sn_getR (i := 12) E.1 cls_11 (by decide) rfl kf_LS_12 (by decide +kernel)) ?_
  refine mk_cons (sn_getR (i := 103) E.1 cls_10 (by decide) rfl kf_LS_103 (by decide +kernel)) ?_
  refine mk_cons (sn_iload_n (k := 1) E.1 (by decide +kernel) rfl) ?_
  refine mk_cons (sn_aald E.1 (by decide +kernel)) ?_
  refine mk_cons (sn_astore E.1 (by decide +kernel) (by decide +kernel)) ?_
  refine mk_cons (sn_iload_n (k := 2) E.1 (by decide +kernel) rfl) ?_
  refine mk_cons (sn_tsw (dflt := 67) (lo := 0) (hi := 3) (offs := #[31, 40, 49, 58]) (len := 31) E.1 (by decide +kernel) (by decide +kernel) (by decide +kernel) (by decide +kernel) (by decide +kernel) (by decide +kernel)) ?_
  refine mk_cons (sn_aload E.1 E.2.2.2.1 (by decide +kernel)) ?_
  refine mk_cons (sn_iload_n (k := 3) E.1 (by decide +kernel) rfl) ?_
  refine mk_cons (sn_putI (i := 118) E.1 cls_2 (by decide) rfl rfl rfl kf_LS_118 (by decide +kernel)) ?_
  refine mk_cons (sn_goto (off := 36) E.1 (by decide +kernel) (by decide +kernel)) ?_
  refine mk_cons (sn_aload E.1 E.2.2.2.1 (by decide +kernel)) ?_
  refine mk_cons (sn_iload_n (k := 3) E.1 (by decide +kernel) rfl) ?_
  refine mk_cons (sn_putI (i := 121) E.1 cls_2 (by decide) rfl rfl rfl kf_LS_121 (by decide +kernel)) ?_
  refine mk_cons (sn_goto (off := 27) E.1 (by decide +kernel) (by decide +kernel)) ?_
  refine mk_cons (sn_aload E.1 E.2.2.2.1 (by decide +kernel)) ?_
  refine mk_cons (sn_iload_n (k := 3) E.1 (by decide +kernel) rfl) ?_
  refine mk_cons (sn_putI (i := 124) E.1 cls_2 (by decide) rfl rfl rfl kf_LS_124 (by decide +kernel)) ?_
  refine mk_cons (sn_goto (off := 18) E.1 (by decide +kernel) (by decide +kernel)) ?_
  refine mk_cons (sn_aload E.1 E.2.2.2.1 (by decide +kernel)) ?_
  refine mk_cons (sn_iload_n (k := 3) E.1 (by decide +kernel) rfl) ?_
  refine mk_cons (sn_putI (i := 115) E.1 cls_2 (by decide) rfl rfl rfl kf_LS_115 (by decide +kernel)) ?_
  refine mk_cons (sn_goto (off := 9) E.1 (by decide +kernel) (by decide +kernel)) ?_
  refine mk_cons (sn_aload E.1 E.2.2.2.1 (by decide +kernel)) ?_
  refine mk_cons (sn_iload_n (k := 3) E.1 (by decide +kernel) rfl) ?_
  refine mk_cons (sn_putI (i := 127) E.1 cls_2 (by decide) rfl rfl rfl kf_LS_127 (by decide +kernel)) ?_
  refine mk_cons (sn_aload_n (k := 0) E.1 E.2.2.2.1 (by decide +kernel) rfl) ?_
  refine mk_cons (sn_getR (i := 19) E.1 cls_11 (by decide) rfl kf_LS_19 (by decide +kernel)) ?_
  refine mk_cons (sn_callV (i := 130) E.1 E.2.2.2.1 E.2.2.2.2.1 E.2.2.2.2.2.1 (E.2.2.2.2.2.2.2 n_Past_forget) ok_Past_forget cls_5 rfl km_LS_130 kn_Past_forget kv_Past_forget (by decide +kernel)) ?_
  refine mk_cons (sn_iconst (n := 1) E.1 (by decide +kernel) (by decide +kernel)) ?_
  refine mk_cons (sn_zret E.1 E.2.1 E.2.2.2.2.2.2.1 (by decide +kernel)) ?_
  exact mk_nil
set_option maxRecDepth 100000 in
set_option maxHeartbeats 4000000 in
theorem rw_LS_write : mk_Rows n_LS_write := by
  intro p l e R s m args below meth c D cy b sk lim cr Q n0 d E
  show ∀ q ∈ t_LS_write, _
  refine mk_cons (sn_iload_n (k := 1) E.1 (by decide +kernel) rfl) ?_
  refine mk_cons (sn_ifeq (off := 8) E.1 (by decide +kernel) (by decide +kernel)) ?_
  refine mk_cons (sn_iload_n (k := 1) E.1 (by decide +kernel) rfl) ?_
  refine mk_cons (sn_iconst (n := 1) E.1 (by decide +kernel) (by decide +kernel)) ?_
  refine mk_cons (sn_cne (off := 10) E.1 (by decide +kernel) (by decide +kernel)) ?_
  refine mk_cons (sn_iload_n (k := 2) E.1 (by decide +kernel) rfl) ?_
  refine mk_cons (sn_callS (i := 140) E.1 E.2.2.2.1 E.2.2.2.2.1 E.2.2.2.2.2.1 (E.2.2.2.2.2.2.2 n_LS_isDigit) ok_LS_isDigit km_LS_140 ks_LS_isDigit (by decide +kernel)) ?_
  refine mk_cons (sn_ifne (off := 5) E.1 (by decide +kernel) (by decide +kernel)) ?_
  refine mk_cons (sn_iconst (n := (-1)) E.1 (by decide +kernel) (by decide +kernel)) ?_
  refine mk_cons (sn_iret E.1 E.2.1 E.2.2.2.2.2.2.1 (by decide +kernel)) ?_
  refine mk_cons (sn_aload_n (k := 0) E.1 E.2.2.2.1 (by decide +kernel) rfl) ?_
  refine mk_cons (sn_iload_n (k := 1) E.1 (by decide +kernel) rfl) ?_
  refine mk_cons (sn_callV (i := 143) E.1 E.2.2.2.1 E.2.2.2.2.1 E.2.2.2.2.2.1 (E.2.2.2.2.2.2.2 n_LS_messageOf) ok_LS_messageOf cls_11 rfl km_LS_143 kn_LS_messageOf kv_LS_messageOf (by decide +kernel)) ?_
  refine mk_cons (sn_astore_n (k := 3) E.1 (by decide +kernel) rfl (by decide +kernel)) ?_
  refine mk_cons (sn_aload_n (k := 3) E.1 E.2.2.2.1 (by decide +kernel) rfl) ?_
  refine mk_cons (sn_getI (i := 147) (c0 := 0) E.1 cls_3 (by decide) rfl (by decide) kf_LS_147 (by decide +kernel)) ?_
  refine mk_cons (sn_bipush (n := 12) E.1 (by decide +kernel) (by decide +kernel)) ?_
  refine mk_cons (sn_clt (off := 5) E.1 (by decide +kernel) (by decide +kernel)) ?_
  refine mk_cons (sn_iconst (n := (-1)) E.1 (by decide +kernel) (by decide +kernel)) ?_
  refine mk_cons (sn_iret E.1 E.2.1 E.2.2.2.2.2.2.1 (by decide +kernel)) ?_
  refine mk_cons (sn_aload_n (k := 3) E.1 E.2.2.2.1 (by decide +kernel) rfl) ?_
  refine mk_cons (sn_iload_n (k := 2) E.1 (by decide +kernel) rfl) ?_
  refine mk_cons (sn_callV (i := 150) E.1 E.2.2.2.1 E.2.2.2.2.1 E.2.2.2.2.2.1 (E.2.2.2.2.2.2.2 n_Message_append) ok_Message_append cls_3 rfl km_LS_150 kn_Message_append kv_Message_append (by decide +kernel)) ?_
  refine mk_cons (sn_aload_n (k := 3) E.1 E.2.2.2.1 (by decide +kernel) rfl) ?_
  refine mk_cons (sn_getI (i := 147) (c0 := 0) E.1 cls_3 (by decide) rfl (by decide) kf_LS_147 (by decide +kernel)) ?_
  refine mk_cons (sn_iret E.1 E.2.1 E.2.2.2.2.2.2.1 (by decide +kernel)) ?_
  exact mk_nil
set_option maxRecDepth 100000 in
set_option maxHeartbeats 4000000 in
theorem rw_LS_blank : mk_Rows n_LS_blank := by
  intro p l e R s m args below meth c D cy b sk lim cr Q n0 d E
  show ∀ q ∈ t_LS_blank, _
  refine mk_cons (sn_iload_n (k := 1) E.1 (by decide +kernel) rfl) ?_
  refine mk_cons (sn_ifeq (off := 10) E.1 (by decide +kernel) (by decide +kernel)) ?_
  refine mk_cons (sn_iload_n (k := 1) E.1 (by decide +kernel) rfl) ?_
  refine mk_cons (sn_iconst (n := 1) E.1 (by decide +kernel) (by decide +kernel)) ?_
  refine mk_cons (sn_ceq (off := 5) E.1 (by decide +kernel) (by decide +kernel)) ?_
  refine mk_cons (sn_iconst (n := (-1)) E.1 (by decide +kernel) (by decide +kernel)) ?_
  refine mk_cons (sn_iret E.1 E.2.1 E.2.2.2.2.2.2.1 (by decide +kernel)) ?_
  refine mk_cons (sn_aload_n (k := 0) E.1 E.2.2.2.1 (by decide +kernel) rfl) ?_
  refine mk_cons (sn_iload_n (k := 1) E.1 (by decide +kernel) rfl) ?_
  refine mk_cons (sn_callV (i := 143) E.1 E.2.2.2.1 E.2.2.2.2.1 E.2.2.2.2.2.1 (E.2.2.2.2.2.2.2 n_LS_messageOf) ok_LS_messageOf cls_11 rfl km_LS_143 kn_LS_messageOf kv_LS_messageOf (by decide +kernel)) ?_
  refine mk_cons (sn_astore_n (k := 2) E.1 (by decide +kernel) rfl (by decide +kernel)) ?_
  refine mk_cons (sn_aload_n (k := 2) E.1 E.2.2.2.1 (by decide +kernel) rfl) ?_
  refine mk_cons (sn_getI (i := 147) (c0 := 0) E.1 cls_3 (by decide) rfl (by decide) kf_LS_147 (by decide +kernel)) ?_
  refine mk_cons (sn_istore_n (k := 3) E.1 (by decide +kernel) rfl (by decide +kernel)) ?_
  refine mk_cons (sn_aload_n (k := 2) E.1 E.2.2.2.1 (by decide +kernel) rfl) ?_
  refine mk_cons (sn_callV (i := 154) E.1 E.2.2.2.1 E.2.2.2.2.1 E.2.2.2.2.2.1 (E.2.2.2.2.2.2.2 n_Message_clear) ok_Message_clear cls_3 rfl km_LS_154 kn_Message_clear kv_Message_clear (by decide +kernel)) ?_
  refine mk_cons (sn_iload_n (k := 3) E.1 (by decide +kernel) rfl) ?_
  refine mk_cons (sn_iret E.1 E.2.1 E.2.2.2.2.2.2.1 (by decide +kernel)) ?_
  exact mk_nil
set_option maxRecDepth 100000 in
set_option maxHeartbeats 4000000 in
theorem rw_LS_read : mk_Rows n_LS_read := by
  intro p l e R s m args below meth c D cy b sk lim cr Q n0 d E
  show ∀ q ∈ t_LS_read, _
  refine mk_cons (sn_iload_n (k := 1) E.1 (by decide +kernel) rfl) ?_
  refine mk_cons (sn_iflt (off := 8) E.1 (by decide +kernel) (by decide +kernel)) ?_
  refine mk_cons (sn_iload_n (k := 1) E.1 (by decide +kernel) rfl) ?_
  refine mk_cons (sn_iconst (n := 2) E.1 (by decide +kernel) (by decide +kernel)) ?_
  refine mk_cons (sn_cle (off := 7) E.1 (by decide +kernel) (by decide +kernel)) ?_
  refine mk_cons (sn_iconst (n := (-1)) E.1 (by decide +kernel) (by decide +kernel)) ?_
  refine mk_cons (sn_goto (off := 12) E.1 (by decide +kernel) (by decide +kernel)) ?_
  refine mk_cons (sn_aload_n (k := 0) E.1 E.2.2.2.1 (by decide +kernel) rfl) ?_
  refine mk_cons (sn_iload_n (k := 1) E.1 (by decide +kernel) rfl) ?_
  refine mk_cons (sn_callV (i := 143) E.1 E.2.2.2.1 E.2.2.2.2.1 E.2.2.2.2.2.1 (E.2.2.2.2.2.2.2 n_LS_messageOf) ok_LS_messageOf cls_11 rfl km_LS_143 kn_LS_messageOf kv_LS_messageOf (by decide +kernel)) ?_
  refine mk_cons (sn_iload_n (k := 2) E.1 (by decide +kernel) rfl) ?_
  refine mk_cons (sn_callS (i := 157) E.1 E.2.2.2.1 E.2.2.2.2.1 E.2.2.2.2.2.1 (E.2.2.2.2.2.2.2 n_LS_lengthOrDigit) ok_LS_lengthOrDigit km_LS_157 ks_LS_lengthOrDigit (by decide +kernel)) ?_
  refine mk_cons (sn_iret E.1 E.2.1 E.2.2.2.2.2.2.1 (by decide +kernel)) ?_
  exact mk_nil
set_option maxRecDepth 100000 in
set_option maxHeartbeats 4000000 in
theorem rw_LS_feed : mk_Rows n_LS_feed := by
  intro p l e R s m args below meth c D cy b sk lim cr Q n0 d E
  show ∀ q ∈ t_LS_feed, _
  refine mk_cons (sn_aload_n (k := 0) E.1 E.2.2.2.1 (by decide +kernel) rfl) ?_
  refine mk_cons (sn_getR (i := 26) E.1 cls_11 (by decide) rfl kf_LS_26 (by decide +kernel)) ?_
  refine mk_cons (sn_getI (i := 161) (c0 := 0) E.1 cls_9 (by decide) rfl (by decide) kf_LS_161 (by decide +kernel)) ?_
  refine mk_cons (sn_bipush (n := 20) E.1 (by decide +kernel) (by decide +kernel)) ?_
  refine mk_cons (sn_iadd E.1 (by decide +kernel)) ?_
  refine mk_cons (sn_sipush (n := 400) E.1 (by decide +kernel) (by decide +kernel)) ?_
  refine mk_cons (sn_cle (off := 5) E.1 (by decide +kernel) (by decide +kernel)) ?_
  refine mk_cons (sn_iconst (n := (-1)) E.1 (by decide +kernel) (by decide +kernel)) ?_
  refine mk_cons (sn_iret E.1 E.2.1 E.2.2.2.2.2.2.1 (by decide +kernel)) ?_
  refine mk_cons (sn_aload_n (k := 0) E.1 E.2.2.2.1 (by decide +kernel) rfl) ?_
  refine mk_cons (sn_getR (i := 26) E.1 cls_11 (by decide) rfl kf_LS_26 (by decide +kernel)) ?_
  refine mk_cons (sn_iload_n (k := 1) E.1 (by decide +kernel) rfl) ?_
  refine mk_cons (sn_callV (i := 162) E.1 E.2.2.2.1 E.2.2.2.2.1 E.2.2.2.2.2.1 (E.2.2.2.2.2.2.2 n_Tape_append) ok_Tape_append cls_9 rfl km_LS_162 kn_Tape_append kv_Tape_append (by decide +kernel)) ?_
  refine mk_cons (sn_aload_n (k := 0) E.1 E.2.2.2.1 (by decide +kernel) rfl) ?_
  refine mk_cons (sn_getR (i := 26) E.1 cls_11 (by decide) rfl kf_LS_26 (by decide +kernel)) ?_
  refine mk_cons (sn_iload_n (k := 2) E.1 (by decide +kernel) rfl) ?_
  refine mk_cons (sn_callV (i := 162) E.1 E.2.2.2.1 E.2.2.2.2.1 E.2.2.2.2.2.1 (E.2.2.2.2.2.2.2 n_Tape_append) ok_Tape_append cls_9 rfl km_LS_162 kn_Tape_append kv_Tape_append (by decide +kernel)) ?_
  refine mk_cons (sn_aload_n (k := 0) E.1 E.2.2.2.1 (by decide +kernel) rfl) ?_
  refine mk_cons (sn_getR (i := 26) E.1 cls_11 (by decide) rfl kf_LS_26 (by decide +kernel)) ?_
  refine mk_cons (sn_iload_n (k := 3) E.1 (by decide +kernel) rfl) ?_
  refine mk_cons (sn_callV (i := 162) E.1 E.2.2.2.1 E.2.2.2.2.1 E.2.2.2.2.2.1 (E.2.2.2.2.2.2.2 n_Tape_append) ok_Tape_append cls_9 rfl km_LS_162 kn_Tape_append kv_Tape_append (by decide +kernel)) ?_
  refine mk_cons (sn_aload_n (k := 0) E.1 E.2.2.2.1 (by decide +kernel) rfl) ?_
  refine mk_cons (sn_getR (i := 26) E.1 cls_11 (by decide) rfl kf_LS_26 (by decide +kernel)) ?_
  refine mk_cons (sn_iload E.1 (by decide +kernel)) ?_
  refine mk_cons (sn_callV (i := 162) E.1 E.2.2.2.1 E.2.2.2.2.1 E.2.2.2.2.2.1 (E.2.2.2.2.2.2.2 n_Tape_append) ok_Tape_append cls_9 rfl km_LS_162 kn_Tape_append kv_Tape_append (by decide +kernel)) ?_
  refine mk_cons (sn_aload_n (k := 0) E.1 E.2.2.2.1 (by decide +kernel) rfl) ?_
  refine mk_cons (sn_getR (i := 26) E.1 cls_11 (by decide) rfl kf_LS_26 (by decide +kernel)) ?_
  refine mk_cons (sn_iload E.1 (by decide +kernel)) ?_
  refine mk_cons (sn_callV (i := 162) E.1 E.2.2.2.1 E.2.2.2.2.1 E.2.2.2.2.2.1 (E.2.2.2.2.2.2.2 n_Tape_append) ok_Tape_append cls_9 rfl km_LS_162 kn_Tape_append kv_Tape_append (by decide +kernel)) ?_
  refine mk_cons (sn_aload_n (k := 0) E.1 E.2.2.2.1 (by decide +kernel) rfl) ?_
  refine mk_cons (sn_getR (i := 26) E.1 cls_11 (by decide) rfl kf_LS_26 (by decide +kernel)) ?_
  refine mk_cons (sn_getI (i := 161) (c0 := 0) E.1 cls_9 (by decide) rfl (by decide) kf_LS_161 (by decide +kernel)) ?_
  refine mk_cons (sn_iret E.1 E.2.1 E.2.2.2.2.2.2.1 (by decide +kernel)) ?_
  exact mk_nil
set_option maxRecDepth 100000 in
set_option maxHeartbeats 4000000 in
theorem rw_LS_end : mk_Rows n_LS_end := by
  intro p l e R s m args below meth c D cy b sk lim cr Q n0 d E
  show ∀ q ∈ t_LS_end, _
  refine mk_cons (sn_iload_n (k := 1) E.1 (by decide +kernel) rfl) ?_
  refine mk_cons (sn_iflt (off := 14) E.1 (by decide +kernel) (by decide +kernel)) ?_
  refine mk_cons (sn_iload_n (k := 1) E.1 (by decide +kernel) rfl) ?_
  refine mk_cons (sn_aload_n (k := 0) E.1 E.2.2.2.1 (by decide +kernel) rfl) ?_
  refine mk_cons (sn_getR (i := 26) E.1 cls_11 (by decide) rfl kf_LS_26 (by decide +kernel)) ?_
  refine mk_cons (sn_getI (i := 161) (c0 := 0) E.1 cls_9 (by decide) rfl (by decide) kf_LS_161 (by decide +kernel)) ?_
  refine mk_cons (sn_cle (off := 5) E.1 (by decide +kernel) (by decide +kernel)) ?_
  refine mk_cons (sn_iconst (n := 0) E.1 (by decide +kernel) (by decide +kernel)) ?_
  refine mk_cons (sn_zret E.1 E.2.1 E.2.2.2.2.2.2.1 (by decide +kernel)) ?_
  refine mk_cons (sn_aload_n (k := 0) E.1 E.2.2.2.1 (by decide +kernel) rfl) ?_
  refine mk_cons (sn_getR (i := 26) E.1 cls_11 (by decide) rfl kf_LS_26 (by decide +kernel)) ?_
  refine mk_cons (sn_iload_n (k := 1) E.1 (by decide +kernel) rfl) ?_
  refine mk_cons (sn_putI (i := 161) E.1 cls_9 (by decide) rfl rfl rfl kf_LS_161 (by decide +kernel)) ?_
  refine mk_cons (sn_iconst (n := 1) E.1 (by decide +kernel) (by decide +kernel)) ?_
  refine mk_cons (sn_zret E.1 E.2.1 E.2.2.2.2.2.2.1 (by decide +kernel)) ?_
  exact mk_nil
set_option maxRecDepth 100000 in
set_option maxHeartbeats 4000000 in
theorem rw_LS_text : mk_Rows n_LS_text := by
  intro p l e R s m args below meth c D cy b sk lim cr Q n0 d E
  show ∀ q ∈ t_LS_text, _
  refine mk_cons (sn_aload_n (k := 0) E.1 E.2.2.2.1 (by decide +kernel) rfl) ?_
  refine mk_cons (sn_getR (i := 35) E.1 cls_11 (by decide) rfl kf_LS_35 (by decide +kernel)) ?_
  refine mk_cons (sn_callV (i := 163) E.1 E.2.2.2.1 E.2.2.2.2.1 E.2.2.2.2.2.1 (E.2.2.2.2.2.2.2 n_Parser_clearFault) ok_Parser_clearFault cls_4 rfl km_LS_163 kn_Parser_clearFault kv_Parser_clearFault (by decide +kernel)) ?_
  refine mk_cons (sn_iload_n (k := 1) E.1 (by decide +kernel) rfl) ?_
  refine mk_cons (sn_callS (i := 91) E.1 E.2.2.2.1 E.2.2.2.2.1 E.2.2.2.2.2.1 (E.2.2.2.2.2.2.2 n_LS_isKind) ok_LS_isKind km_LS_91 ks_LS_isKind (by decide +kernel)) ?_
  refine mk_cons (sn_ifeq (off := 17) E.1 (by decide +kernel) (by decide +kernel)) ?_
  refine mk_cons (sn_aload_n (k := 0) E.1 E.2.2.2.1 (by decide +kernel) rfl) ?_
  refine mk_cons (sn_getR (i := 35) E.1 cls_11 (by decide) rfl kf_LS_35 (by decide +kernel)) ?_
  refine mk_cons (sn_callV (i := 166) E.1 E.2.2.2.1 E.2.2.2.2.1 E.2.2.2.2.2.1 (E.2.2.2.2.2.2.2 n_Parser_readTape) ok_Parser_readTape cls_4 rfl km_LS_166 kn_Parser_readTape kv_Parser_readTape (by decide +kernel)) ?_
  refine mk_cons (sn_ifeq (off := 7) E.1 (by decide +kernel) (by decide +kernel)) ?_
  refine mk_cons (sn_iconst (n := 1) E.1 (by decide +kernel) (by decide +kernel)) ?_
  refine mk_cons (sn_goto (off := 4) E.1 (by decide +kernel) (by decide +kernel)) ?_
  refine mk_cons (sn_iconst (n := 0) E.1 (by decide +kernel) (by decide +kernel)) ?_
  refine mk_cons (sn_istore_n (k := 2) E.1 (by decide +kernel) rfl (by decide +kernel)) ?_
  refine mk_cons (sn_aload_n (k := 0) E.1 E.2.2.2.1 (by decide +kernel) rfl) ?_
  refine mk_cons (sn_getR (i := 26) E.1 cls_11 (by decide) rfl kf_LS_26 (by decide +kernel)) ?_
  refine mk_cons (sn_iconst (n := 0) E.1 (by decide +kernel) (by decide +kernel)) ?_
  refine mk_cons (sn_putI (i := 161) E.1 cls_9 (by decide) rfl rfl rfl kf_LS_161 (by decide +kernel)) ?_
  refine mk_cons (sn_iload_n (k := 2) E.1 (by decide +kernel) rfl) ?_
  refine mk_cons (sn_ifne (off := 5) E.1 (by decide +kernel) (by decide +kernel)) ?_
  refine mk_cons (sn_iconst (n := (-1)) E.1 (by decide +kernel) (by decide +kernel)) ?_
  refine mk_cons (sn_iret E.1 E.2.1 E.2.2.2.2.2.2.1 (by decide +kernel)) ?_
  refine mk_cons (sn_aload_n (k := 0) E.1 E.2.2.2.1 (by decide +kernel) rfl) ?_
  refine mk_cons (sn_getR (i := 12) E.1 cls_11 (by decide) rfl kf_LS_12 (by decide +kernel)) ?_
  refine mk_cons (sn_getR (i := 170) E.1 cls_10 (by decide) rfl kf_LS_170 (by decide +kernel)) ?_
  refine mk_cons (sn_iload_n (k := 1) E.1 (by decide +kernel) rfl) ?_
  refine mk_cons (sn_aload_n (k := 0) E.1 E.2.2.2.1 (by decide +kernel) rfl) ?_
  refine mk_cons (sn_getR (i := 35) E.1 cls_11 (by decide) rfl kf_LS_35 (by decide +kernel)) ?_
  refine mk_cons (sn_aload_n (k := 0) E.1 E.2.2.2.1 (by decide +kernel) rfl) ?_
  refine mk_cons (sn_getR (i := 12) E.1 cls_11 (by decide) rfl kf_LS_12 (by decide +kernel)) ?_
  refine mk_cons (sn_getR (i := 170) E.1 cls_10 (by decide) rfl kf_LS_170 (by decide +kernel)) ?_
  refine mk_cons (sn_iload_n (k := 1) E.1 (by decide +kernel) rfl) ?_
  refine mk_cons (sn_aald E.1 (by decide +kernel)) ?_
  refine mk_cons (sn_callV (i := 174) E.1 E.2.2.2.1 E.2.2.2.2.1 E.2.2.2.2.2.1 (E.2.2.2.2.2.2.2 n_Parser_exchange) ok_Parser_exchange cls_4 rfl km_LS_174 kn_Parser_exchange kv_Parser_exchange (by decide +kernel)) ?_
  refine mk_cons (sn_aast E.1 (by decide +kernel)) ?_
  refine mk_cons (sn_aload_n (k := 0) E.1 E.2.2.2.1 (by decide +kernel) rfl) ?_
  refine mk_cons (sn_getR (i := 12) E.1 cls_11 (by decide) rfl kf_LS_12 (by decide +kernel)) ?_
  refine mk_cons (sn_getR (i := 170) E.1 cls_10 (by decide) rfl kf_LS_170 (by decide +kernel)) ?_
  refine mk_cons (sn_iload_n (k := 1) E.1 (by decide +kernel) rfl) ?_
  refine mk_cons (sn_aald E.1 (by decide +kernel)) ?_
  refine mk_cons (sn_getI (i := 178) (c0 := 0) E.1 cls_7 (by decide) rfl (by decide) kf_LS_178 (by decide +kernel)) ?_
  refine mk_cons (sn_iret E.1 E.2.1 E.2.2.2.2.2.2.1 (by decide +kernel)) ?_
  exact mk_nil
set_option maxRecDepth 100000 in
set_option maxHeartbeats 4000000 in
theorem rw_LS_fault : mk_Rows n_LS_fault := by
  intro p l e R s m args below meth c D cy b sk lim cr Q n0 d E
  show ∀ q ∈ t_LS_fault, _
  refine mk_cons (sn_iload_n (k := 1) E.1 (by decide +kernel) rfl) ?_
  refine mk_cons (sn_lsw (dflt := 43) (ps := #[(0, 27), (1, 35)]) (len := 27) E.1 (by decide +kernel) (by decide +kernel) (by decide +kernel) (by decide +kernel) (by decide +kernel)) ?_
  refine mk_cons (sn_aload_n (k := 0) E.1 E.2.2.2.1 (by decide +kernel) rfl) ?_
  refine mk_cons (sn_getR (i := 35) E.1 cls_11 (by decide) rfl kf_LS_35 (by decide +kernel)) ?_
  refine mk_cons (sn_getI (i := 183) (c0 := 0) E.1 cls_4 (by decide) rfl (by decide) kf_LS_183 (by decide +kernel)) ?_
  refine mk_cons (sn_iret E.1 E.2.1 E.2.2.2.2.2.2.1 (by decide +kernel)) ?_
  refine mk_cons (sn_aload_n (k := 0) E.1 E.2.2.2.1 (by decide +kernel) rfl) ?_
  refine mk_cons (sn_getR (i := 35) E.1 cls_11 (by decide) rfl kf_LS_35 (by decide +kernel)) ?_
  refine mk_cons (sn_getI (i := 186) (c0 := 0) E.1 cls_4 (by decide) rfl (by decide) kf_LS_186 (by decide +kernel)) ?_
  refine mk_cons (sn_iret E.1 E.2.1 E.2.2.2.2.2.2.1 (by decide +kernel)) ?_
  refine mk_cons (sn_iconst (n := (-1)) E.1 (by decide +kernel) (by decide +kernel)) ?_
  refine mk_cons (sn_iret E.1 E.2.1 E.2.2.2.2.2.2.1 (by decide +kernel)) ?_
  exact mk_nil
set_option maxRecDepth 100000 in
set_option maxHeartbeats 4000000 in
theorem rw_LS_send : mk_Rows n_LS_send := by
  intro p l e R s m args below meth c D cy b sk lim cr Q n0 d E
  show ∀ q ∈ t_LS_send, _
  refine mk_cons (sn_aload_n (k := 0) E.1 E.2.2.2.1 (by decide +kernel) rfl) ?_
  refine mk_cons (sn_getR (i := 76) E.1 cls_11 (by decide) rfl kf_LS_76 (by decide +kernel)) ?_
  refine mk_cons (sn_iconst (n := 0) E.1 (by decide +kernel) (by decide +kernel)) ?_
  refine mk_cons (sn_iload_n (k := 2) E.1 (by decide +kernel) rfl) ?_
  refine mk_cons (sn_iast E.1 (by decide +kernel)) ?_
  refine mk_cons (sn_aload_n (k := 0) E.1 E.2.2.2.1 (by decide +kernel) rfl) ?_
  refine mk_cons (sn_getR (i := 76) E.1 cls_11 (by decide) rfl kf_LS_76 (by decide +kernel)) ?_
  refine mk_cons (sn_iconst (n := 1) E.1 (by decide +kernel) (by decide +kernel)) ?_
  refine mk_cons (sn_iload_n (k := 3) E.1 (by decide +kernel) rfl) ?_
  refine mk_cons (sn_iast E.1 (by decide +kernel)) ?_
  refine mk_cons (sn_aload_n (k := 0) E.1 E.2.2.2.1 (by decide +kernel) rfl) ?_
  refine mk_cons (sn_getR (i := 76) E.1 cls_11 (by decide) rfl kf_LS_76 (by decide +kernel)) ?_
  refine mk_cons (sn_iconst (n := 2) E.1 (by decide +kernel) (by decide +kernel)) ?_
  refine mk_cons (sn_iload E.1 (by decide +kernel)) ?_
  refine mk_cons (sn_iast E.1 (by decide +kernel)) ?_
  refine mk_cons (sn_aload_n (k := 0) E.1 E.2.2.2.1 (by decide +kernel) rfl) ?_
  refine mk_cons (sn_getR (i := 76) E.1 cls_11 (by decide) rfl kf_LS_76 (by decide +kernel)) ?_
  refine mk_cons (sn_iconst (n := 3) E.1 (by decide +kernel) (by decide +kernel)) ?_
  refine mk_cons (sn_iload E.1 (by decide +kernel)) ?_
  refine mk_cons (sn_iast E.1 (by decide +kernel)) ?_
  refine mk_cons (sn_aload_n (k := 0) E.1 E.2.2.2.1 (by decide +kernel) rfl) ?_
  refine mk_cons (sn_iload_n (k := 1) E.1 (by decide +kernel) rfl) ?_
  refine mk_cons (sn_callV (i := 189) E.1 E.2.2.2.1 E.2.2.2.2.1 E.2.2.2.2.2.1 (E.2.2.2.2.2.2.2 n_LS_linesOfRoute) ok_LS_linesOfRoute cls_11 rfl km_LS_189 kn_LS_linesOfRoute kv_LS_linesOfRoute (by decide +kernel)) ?_
  refine mk_cons (sn_istore E.1 (by decide +kernel) (by decide +kernel)) ?_
  refine mk_cons (sn_iload E.1 (by decide +kernel)) ?_
  refine mk_cons (sn_iconst (n := (-1)) E.1 (by decide +kernel) (by decide +kernel)) ?_
  refine mk_cons (sn_cne (off := 5) E.1 (by decide +kernel) (by decide +kernel)) ?_
  refine mk_cons (sn_iconst (n := (-1)) E.1 (by decide +kernel) (by decide +kernel)) ?_
  refine mk_cons (sn_iret E.1 E.2.1 E.2.2.2.2.2.2.1 (by decide +kernel)) ?_
  refine mk_cons (sn_aload_n (k := 0) E.1 E.2.2.2.1 (by decide +kernel) rfl) ?_
  refine mk_cons (sn_getR (i := 19) E.1 cls_11 (by decide) rfl kf_LS_19 (by decide +kernel)) ?_
  refine mk_cons (sn_aload_n (k := 0) E.1 E.2.2.2.1 (by decide +kernel) rfl) ?_
  refine mk_cons (sn_getR (i := 12) E.1 cls_11 (by decide) rfl kf_LS_12 (by decide +kernel)) ?_
  refine mk_cons (sn_callV (i := 193) E.1 E.2.2.2.1 E.2.2.2.2.1 E.2.2.2.2.2.1 (E.2.2.2.2.2.2.2 n_Past_remember) ok_Past_remember cls_5 rfl km_LS_193 kn_Past_remember kv_Past_remember (by decide +kernel)) ?_
  refine mk_cons (sn_aload_n (k := 0) E.1 E.2.2.2.1 (by decide +kernel) rfl) ?_
  refine mk_cons (sn_getR (i := 12) E.1 cls_11 (by decide) rfl kf_LS_12 (by decide +kernel)) ?_
  refine mk_cons (sn_getR (i := 197) E.1 cls_10 (by decide) rfl kf_LS_197 (by decide +kernel)) ?_
  refine mk_cons (sn_astore E.1 (by decide +kernel) (by decide +kernel)) ?_
  refine mk_cons (sn_aload E.1 E.2.2.2.1 (by decide +kernel)) ?_
  refine mk_cons (sn_aload_n (k := 0) E.1 E.2.2.2.1 (by decide +kernel) rfl) ?_
  refine mk_cons (sn_getR (i := 12) E.1 cls_11 (by decide) rfl kf_LS_12 (by decide +kernel)) ?_
  refine mk_cons (sn_getR (i := 200) E.1 cls_10 (by decide) rfl kf_LS_200 (by decide +kernel)) ?_
  refine mk_cons (sn_callV (i := 203) E.1 E.2.2.2.1 E.2.2.2.2.1 E.2.2.2.2.2.1 (E.2.2.2.2.2.2.2 n_Message_copyFrom) ok_Message_copyFrom cls_3 rfl km_LS_203 kn_Message_copyFrom kv_Message_copyFrom (by decide +kernel)) ?_
  refine mk_cons (sn_iconst (n := 0) E.1 (by decide +kernel) (by decide +kernel)) ?_
  refine mk_cons (sn_istore E.1 (by decide +kernel) (by decide +kernel)) ?_
  refine mk_cons (sn_iload E.1 (by decide +kernel)) ?_
  refine mk_cons (sn_iload E.1 (by decide +kernel)) ?_
  refine mk_cons (sn_cge (off := 22) E.1 (by decide +kernel) (by decide +kernel)) ?_
  refine mk_cons (sn_aload_n (k := 0) E.1 E.2.2.2.1 (by decide +kernel) rfl) ?_
  refine mk_cons (sn_aload_n (k := 0) E.1 E.2.2.2.1 (by decide +kernel) rfl) ?_
  refine mk_cons (sn_getR (i := 76) E.1 cls_11 (by decide) rfl kf_LS_76 (by decide +kernel)) ?_
  refine mk_cons (sn_iload E.1 (by decide +kernel)) ?_
  refine mk_cons (sn_iald E.1 (by decide +kernel)) ?_
  refine mk_cons (sn_aload E.1 E.2.2.2.1 (by decide +kernel)) ?_
  refine mk_cons (sn_callV (i := 207) E.1 E.2.2.2.1 E.2.2.2.2.1 E.2.2.2.2.2.1 (E.2.2.2.2.2.2.2 n_LS_carryForGood) ok_LS_carryForGood cls_11 rfl km_LS_207 kn_LS_carryForGood kv_LS_carryForGood (by decide +kernel)) ?_
  refine mk_cons (sn_iinc (n := 1) E.1 (by decide +kernel) (by decide +kernel) (by decide +kernel)) ?_
  refine mk_cons (sn_goto (off := (-23)) E.1 (by decide +kernel) (by decide +kernel)) ?_
  refine mk_cons (sn_aload_n (k := 0) E.1 E.2.2.2.1 (by decide +kernel) rfl) ?_
  refine mk_cons (sn_getR (i := 12) E.1 cls_11 (by decide) rfl kf_LS_12 (by decide +kernel)) ?_
  refine mk_cons (sn_dup E.1 (by decide +kernel)) ?_
  refine mk_cons (sn_getJ (i := 211) E.1 cls_10 (by decide) rfl kf_LS_211 (by decide +kernel)) ?_
  refine mk_cons (sn_aload E.1 E.2.2.2.1 (by decide +kernel)) ?_
  refine mk_cons (sn_callV (i := 215) E.1 E.2.2.2.1 E.2.2.2.2.1 E.2.2.2.2.2.1 (E.2.2.2.2.2.2.2 n_Message_value) ok_Message_value cls_3 rfl km_LS_215 kn_Message_value kv_Message_value (by decide +kernel)) ?_
  refine mk_cons (sn_aload_n (k := 0) E.1 E.2.2.2.1 (by decide +kernel) rfl) ?_
  refine mk_cons (sn_getR (i := 12) E.1 cls_11 (by decide) rfl kf_LS_12 (by decide +kernel)) ?_
  refine mk_cons (sn_getR (i := 200) E.1 cls_10 (by decide) rfl kf_LS_200 (by decide +kernel)) ?_
  refine mk_cons (sn_callV (i := 215) E.1 E.2.2.2.1 E.2.2.2.2.1 E.2.2.2.2.2.1 (E.2.2.2.2.2.2.2 n_Message_value) ok_Message_value cls_3 rfl km_LS_215 kn_Message_value kv_Message_value (by decide +kernel)) ?_
  refine mk_cons (sn_lsub E.1 (by decide +kernel)) ?_
  refine mk_cons (sn_ladd E.1 (by decide +kernel)) ?_
  refine mk_cons (sn_putJ (i := 211) E.1 cls_10 (by decide) rfl rfl rfl kf_LS_211 (by decide +kernel)) ?_
  refine mk_cons (sn_aload_n (k := 0) E.1 E.2.2.2.1 (by decide +kernel) rfl) ?_
  refine mk_cons (sn_getR (i := 12) E.1 cls_11 (by decide) rfl kf_LS_12 (by decide +kernel)) ?_
  refine mk_cons (sn_dup E.1 (by decide +kernel)) ?_
  refine mk_cons (sn_getI (i := 219) (c0 := 0) E.1 cls_10 (by decide) rfl (by decide) kf_LS_219 (by decide +kernel)) ?_
  refine mk_cons (sn_iconst (n := 1) E.1 (by decide +kernel) (by decide +kernel)) ?_
  refine mk_cons (sn_iadd E.1 (by decide +kernel)) ?_
  refine mk_cons (sn_putI (i := 219) E.1 cls_10 (by decide) rfl rfl rfl kf_LS_219 (by decide +kernel)) ?_
  refine mk_cons (sn_aload E.1 E.2.2.2.1 (by decide +kernel)) ?_
  refine mk_cons (sn_getI (i := 147) (c0 := 0) E.1 cls_3 (by decide) rfl (by decide) kf_LS_147 (by decide +kernel)) ?_
  refine mk_cons (sn_iret E.1 E.2.1 E.2.2.2.2.2.2.1 (by decide +kernel)) ?_
  exact mk_nil
set_option maxRecDepth 100000 in
set_option maxHeartbeats 4000000 in
theorem rw_LS_day : mk_Rows n_LS_day := by
  intro p l e R s m args below meth c D cy b sk lim cr Q n0 d E
  show ∀ q ∈ t_LS_day, _
  refine mk_cons (sn_aload_n (k := 0) E.1 E.2.2.2.1 (by decide +kernel) rfl) ?_
  refine mk_cons (sn_getR (i := 12) E.1 cls_11 (by decide) rfl kf_LS_12 (by decide +kernel)) ?_
  refine mk_cons (sn_getI (i := 222) (c0 := 0) E.1 cls_10 (by decide) rfl (by decide) kf_LS_222 (by decide +kernel)) ?_
  refine mk_cons (sn_sipush (n := 9999) E.1 (by decide +kernel) (by decide +kernel)) ?_
  refine mk_cons (sn_clt (off := 5) E.1 (by decide +kernel) (by decide +kernel)) ?_
  refine mk_cons (sn_iconst (n := (-1)) E.1 (by decide +kernel) (by decide +kernel)) ?_
  refine mk_cons (sn_iret E.1 E.2.1 E.2.2.2.2.2.2.1 (by decide +kernel)) ?_
  refine mk_cons (sn_aload_n (k := 0) E.1 E.2.2.2.1 (by decide +kernel) rfl) ?_
  refine mk_cons (sn_getR (i := 12) E.1 cls_11 (by decide) rfl kf_LS_12 (by decide +kernel)) ?_
  refine mk_cons (sn_dup E.1 (by decide +kernel)) ?_
  refine mk_cons (sn_getI (i := 222) (c0 := 0) E.1 cls_10 (by decide) rfl (by decide) kf_LS_222 (by decide +kernel)) ?_
  refine mk_cons (sn_iconst (n := 1) E.1 (by decide +kernel) (by decide +kernel)) ?_
  refine mk_cons (sn_iadd E.1 (by decide +kernel)) ?_
  refine mk_cons (sn_putI (i := 222) E.1 cls_10 (by decide) rfl rfl rfl kf_LS_222 (by decide +kernel)) ?_
  refine mk_cons (sn_aload_n (k := 0) E.1 E.2.2.2.1 (by decide +kernel) rfl) ?_
  refine mk_cons (sn_getR (i := 19) E.1 cls_11 (by decide) rfl kf_LS_19 (by decide +kernel)) ?_
  refine mk_cons (sn_callV (i := 130) E.1 E.2.2.2.1 E.2.2.2.2.1 E.2.2.2.2.2.1 (E.2.2.2.2.2.2.2 n_Past_forget) ok_Past_forget cls_5 rfl km_LS_130 kn_Past_forget kv_Past_forget (by decide +kernel)) ?_
  refine mk_cons (sn_iconst (n := 0) E.1 (by decide +kernel) (by decide +kernel)) ?_
  refine mk_cons (sn_istore_n (k := 1) E.1 (by decide +kernel) rfl (by decide +kernel)) ?_
  refine mk_cons (sn_iconst (n := 0) E.1 (by decide +kernel) (by decide +kernel)) ?_
  refine mk_cons (sn_istore_n (k := 2) E.1 (by decide +kernel) rfl (by decide +kernel)) ?_
  refine mk_cons (sn_iload_n (k := 2) E.1 (by decide +kernel) rfl) ?_
  refine mk_cons (sn_aload_n (k := 0) E.1 E.2.2.2.1 (by decide +kernel) rfl) ?_
  refine mk_cons (sn_getR (i := 12) E.1 cls_11 (by decide) rfl kf_LS_12 (by decide +kernel)) ?_
  refine mk_cons (sn_getI (i := 100) (c0 := 0) E.1 cls_10 (by decide) rfl (by decide) kf_LS_100 (by decide +kernel)) ?_
  refine mk_cons (sn_cge (off := 56) E.1 (by decide +kernel) (by decide +kernel)) ?_
  refine mk_cons (sn_aload_n (k := 0) E.1 E.2.2.2.1 (by decide +kernel) rfl) ?_
  refine mk_cons (sn_getR (i := 12) E.1 cls_11 (by decide) rfl kf_LS_12 (by decide +kernel)) ?_
  refine mk_cons (sn_getR (i := 103) E.1 cls_10 (by decide) rfl kf_LS_103 (by decide +kernel)) ?_
  refine mk_cons (sn_iload_n (k := 2) E.1 (by decide +kernel) rfl) ?_
  refine mk_cons (sn_aald E.1 (by decide +kernel)) ?_
  refine mk_cons (sn_astore_n (k := 3) E.1 (by decide +kernel) rfl (by decide +kernel)) ?_
  refine mk_cons (sn_aload_n (k := 3) E.1 E.2.2.2.1 (by decide +kernel) rfl) ?_
  refine mk_cons (sn_aload_n (k := 3) E.1 E.2.2.2.1 (by decide +kernel) rfl) ?_
  refine mk_cons (sn_getI (i := 124) (c0 := 0) E.1 cls_2 (by decide) rfl (by decide) kf_LS_124 (by decide +kernel)) ?_
  refine mk_cons (sn_ifle (off := 21) E.1 (by decide +kernel) (by decide +kernel)) ?_
  refine mk_cons (sn_aload_n (k := 0) E.1 E.2.2.2.1 (by decide +kernel) rfl) ?_
  refine mk_cons (sn_getR (i := 12) E.1 cls_11 (by decide) rfl kf_LS_12 (by decide +kernel)) ?_
  refine mk_cons (sn_callV (i := 225) E.1 E.2.2.2.1 E.2.2.2.2.1 E.2.2.2.2.2.1 (E.2.2.2.2.2.2.2 n_World_drawThousand) ok_World_drawThousand cls_10 rfl km_LS_225 kn_World_drawThousand kv_World_drawThousand (by decide +kernel)) ?_
  refine mk_cons (sn_aload_n (k := 3) E.1 E.2.2.2.1 (by decide +kernel) rfl) ?_
  refine mk_cons (sn_getI (i := 124) (c0 := 0) E.1 cls_2 (by decide) rfl (by decide) kf_LS_124 (by decide +kernel)) ?_
  refine mk_cons (sn_cge (off := 7) E.1 (by decide +kernel) (by decide +kernel)) ?_
  refine mk_cons (sn_iconst (n := 1) E.1 (by decide +kernel) (by decide +kernel)) ?_
  refine mk_cons (sn_goto (off := 4) E.1 (by decide +kernel) (by decide +kernel)) ?_
  refine mk_cons (sn_iconst (n := 0) E.1 (by decide +kernel) (by decide +kernel)) ?_
  refine mk_cons (sn_putI (i := 127) E.1 cls_2 (by decide) rfl rfl rfl kf_LS_127 (by decide +kernel)) ?_
  refine mk_cons (sn_iload_n (k := 1) E.1 (by decide +kernel) rfl) ?_
  refine mk_cons (sn_aload_n (k := 3) E.1 E.2.2.2.1 (by decide +kernel) rfl) ?_
  refine mk_cons (sn_getI (i := 127) (c0 := 0) E.1 cls_2 (by decide) rfl (by decide) kf_LS_127 (by decide +kernel)) ?_
  refine mk_cons (sn_iadd E.1 (by decide +kernel)) ?_
  refine mk_cons (sn_istore_n (k := 1) E.1 (by decide +kernel) rfl (by decide +kernel)) ?_
  refine mk_cons (sn_iinc (n := 1) E.1 (by decide +kernel) (by decide +kernel) (by decide +kernel)) ?_
  refine mk_cons (sn_goto (off := (-61)) E.1 (by decide +kernel) (by decide +kernel)) ?_
  refine mk_cons (sn_iload_n (k := 1) E.1 (by decide +kernel) rfl) ?_
  refine mk_cons (sn_iret E.1 E.2.1 E.2.2.2.2.2.2.1 (by decide +kernel)) ?_
  exact mk_nil
set_option maxRecDepth 100000 in
set_option maxHeartbeats 4000000 in
theorem rw_LS_of : mk_Rows n_LS_of := by
  intro p l e R s m args below meth c D cy b sk lim cr Q n0 d E
  show ∀ q ∈ t_LS_of, _
  refine mk_cons (sn_aload_n (k := 0) E.1 E.2.2.2.1 (by decide +kernel) rfl) ?_
  refine mk_cons (sn_getR (i := 12) E.1 cls_11 (by decide) rfl kf_LS_12 (by decide +kernel)) ?_
  refine mk_cons (sn_iload_n (k := 1) E.1 (by decide +kernel) rfl) ?_
  refine mk_cons (sn_callV (i := 133) E.1 E.2.2.2.1 E.2.2.2.2.1 E.2.2.2.2.2.1 (E.2.2.2.2.2.2.2 n_World_hasLine) ok_World_hasLine cls_10 rfl km_LS_133 kn_World_hasLine kv_World_hasLine (by decide +kernel)) ?_
  refine mk_cons (sn_ifne (off := 5) E.1 (by decide +kernel) (by decide +kernel)) ?_
  refine mk_cons (sn_iconst (n := (-1)) E.1 (by decide +kernel) (by decide +kernel)) ?_
  refine mk_cons (sn_iret E.1 E.2.1 E.2.2.2.2.2.2.1 (by decide +kernel)) ?_
  refine mk_cons (sn_aload_n (k := 0) E.1 E.2.2.2.1 (by decide +kernel) rfl) ?_
  refine mk_cons (sn_getR (i := 12) E.1 cls_11 (by decide) rfl kf_LS_12 (by decide +kernel)) ?_
  refine mk_cons (sn_getR (i := 103) E.1 cls_10 (by decide) rfl kf_LS_103 (by decide +kernel)) ?_
  refine mk_cons (sn_iload_n (k := 1) E.1 (by decide +kernel) rfl) ?_
  refine mk_cons (sn_aald E.1 (by decide +kernel)) ?_
  refine mk_cons (sn_astore_n (k := 3) E.1 (by decide +kernel) rfl (by decide +kernel)) ?_
  refine mk_cons (sn_iload_n (k := 2) E.1 (by decide +kernel) rfl) ?_
  refine mk_cons (sn_tsw (dflt := 79) (lo := 0) (hi := 6) (offs := #[44, 49, 54, 59, 64, 69, 74]) (len := 44) E.1 (by decide +kernel) (by decide +kernel) (by decide +kernel) (by decide +kernel) (by decide +kernel) (by decide +kernel)) ?_
  refine mk_cons (sn_aload_n (k := 3) E.1 E.2.2.2.1 (by decide +kernel) rfl) ?_
  refine mk_cons (sn_getI (i := 107) (c0 := 0) E.1 cls_2 (by decide) rfl (by decide) kf_LS_107 (by decide +kernel)) ?_
  refine mk_cons (sn_iret E.1 E.2.1 E.2.2.2.2.2.2.1 (by decide +kernel)) ?_
  refine mk_cons (sn_aload_n (k := 3) E.1 E.2.2.2.1 (by decide +kernel) rfl) ?_
  refine mk_cons (sn_getI (i := 112) (c0 := 0) E.1 cls_2 (by decide) rfl (by decide) kf_LS_112 (by decide +kernel)) ?_
  refine mk_cons (sn_iret E.1 E.2.1 E.2.2.2.2.2.2.1 (by decide +kernel)) ?_
  refine mk_cons (sn_aload_n (k := 3) E.1 E.2.2.2.1 (by decide +kernel) rfl) ?_
  refine mk_cons (sn_getI (i := 115) (c0 := 0) E.1 cls_2 (by decide) rfl (by decide) kf_LS_115 (by decide +kernel)) ?_
  refine mk_cons (sn_iret E.1 E.2.1 E.2.2.2.2.2.2.1 (by decide +kernel)) ?_
  refine mk_cons (sn_aload_n (k := 3) E.1 E.2.2.2.1 (by decide +kernel) rfl) ?_
  refine mk_cons (sn_getI (i := 118) (c0 := 0) E.1 cls_2 (by decide) rfl (by decide) kf_LS_118 (by decide +kernel)) ?_
  refine mk_cons (sn_iret E.1 E.2.1 E.2.2.2.2.2.2.1 (by decide +kernel)) ?_
  refine mk_cons (sn_aload_n (k := 3) E.1 E.2.2.2.1 (by decide +kernel) rfl) ?_
  refine mk_cons (sn_getI (i := 121) (c0 := 0) E.1 cls_2 (by decide) rfl (by decide) kf_LS_121 (by decide +kernel)) ?_
  refine mk_cons (sn_iret E.1 E.2.1 E.2.2.2.2.2.2.1 (by decide +kernel)) ?_
  refine mk_cons (sn_aload_n (k := 3) E.1 E.2.2.2.1 (by decide +kernel) rfl) ?_
  refine mk_cons (sn_getI (i := 124) (c0 := 0) E.1 cls_2 (by decide) rfl (by decide) kf_LS_124 (by decide +kernel)) ?_
  refine mk_cons (sn_iret E.1 E.2.1 E.2.2.2.2.2.2.1 (by decide +kernel)) ?_
  refine mk_cons (sn_aload_n (k := 3) E.1 E.2.2.2.1 (by decide +kernel) rfl) ?_
  refine mk_cons (sn_getI (i := 127) (c0 := 0) E.1 cls_2 (by decide) rfl (by decide) kf_LS_127 (by decide +kernel)) ?_
  refine mk_cons (sn_iret E.1 E.2.1 E.2.2.2.2.2.2.1 (by decide +kernel)) ?_
  refine mk_cons (sn_iload_n (k := 2) E.1 (by decide +kernel) rfl) ?_
  refine mk_cons (sn_bipush (n := 10) E.1 (by decide +kernel) (by decide +kernel)) ?_
  refine mk_cons (sn_clt (off := 29) E.1 (by decide +kernel) (by decide +kernel)) ?_
  refine mk_cons (sn_iload_n (k := 2) E.1 (by decide +kernel) rfl) ?_
  refine mk_cons (sn_bipush (n := 20) E.1 (by decide +kernel) (by decide +kernel)) ?_
  refine mk_cons (sn_cge (off := 23) E.1 (by decide +kernel) (by decide +kernel)) ?_
  refine mk_cons (sn_aload_n (k := 0) E.1 E.2.2.2.1 (by decide +kernel) rfl) ?_
  refine mk_cons (sn_getR (i := 12) E.1 cls_11 (by decide) rfl kf_LS_12 (by decide +kernel)) ?_
  refine mk_cons (sn_getR (i := 229) E.1 cls_10 (by decide) rfl kf_LS_229 (by decide +kernel)) ?_
  refine mk_cons (sn_iload_n (k := 1) E.1 (by decide +kernel) rfl) ?_
  refine mk_cons (sn_bipush (n := 10) E.1 (by decide +kernel) (by decide +kernel)) ?_
  refine mk_cons (sn_imul E.1 (by decide +kernel)) ?_
  refine mk_cons (sn_iload_n (k := 2) E.1 (by decide +kernel) rfl) ?_
  refine mk_cons (sn_iadd E.1 (by decide +kernel)) ?_
  refine mk_cons (sn_bipush (n := 10) E.1 (by decide +kernel) (by decide +kernel)) ?_
  refine mk_cons (sn_isub E.1 (by decide +kernel)) ?_
  refine mk_cons (sn_iald E.1 (by decide +kernel)) ?_
  refine mk_cons (sn_goto (off := 4) E.1 (by decide +kernel) (by decide +kernel)) ?_
  refine mk_cons (sn_iconst (n := (-1)) E.1 (by decide +kernel) (by decide +kernel)) ?_
  refine mk_cons (sn_iret E.1 E.2.1 E.2.2.2.2.2.2.1 (by decide +kernel)) ?_
  exact mk_nil
set_option maxRecDepth 100000 in
set_option maxHeartbeats 4000000 in
theorem rw_LS_book : mk_Rows n_LS_book := by
  intro p l e R s m args below meth c D cy b sk lim cr Q n0 d E
  show ∀ q ∈ t_LS_book, _
  refine mk_cons (sn_iload_n (k := 1) E.1 (by decide +kernel) rfl) ?_
  refine mk_cons (sn_iflt (off := 23) E.1 (by decide +kernel) (by decide +kernel)) ?_
  refine mk_cons (sn_iload_n (k := 1) E.1 (by decide +kernel) rfl) ?_
  refine mk_cons (sn_aload_n (k := 0) E.1 E.2.2.2.1 (by decide +kernel) rfl) ?_
  refine mk_cons (sn_getR (i := 12) E.1 cls_11 (by decide) rfl kf_LS_12 (by decide +kernel)) ?_
  refine mk_cons (sn_getI (i := 232) (c0 := 0) E.1 cls_10 (by decide) rfl (by decide) kf_LS_232 (by decide +kernel)) ?_
  refine mk_cons (sn_cge (off := 12) E.1 (by decide +kernel) (by decide +kernel)) ?_
  refine mk_cons (sn_iload_n (k := 2) E.1 (by decide +kernel) rfl) ?_
  refine mk_cons (sn_iflt (off := 8) E.1 (by decide +kernel) (by decide +kernel)) ?_
  refine mk_cons (sn_iload_n (k := 2) E.1 (by decide +kernel) rfl) ?_
  refine mk_cons (sn_iconst (n := 4) E.1 (by decide +kernel) (by decide +kernel)) ?_
  refine mk_cons (sn_clt (off := 5) E.1 (by decide +kernel) (by decide +kernel)) ?_
  refine mk_cons (sn_iconst (n := (-1)) E.1 (by decide +kernel) (by decide +kernel)) ?_
  refine mk_cons (sn_iret E.1 E.2.1 E.2.2.2.2.2.2.1 (by decide +kernel)) ?_
  refine mk_cons (sn_aload_n (k := 0) E.1 E.2.2.2.1 (by decide +kernel) rfl) ?_
  refine mk_cons (sn_getR (i := 12) E.1 cls_11 (by decide) rfl kf_LS_12 (by decide +kernel)) ?_
  refine mk_cons (sn_getR (i := 235) E.1 cls_10 (by decide) rfl kf_LS_235 (by decide +kernel)) ?_
  refine mk_cons (sn_iload_n (k := 1) E.1 (by decide +kernel) rfl) ?_
  refine mk_cons (sn_iconst (n := 4) E.1 (by decide +kernel) (by decide +kernel)) ?_
  refine mk_cons (sn_imul E.1 (by decide +kernel)) ?_
  refine mk_cons (sn_iload_n (k := 2) E.1 (by decide +kernel) rfl) ?_
  refine mk_cons (sn_iadd E.1 (by decide +kernel)) ?_
  refine mk_cons (sn_iald E.1 (by decide +kernel)) ?_
  refine mk_cons (sn_iret E.1 E.2.1 E.2.2.2.2.2.2.1 (by decide +kernel)) ?_
  exact mk_nil
set_option maxRecDepth 100000 in
set_option maxHeartbeats 4000000 in
theorem rw_LS_creep : mk_Rows n_LS_creep := by
  intro p l e R s m args below meth c D cy b sk lim cr Q n0 d E
  show ∀ q ∈ t_LS_creep, _
  refine mk_cons (sn_aload_n (k := 0) E.1 E.2.2.2.1 (by decide +kernel) rfl) ?_
  refine mk_cons (sn_getR (i := 12) E.1 cls_11 (by decide) rfl kf_LS_12 (by decide +kernel)) ?_
  refine mk_cons (sn_getJ (i := 211) E.1 cls_10 (by decide) rfl kf_LS_211 (by decide +kernel)) ?_
  refine mk_cons (sn_lret E.1 E.2.1 E.2.2.2.2.2.2.1 (by decide +kernel)) ?_
  exact mk_nil
set_option maxRecDepth 100000 in
set_option maxHeartbeats 4000000 in
theorem rw_LS_comes : mk_Rows n_LS_comes := by
  intro p l e R s m args below meth c D cy b sk lim cr Q n0 d E
  show ∀ q ∈ t_LS_comes, _
  refine mk_cons (sn_aload_n (k := 0) E.1 E.2.2.2.1 (by decide +kernel) rfl) ?_
  refine mk_cons (sn_getR (i := 12) E.1 cls_11 (by decide) rfl kf_LS_12 (by decide +kernel)) ?_
  refine mk_cons (sn_iload_n (k := 1) E.1 (by decide +kernel) rfl) ?_
  refine mk_cons (sn_callV (i := 133) E.1 E.2.2.2.1 E.2.2.2.2.1 E.2.2.2.2.2.1 (E.2.2.2.2.2.2.2 n_World_hasLine) ok_World_hasLine cls_10 rfl km_LS_133 kn_World_hasLine kv_World_hasLine (by decide +kernel)) ?_
  refine mk_cons (sn_ifeq (off := 10) E.1 (by decide +kernel) (by decide +kernel)) ?_
  refine mk_cons (sn_iload_n (k := 2) E.1 (by decide +kernel) rfl) ?_
  refine mk_cons (sn_callS (i := 238) E.1 E.2.2.2.1 E.2.2.2.2.1 E.2.2.2.2.2.1 (E.2.2.2.2.2.2.2 n_LS_isFlag) ok_LS_isFlag km_LS_238 ks_LS_isFlag (by decide +kernel)) ?_
  refine mk_cons (sn_ifne (off := 5) E.1 (by decide +kernel) (by decide +kernel)) ?_
  refine mk_cons (sn_iconst (n := (-1)) E.1 (by decide +kernel) (by decide +kernel)) ?_
  refine mk_cons (sn_iret E.1 E.2.1 E.2.2.2.2.2.2.1 (by decide +kernel)) ?_
  refine mk_cons (sn_aload_n (k := 0) E.1 E.2.2.2.1 (by decide +kernel) rfl) ?_
  refine mk_cons (sn_getR (i := 42) E.1 cls_11 (by decide) rfl kf_LS_42 (by decide +kernel)) ?_
  refine mk_cons (sn_aload_n (k := 0) E.1 E.2.2.2.1 (by decide +kernel) rfl) ?_
  refine mk_cons (sn_getR (i := 12) E.1 cls_11 (by decide) rfl kf_LS_12 (by decide +kernel)) ?_
  refine mk_cons (sn_aload_n (k := 0) E.1 E.2.2.2.1 (by decide +kernel) rfl) ?_
  refine mk_cons (sn_getR (i := 12) E.1 cls_11 (by decide) rfl kf_LS_12 (by decide +kernel)) ?_
  refine mk_cons (sn_getR (i := 103) E.1 cls_10 (by decide) rfl kf_LS_103 (by decide +kernel)) ?_
  refine mk_cons (sn_iload_n (k := 1) E.1 (by decide +kernel) rfl) ?_
  refine mk_cons (sn_aald E.1 (by decide +kernel)) ?_
  refine mk_cons (sn_iload_n (k := 2) E.1 (by decide +kernel) rfl) ?_
  refine mk_cons (sn_aload_n (k := 0) E.1 E.2.2.2.1 (by decide +kernel) rfl) ?_
  refine mk_cons (sn_getR (i := 12) E.1 cls_11 (by decide) rfl kf_LS_12 (by decide +kernel)) ?_
  refine mk_cons (sn_getR (i := 200) E.1 cls_10 (by decide) rfl kf_LS_200 (by decide +kernel)) ?_
  refine mk_cons (sn_aload_n (k := 0) E.1 E.2.2.2.1 (by decide +kernel) rfl) ?_
  refine mk_cons (sn_getR (i := 72) E.1 cls_11 (by decide) rfl kf_LS_72 (by decide +kernel)) ?_
  refine mk_cons (sn_callV (i := 241) E.1 E.2.2.2.1 E.2.2.2.2.1 E.2.2.2.2.2.1 (E.2.2.2.2.2.2.2 n_Clerk_carry) ok_Clerk_carry cls_0 rfl km_LS_241 kn_Clerk_carry kv_Clerk_carry (by decide +kernel)) ?_
  refine mk_cons (sn_pop E.1 (by decide +kernel)) ?_
  refine mk_cons (sn_aload_n (k := 0) E.1 E.2.2.2.1 (by decide +kernel) rfl) ?_
  refine mk_cons (sn_getR (i := 72) E.1 cls_11 (by decide) rfl kf_LS_72 (by decide +kernel)) ?_
  refine mk_cons (sn_iload_n (k := 3) E.1 (by decide +kernel) rfl) ?_
  refine mk_cons (sn_callS (i := 157) E.1 E.2.2.2.1 E.2.2.2.2.1 E.2.2.2.2.2.1 (E.2.2.2.2.2.2.2 n_LS_lengthOrDigit) ok_LS_lengthOrDigit km_LS_157 ks_LS_lengthOrDigit (by decide +kernel)) ?_
  refine mk_cons (sn_iret E.1 E.2.1 E.2.2.2.2.2.2.1 (by decide +kernel)) ?_
  exact mk_nil
