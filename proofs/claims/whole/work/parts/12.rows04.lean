set_option maxRecDepth 100000 in
set_option maxHeartbeats 4000000 in
theorem rw_Tape_numeralHere : mk_Rows n_Tape_numeralHere := by
  intro p l e R s m args below meth c D cy b sk lim cr Q n0 d E
  show ∀ q ∈ t_Tape_numeralHere, _
  refine mk_cons (sn_aload_n (k := 0) E.1 E.2.2.2.1 (by decide +kernel) rfl) ?_
  refine mk_cons (sn_getI (i := 19) (c0 := 0) E.1 cls_9 (by decide) rfl (by decide) kf_Tape_19 (by decide +kernel)) ?_
  refine mk_cons (sn_iload_n (k := 1) E.1 (by decide +kernel) rfl) ?_
  refine mk_cons (sn_iadd E.1 (by decide +kernel)) ?_
  refine mk_cons (sn_istore_n (k := 2) E.1 (by decide +kernel) rfl (by decide +kernel)) ?_
  refine mk_cons (sn_iload_n (k := 1) E.1 (by decide +kernel) rfl) ?_
  refine mk_cons (sn_iflt (off := 31) E.1 (by decide +kernel) (by decide +kernel)) ?_
  refine mk_cons (sn_iload_n (k := 1) E.1 (by decide +kernel) rfl) ?_
  refine mk_cons (sn_aload_n (k := 0) E.1 E.2.2.2.1 (by decide +kernel) rfl) ?_
  refine mk_cons (sn_getI (i := 22) (c0 := 0) E.1 cls_9 (by decide) rfl (by decide) kf_Tape_22 (by decide +kernel)) ?_
  refine mk_cons (sn_cge (off := 23) E.1 (by decide +kernel) (by decide +kernel)) ?_
  refine mk_cons (sn_iload_n (k := 2) E.1 (by decide +kernel) rfl) ?_
  refine mk_cons (sn_aload_n (k := 0) E.1 E.2.2.2.1 (by decide +kernel) rfl) ?_
  refine mk_cons (sn_getI (i := 15) (c0 := 0) E.1 cls_9 (by decide) rfl (by decide) kf_Tape_15 (by decide +kernel)) ?_
  refine mk_cons (sn_cge (off := 15) E.1 (by decide +kernel) (by decide +kernel)) ?_
  refine mk_cons (sn_aload_n (k := 0) E.1 E.2.2.2.1 (by decide +kernel) rfl) ?_
  refine mk_cons (sn_getR (i := 9) E.1 cls_9 (by decide) rfl kf_Tape_9 (by decide +kernel)) ?_
  refine mk_cons (sn_iload_n (k := 2) E.1 (by decide +kernel) rfl) ?_
  refine mk_cons (sn_iald E.1 (by decide +kernel)) ?_
  refine mk_cons (sn_bipush (n := 48) E.1 (by decide +kernel) (by decide +kernel)) ?_
  refine mk_cons (sn_isub E.1 (by decide +kernel)) ?_
  refine mk_cons (sn_goto (off := 4) E.1 (by decide +kernel) (by decide +kernel)) ?_
  refine mk_cons (sn_iconst (n := 0) E.1 (by decide +kernel) (by decide +kernel)) ?_
  refine mk_cons (sn_iret E.1 E.2.1 E.2.2.2.2.2.2.1 (by decide +kernel)) ?_
  exact mk_nil
set_option maxRecDepth 100000 in
set_option maxHeartbeats 4000000 in
theorem rw_Tape_numberHere : mk_Rows n_Tape_numberHere := by
  intro p l e R s m args below meth c D cy b sk lim cr Q n0 d E
  show ∀ q ∈ t_Tape_numberHere, _
  refine mk_cons (sn_iconst (n := 0) E.1 (by decide +kernel) (by decide +kernel)) ?_
  refine mk_cons (sn_istore_n (k := 1) E.1 (by decide +kernel) rfl (by decide +kernel)) ?_
  refine mk_cons (sn_iconst (n := 0) E.1 (by decide +kernel) (by decide +kernel)) ?_
  refine mk_cons (sn_istore_n (k := 2) E.1 (by decide +kernel) rfl (by decide +kernel)) ?_
  refine mk_cons (sn_iload_n (k := 2) E.1 (by decide +kernel) rfl) ?_
  refine mk_cons (sn_aload_n (k := 0) E.1 E.2.2.2.1 (by decide +kernel) rfl) ?_
  refine mk_cons (sn_getI (i := 22) (c0 := 0) E.1 cls_9 (by decide) rfl (by decide) kf_Tape_22 (by decide +kernel)) ?_
  refine mk_cons (sn_cge (off := 29) E.1 (by decide +kernel) (by decide +kernel)) ?_
  refine mk_cons (sn_iload_n (k := 1) E.1 (by decide +kernel) rfl) ?_
  refine mk_cons (sn_bipush (n := 10) E.1 (by decide +kernel) (by decide +kernel)) ?_
  refine mk_cons (sn_imul E.1 (by decide +kernel)) ?_
  refine mk_cons (sn_aload_n (k := 0) E.1 E.2.2.2.1 (by decide +kernel) rfl) ?_
  refine mk_cons (sn_getR (i := 9) E.1 cls_9 (by decide) rfl kf_Tape_9 (by decide +kernel)) ?_
  refine mk_cons (sn_aload_n (k := 0) E.1 E.2.2.2.1 (by decide +kernel) rfl) ?_
  refine mk_cons (sn_getI (i := 19) (c0 := 0) E.1 cls_9 (by decide) rfl (by decide) kf_Tape_19 (by decide +kernel)) ?_
  refine mk_cons (sn_iload_n (k := 2) E.1 (by decide +kernel) rfl) ?_
  refine mk_cons (sn_iadd E.1 (by decide +kernel)) ?_
  refine mk_cons (sn_iald E.1 (by decide +kernel)) ?_
  refine mk_cons (sn_iadd E.1 (by decide +kernel)) ?_
  refine mk_cons (sn_bipush (n := 48) E.1 (by decide +kernel) (by decide +kernel)) ?_
  refine mk_cons (sn_isub E.1 (by decide +kernel)) ?_
  refine mk_cons (sn_istore_n (k := 1) E.1 (by decide +kernel) rfl (by decide +kernel)) ?_
  refine mk_cons (sn_iinc (n := 1) E.1 (by decide +kernel) (by decide +kernel) (by decide +kernel)) ?_
  refine mk_cons (sn_goto (off := (-31)) E.1 (by decide +kernel) (by decide +kernel)) ?_
  refine mk_cons (sn_iload_n (k := 1) E.1 (by decide +kernel) rfl) ?_
  refine mk_cons (sn_iret E.1 E.2.1 E.2.2.2.2.2.2.1 (by decide +kernel)) ?_
  exact mk_nil
set_option maxRecDepth 100000 in
set_option maxHeartbeats 4000000 in
theorem rw_Tape_lettersFrom : mk_Rows n_Tape_lettersFrom := by
  intro p l e R s m args below meth c D cy b sk lim cr Q n0 d E
  show ∀ q ∈ t_Tape_lettersFrom, _
  refine mk_cons (sn_iload_n (k := 1) E.1 (by decide +kernel) rfl) ?_
  refine mk_cons (sn_istore_n (k := 2) E.1 (by decide +kernel) rfl (by decide +kernel)) ?_
  refine mk_cons (sn_iload_n (k := 2) E.1 (by decide +kernel) rfl) ?_
  refine mk_cons (sn_aload_n (k := 0) E.1 E.2.2.2.1 (by decide +kernel) rfl) ?_
  refine mk_cons (sn_getI (i := 15) (c0 := 0) E.1 cls_9 (by decide) rfl (by decide) kf_Tape_15 (by decide +kernel)) ?_
  refine mk_cons (sn_cge (off := 21) E.1 (by decide +kernel) (by decide +kernel)) ?_
  refine mk_cons (sn_aload_n (k := 0) E.1 E.2.2.2.1 (by decide +kernel) rfl) ?_
  refine mk_cons (sn_getR (i := 9) E.1 cls_9 (by decide) rfl kf_Tape_9 (by decide +kernel)) ?_
  refine mk_cons (sn_iload_n (k := 2) E.1 (by decide +kernel) rfl) ?_
  refine mk_cons (sn_iald E.1 (by decide +kernel)) ?_
  refine mk_cons (sn_callS (i := 35) E.1 E.2.2.2.1 E.2.2.2.2.1 E.2.2.2.2.2.1 (E.2.2.2.2.2.2.2 n_Tape_isLetter) ok_Tape_isLetter km_Tape_35 ks_Tape_isLetter (by decide +kernel)) ?_
  refine mk_cons (sn_ifeq (off := 9) E.1 (by decide +kernel) (by decide +kernel)) ?_
  refine mk_cons (sn_iinc (n := 1) E.1 (by decide +kernel) (by decide +kernel) (by decide +kernel)) ?_
  refine mk_cons (sn_goto (off := (-23)) E.1 (by decide +kernel) (by decide +kernel)) ?_
  refine mk_cons (sn_iload_n (k := 2) E.1 (by decide +kernel) rfl) ?_
  refine mk_cons (sn_iret E.1 E.2.1 E.2.2.2.2.2.2.1 (by decide +kernel)) ?_
  exact mk_nil
set_option maxRecDepth 100000 in
set_option maxHeartbeats 4000000 in
theorem rw_Tape_numeralsFrom : mk_Rows n_Tape_numeralsFrom := by
  intro p l e R s m args below meth c D cy b sk lim cr Q n0 d E
  show ∀ q ∈ t_Tape_numeralsFrom, _
  refine mk_cons (sn_iload_n (k := 1) E.1 (by decide +kernel) rfl) ?_
  refine mk_cons (sn_istore_n (k := 2) E.1 (by decide +kernel) rfl (by decide +kernel)) ?_
  refine mk_cons (sn_iload_n (k := 2) E.1 (by decide +kernel) rfl) ?_
  refine mk_cons (sn_aload_n (k := 0) E.1 E.2.2.2.1 (by decide +kernel) rfl) ?_
  refine mk_cons (sn_getI (i := 15) (c0 := 0) E.1 cls_9 (by decide) rfl (by decide) kf_Tape_15 (by decide +kernel)) ?_
  refine mk_cons (sn_cge (off := 21) E.1 (by decide +kernel) (by decide +kernel)) ?_
  refine mk_cons (sn_aload_n (k := 0) E.1 E.2.2.2.1 (by decide +kernel) rfl) ?_
  refine mk_cons (sn_getR (i := 9) E.1 cls_9 (by decide) rfl kf_Tape_9 (by decide +kernel)) ?_
  refine mk_cons (sn_iload_n (k := 2) E.1 (by decide +kernel) rfl) ?_
  refine mk_cons (sn_iald E.1 (by decide +kernel)) ?_
  refine mk_cons (sn_callS (i := 46) E.1 E.2.2.2.1 E.2.2.2.2.1 E.2.2.2.2.2.1 (E.2.2.2.2.2.2.2 n_Tape_isNumeral) ok_Tape_isNumeral km_Tape_46 ks_Tape_isNumeral (by decide +kernel)) ?_
  refine mk_cons (sn_ifeq (off := 9) E.1 (by decide +kernel) (by decide +kernel)) ?_
  refine mk_cons (sn_iinc (n := 1) E.1 (by decide +kernel) (by decide +kernel) (by decide +kernel)) ?_
  refine mk_cons (sn_goto (off := (-23)) E.1 (by decide +kernel) (by decide +kernel)) ?_
  refine mk_cons (sn_iload_n (k := 2) E.1 (by decide +kernel) rfl) ?_
  refine mk_cons (sn_iret E.1 E.2.1 E.2.2.2.2.2.2.1 (by decide +kernel)) ?_
  exact mk_nil
set_option maxRecDepth 100000 in
set_option maxHeartbeats 4000000 in
theorem rw_Tape_keywordHere : mk_Rows n_Tape_keywordHere := by
  intro p l e R s m args below meth c D cy b sk lim cr Q n0 d E
  show ∀ q ∈ t_Tape_keywordHere, _
  refine mk_cons (sn_aload_n (k := 0) E.1 E.2.2.2.1 (by decide +kernel) rfl) ?_
  refine mk_cons (sn_getI (i := 22) (c0 := 0) E.1 cls_9 (by decide) rfl (by decide) kf_Tape_22 (by decide +kernel)) ?_
  refine mk_cons (sn_bipush (n := 6) E.1 (by decide +kernel) (by decide +kernel)) ?_
  refine mk_cons (sn_cgt (off := 31) E.1 (by decide +kernel) (by decide +kernel)) ?_
  refine mk_cons (sn_iconst (n := 0) E.1 (by decide +kernel) (by decide +kernel)) ?_
  refine mk_cons (sn_istore_n (k := 1) E.1 (by decide +kernel) rfl (by decide +kernel)) ?_
  refine mk_cons (sn_iload_n (k := 1) E.1 (by decide +kernel) rfl) ?_
  refine mk_cons (sn_bipush (n := 12) E.1 (by decide +kernel) (by decide +kernel)) ?_
  refine mk_cons (sn_cge (off := 23) E.1 (by decide +kernel) (by decide +kernel)) ?_
  refine mk_cons (sn_aload_n (k := 0) E.1 E.2.2.2.1 (by decide +kernel) rfl) ?_
  refine mk_cons (sn_iload_n (k := 1) E.1 (by decide +kernel) rfl) ?_
  refine mk_cons (sn_callV (i := 59) E.1 E.2.2.2.1 E.2.2.2.2.1 E.2.2.2.2.2.1 (E.2.2.2.2.2.2.2 n_Tape_spells) ok_Tape_spells cls_9 rfl km_Tape_59 kn_Tape_spells kv_Tape_spells (by decide +kernel)) ?_
  refine mk_cons (sn_ifeq (off := 9) E.1 (by decide +kernel) (by decide +kernel)) ?_
  refine mk_cons (sn_sipush (n := 10100) E.1 (by decide +kernel) (by decide +kernel)) ?_
  refine mk_cons (sn_iload_n (k := 1) E.1 (by decide +kernel) rfl) ?_
  refine mk_cons (sn_iadd E.1 (by decide +kernel)) ?_
  refine mk_cons (sn_iret E.1 E.2.1 E.2.2.2.2.2.2.1 (by decide +kernel)) ?_
  refine mk_cons (sn_iinc (n := 1) E.1 (by decide +kernel) (by decide +kernel) (by decide +kernel)) ?_
  refine mk_cons (sn_goto (off := (-23)) E.1 (by decide +kernel) (by decide +kernel)) ?_
  refine mk_cons (sn_sipush (n := 10001) E.1 (by decide +kernel) (by decide +kernel)) ?_
  refine mk_cons (sn_iret E.1 E.2.1 E.2.2.2.2.2.2.1 (by decide +kernel)) ?_
  exact mk_nil
set_option maxRecDepth 100000 in
set_option maxHeartbeats 4000000 in
theorem rw_Tape_spells : mk_Rows n_Tape_spells := by
  intro p l e R s m args below meth c D cy b sk lim cr Q n0 d E
  show ∀ q ∈ t_Tape_spells, _
  refine mk_cons (sn_iconst (n := 0) E.1 (by decide +kernel) (by decide +kernel)) ?_
  refine mk_cons (sn_istore_n (k := 2) E.1 (by decide +kernel) rfl (by decide +kernel)) ?_
  refine mk_cons (sn_iload_n (k := 2) E.1 (by decide +kernel) rfl) ?_
  refine mk_cons (sn_bipush (n := 6) E.1 (by decide +kernel) (by decide +kernel)) ?_
  refine mk_cons (sn_cge (off := 51) E.1 (by decide +kernel) (by decide +kernel)) ?_
  refine mk_cons (sn_iload_n (k := 2) E.1 (by decide +kernel) rfl) ?_
  refine mk_cons (sn_aload_n (k := 0) E.1 E.2.2.2.1 (by decide +kernel) rfl) ?_
  refine mk_cons (sn_getI (i := 22) (c0 := 0) E.1 cls_9 (by decide) rfl (by decide) kf_Tape_22 (by decide +kernel)) ?_
  refine mk_cons (sn_cge (off := 17) E.1 (by decide +kernel) (by decide +kernel)) ?_
  refine mk_cons (sn_aload_n (k := 0) E.1 E.2.2.2.1 (by decide +kernel) rfl) ?_
  refine mk_cons (sn_getR (i := 9) E.1 cls_9 (by decide) rfl kf_Tape_9 (by decide +kernel)) ?_
  refine mk_cons (sn_aload_n (k := 0) E.1 E.2.2.2.1 (by decide +kernel) rfl) ?_
  refine mk_cons (sn_getI (i := 19) (c0 := 0) E.1 cls_9 (by decide) rfl (by decide) kf_Tape_19 (by decide +kernel)) ?_
  refine mk_cons (sn_iload_n (k := 2) E.1 (by decide +kernel) rfl) ?_
  refine mk_cons (sn_iadd E.1 (by decide +kernel)) ?_
  refine mk_cons (sn_iald E.1 (by decide +kernel)) ?_
  refine mk_cons (sn_goto (off := 5) E.1 (by decide +kernel) (by decide +kernel)) ?_
  refine mk_cons (sn_bipush (n := 32) E.1 (by decide +kernel) (by decide +kernel)) ?_
  refine mk_cons (sn_istore_n (k := 3) E.1 (by decide +kernel) rfl (by decide +kernel)) ?_
  refine mk_cons (sn_iload_n (k := 3) E.1 (by decide +kernel) rfl) ?_
  refine mk_cons (sn_ldcS (i := 62) (j := 0) (tx := "to    none  when  or    and   not   day   frost place lengthleft  right ") E.1 (by decide) (E.2.2.2.2.1.1 0 ("LostSevens$Tape", 62, "to    none  when  or    and   not   day   frost place lengthleft  right ") rfl) (by decide +kernel)) ?_
  refine mk_cons (sn_iload_n (k := 1) E.1 (by decide +kernel) rfl) ?_
  refine mk_cons (sn_bipush (n := 6) E.1 (by decide +kernel) (by decide +kernel)) ?_
  refine mk_cons (sn_imul E.1 (by decide +kernel)) ?_
  refine mk_cons (sn_iload_n (k := 2) E.1 (by decide +kernel) rfl) ?_
  refine mk_cons (sn_iadd E.1 (by decide +kernel)) ?_
  refine mk_cons (sn_callT (i := 64) E.1 E.2.2.2.1 E.2.2.2.2.1 E.2.2.2.2.2.1 (E.2.2.2.2.2.2.2 n_Str_charAt) ok_Str_charAt rfl km_Tape_64 kn_Str_charAt kv_Str_charAt (by decide +kernel)) ?_
  refine mk_cons (sn_ceq (off := 5) E.1 (by decide +kernel) (by decide +kernel)) ?_
  refine mk_cons (sn_iconst (n := 0) E.1 (by decide +kernel) (by decide +kernel)) ?_
  refine mk_cons (sn_zret E.1 E.2.1 E.2.2.2.2.2.2.1 (by decide +kernel)) ?_
  refine mk_cons (sn_iinc (n := 1) E.1 (by decide +kernel) (by decide +kernel) (by decide +kernel)) ?_
  refine mk_cons (sn_goto (off := (-51)) E.1 (by decide +kernel) (by decide +kernel)) ?_
  refine mk_cons (sn_iconst (n := 1) E.1 (by decide +kernel) (by decide +kernel)) ?_
  refine mk_cons (sn_zret E.1 E.2.1 E.2.2.2.2.2.2.1 (by decide +kernel)) ?_
  exact mk_nil
set_option maxRecDepth 100000 in
set_option maxHeartbeats 4000000 in
theorem rw_Tape_isBlank : mk_Rows n_Tape_isBlank := by
  intro p l e R s m args below meth c D cy b sk lim cr Q n0 d E
  show ∀ q ∈ t_Tape_isBlank, _
  refine mk_cons (sn_iload_n (k := 0) E.1 (by decide +kernel) rfl) ?_
  refine mk_cons (sn_bipush (n := 32) E.1 (by decide +kernel) (by decide +kernel)) ?_
  refine mk_cons (sn_ceq (off := 9) E.1 (by decide +kernel) (by decide +kernel)) ?_
  refine mk_cons (sn_iload_n (k := 0) E.1 (by decide +kernel) rfl) ?_
  refine mk_cons (sn_bipush (n := 10) E.1 (by decide +kernel) (by decide +kernel)) ?_
  refine mk_cons (sn_cne (off := 7) E.1 (by decide +kernel) (by decide +kernel)) ?_
  refine mk_cons (sn_iconst (n := 1) E.1 (by decide +kernel) (by decide +kernel)) ?_
  refine mk_cons (sn_goto (off := 4) E.1 (by decide +kernel) (by decide +kernel)) ?_
  refine mk_cons (sn_iconst (n := 0) E.1 (by decide +kernel) (by decide +kernel)) ?_
  refine mk_cons (sn_zret E.1 E.2.1 E.2.2.2.2.2.2.1 (by decide +kernel)) ?_
  exact mk_nil
set_option maxRecDepth 100000 in
set_option maxHeartbeats 4000000 in
theorem rw_Tape_isLetter : mk_Rows n_Tape_isLetter := by
  intro p l e R s m args below meth c D cy b sk lim cr Q n0 d E
  show ∀ q ∈ t_Tape_isLetter, _
  refine mk_cons (sn_iload_n (k := 0) E.1 (by decide +kernel) rfl) ?_
  refine mk_cons (sn_bipush (n := 97) E.1 (by decide +kernel) (by decide +kernel)) ?_
  refine mk_cons (sn_clt (off := 9) E.1 (by decide +kernel) (by decide +kernel)) ?_
  refine mk_cons (sn_iload_n (k := 0) E.1 (by decide +kernel) rfl) ?_
  refine mk_cons (sn_bipush (n := 122) E.1 (by decide +kernel) (by decide +kernel)) ?_
  refine mk_cons (sn_cle (off := 15) E.1 (by decide +kernel) (by decide +kernel)) ?_
  refine mk_cons (sn_iload_n (k := 0) E.1 (by decide +kernel) rfl) ?_
  refine mk_cons (sn_bipush (n := 65) E.1 (by decide +kernel) (by decide +kernel)) ?_
  refine mk_cons (sn_clt (off := 13) E.1 (by decide +kernel) (by decide +kernel)) ?_
  refine mk_cons (sn_iload_n (k := 0) E.1 (by decide +kernel) rfl) ?_
  refine mk_cons (sn_bipush (n := 90) E.1 (by decide +kernel) (by decide +kernel)) ?_
  refine mk_cons (sn_cgt (off := 7) E.1 (by decide +kernel) (by decide +kernel)) ?_
  refine mk_cons (sn_iconst (n := 1) E.1 (by decide +kernel) (by decide +kernel)) ?_
  refine mk_cons (sn_goto (off := 4) E.1 (by decide +kernel) (by decide +kernel)) ?_
  refine mk_cons (sn_iconst (n := 0) E.1 (by decide +kernel) (by decide +kernel)) ?_
  refine mk_cons (sn_zret E.1 E.2.1 E.2.2.2.2.2.2.1 (by decide +kernel)) ?_
  exact mk_nil
set_option maxRecDepth 100000 in
set_option maxHeartbeats 4000000 in
theorem rw_Tape_isNumeral : mk_Rows n_Tape_isNumeral := by
  intro p l e R s m args below meth c D cy b sk lim cr Q n0 d E
  show ∀ q ∈ t_Tape_isNumeral, _
  refine mk_cons (sn_iload_n (k := 0) E.1 (by decide +kernel) rfl) ?_
  refine mk_cons (sn_bipush (n := 48) E.1 (by decide +kernel) (by decide +kernel)) ?_
  refine mk_cons (sn_clt (off := 13) E.1 (by decide +kernel) (by decide +kernel)) ?_
  refine mk_cons (sn_iload_n (k := 0) E.1 (by decide +kernel) rfl) ?_
  refine mk_cons (sn_bipush (n := 57) E.1 (by decide +kernel) (by decide +kernel)) ?_
  refine mk_cons (sn_cgt (off := 7) E.1 (by decide +kernel) (by decide +kernel)) ?_
  refine mk_cons (sn_iconst (n := 1) E.1 (by decide +kernel) (by decide +kernel)) ?_
  refine mk_cons (sn_goto (off := 4) E.1 (by decide +kernel) (by decide +kernel)) ?_
  refine mk_cons (sn_iconst (n := 0) E.1 (by decide +kernel) (by decide +kernel)) ?_
  refine mk_cons (sn_zret E.1 E.2.1 E.2.2.2.2.2.2.1 (by decide +kernel)) ?_
  exact mk_nil
set_option maxRecDepth 100000 in
set_option maxHeartbeats 4000000 in
theorem rw_World_init : mk_Rows n_World_init := by
  intro p l e R s m args below meth c D cy b sk lim cr Q n0 d E
  show ∀ q ∈ t_World_init, _
  refine mk_cons (sn_aload_n (k := 0) E.1 E.2.2.2.1 (by decide +kernel) rfl) ?_
  refine mk_cons (sn_oini (i := 3) E.1 km_World_3 kn_oini kd_oini (by decide +kernel)) ?_
  refine mk_cons (sn_aload_n (k := 0) E.1 E.2.2.2.1 (by decide +kernel) rfl) ?_
  refine mk_cons (sn_bipush (n := 12) E.1 (by decide +kernel) (by decide +kernel)) ?_
  refine mk_cons (sn_newR (i := 9) (C := RX2) E.1 ⟨by decide, rfl⟩ kk_World_9 E.2.2.2.2.1.2.1 (by decide +kernel)) ?_
  refine mk_cons (sn_putRF (i := 11) E.1 E.2.2.1 cls_10 (by decide) rfl (Or.inr ⟨_, rfl⟩) rfl rfl kf_World_11 (by decide +kernel)) ?_
  refine mk_cons (sn_aload_n (k := 0) E.1 E.2.2.2.1 (by decide +kernel) rfl) ?_
  refine mk_cons (sn_iconst (n := 4) E.1 (by decide +kernel) (by decide +kernel)) ?_
  refine mk_cons (sn_newR (i := 17) (C := RX7) E.1 ⟨by decide, rfl⟩ kk_World_17 E.2.2.2.2.1.2.2.2.1 (by decide +kernel)) ?_
  refine mk_cons (sn_putRF (i := 19) E.1 E.2.2.1 cls_10 (by decide) rfl (Or.inr ⟨_, rfl⟩) rfl rfl kf_World_19 (by decide +kernel)) ?_
  refine mk_cons (sn_aload_n (k := 0) E.1 E.2.2.2.1 (by decide +kernel) rfl) ?_
  refine mk_cons (sn_new (i := 23) E.1 cls_3 rfl kk_World_23 ki_Message kz_Message (by decide +kernel)) ?_
  refine mk_cons (sn_dup E.1 (by decide +kernel)) ?_
  refine mk_cons (sn_callI (i := 25) E.1 E.2.2.2.1 E.2.2.2.2.1 E.2.2.2.2.2.1 (E.2.2.2.2.2.2.2 n_Message_init) ok_Message_init rfl rfl km_World_25 kn_Message_init (by decide +kernel)) ?_
  refine mk_cons (sn_putRF (i := 26) E.1 E.2.2.1 cls_10 (by decide) rfl (Or.inl ⟨_, rfl⟩) rfl rfl kf_World_26 (by decide +kernel)) ?_
  refine mk_cons (sn_aload_n (k := 0) E.1 E.2.2.2.1 (by decide +kernel) rfl) ?_
  refine mk_cons (sn_new (i := 23) E.1 cls_3 rfl kk_World_23 ki_Message kz_Message (by decide +kernel)) ?_
  refine mk_cons (sn_dup E.1 (by decide +kernel)) ?_
  refine mk_cons (sn_callI (i := 25) E.1 E.2.2.2.1 E.2.2.2.2.1 E.2.2.2.2.2.1 (E.2.2.2.2.2.2.2 n_Message_init) ok_Message_init rfl rfl km_World_25 kn_Message_init (by decide +kernel)) ?_
  refine mk_cons (sn_putRF (i := 30) E.1 E.2.2.1 cls_10 (by decide) rfl (Or.inl ⟨_, rfl⟩) rfl rfl kf_World_30 (by decide +kernel)) ?_
  refine mk_cons (sn_aload_n (k := 0) E.1 E.2.2.2.1 (by decide +kernel) rfl) ?_
  refine mk_cons (sn_new (i := 23) E.1 cls_3 rfl kk_World_23 ki_Message kz_Message (by decide +kernel)) ?_
  refine mk_cons (sn_dup E.1 (by decide +kernel)) ?_
  refine mk_cons (sn_callI (i := 25) E.1 E.2.2.2.1 E.2.2.2.2.1 E.2.2.2.2.2.1 (E.2.2.2.2.2.2.2 n_Message_init) ok_Message_init rfl rfl km_World_25 kn_Message_init (by decide +kernel)) ?_
  refine mk_cons (sn_putRF (i := 33) E.1 E.2.2.1 cls_10 (by decide) rfl (Or.inl ⟨_, rfl⟩) rfl rfl kf_World_33 (by decide +kernel)) ?_
  refine mk_cons (sn_aload_n (k := 0) E.1 E.2.2.2.1 (by decide +kernel) rfl) ?_
  refine mk_cons (sn_bipush (n := 120) E.1 (by decide +kernel) (by decide +kernel)) ?_
  refine mk_cons (sn_newI E.1 ka_int (by decide +kernel)) ?_
  refine mk_cons (sn_putRF (i := 36) E.1 E.2.2.1 cls_10 (by decide) rfl (Or.inr ⟨_, rfl⟩) rfl rfl kf_World_36 (by decide +kernel)) ?_
  refine mk_cons (sn_aload_n (k := 0) E.1 E.2.2.2.1 (by decide +kernel) rfl) ?_
  refine mk_cons (sn_sipush (n := 800) E.1 (by decide +kernel) (by decide +kernel)) ?_
  refine mk_cons (sn_newI E.1 ka_int (by decide +kernel)) ?_
  refine mk_cons (sn_putRF (i := 40) E.1 E.2.2.1 cls_10 (by decide) rfl (Or.inr ⟨_, rfl⟩) rfl rfl kf_World_40 (by decide +kernel)) ?_
  refine mk_cons (sn_aload_n (k := 0) E.1 E.2.2.2.1 (by decide +kernel) rfl) ?_
  refine mk_cons (sn_bipush (n := 20) E.1 (by decide +kernel) (by decide +kernel)) ?_
  refine mk_cons (sn_newI E.1 ka_int (by decide +kernel)) ?_
  refine mk_cons (sn_putRF (i := 43) E.1 E.2.2.1 cls_10 (by decide) rfl (Or.inr ⟨_, rfl⟩) rfl rfl kf_World_43 (by decide +kernel)) ?_
  refine mk_cons (sn_aload_n (k := 0) E.1 E.2.2.2.1 (by decide +kernel) rfl) ?_
  refine mk_cons (sn_bipush (n := 20) E.1 (by decide +kernel) (by decide +kernel)) ?_
  refine mk_cons (sn_newI E.1 ka_int (by decide +kernel)) ?_
  refine mk_cons (sn_putRF (i := 46) E.1 E.2.2.1 cls_10 (by decide) rfl (Or.inr ⟨_, rfl⟩) rfl rfl kf_World_46 (by decide +kernel)) ?_
  refine mk_cons (sn_aload_n (k := 0) E.1 E.2.2.2.1 (by decide +kernel) rfl) ?_
  refine mk_cons (sn_bipush (n := 20) E.1 (by decide +kernel) (by decide +kernel)) ?_
  refine mk_cons (sn_newI E.1 ka_int (by decide +kernel)) ?_
  refine mk_cons (sn_putRF (i := 49) E.1 E.2.2.1 cls_10 (by decide) rfl (Or.inr ⟨_, rfl⟩) rfl rfl kf_World_49 (by decide +kernel)) ?_
  refine mk_cons (sn_aload_n (k := 0) E.1 E.2.2.2.1 (by decide +kernel) rfl) ?_
  refine mk_cons (sn_iconst (n := 0) E.1 (by decide +kernel) (by decide +kernel)) ?_
  refine mk_cons (sn_putI (i := 52) E.1 cls_10 (by decide) rfl rfl rfl kf_World_52 (by decide +kernel)) ?_
  refine mk_cons (sn_aload_n (k := 0) E.1 E.2.2.2.1 (by decide +kernel) rfl) ?_
  refine mk_cons (sn_iconst (n := 0) E.1 (by decide +kernel) (by decide +kernel)) ?_
  refine mk_cons (sn_putI (i := 56) E.1 cls_10 (by decide) rfl rfl rfl kf_World_56 (by decide +kernel)) ?_
  refine mk_cons (sn_aload_n (k := 0) E.1 E.2.2.2.1 (by decide +kernel) rfl) ?_
  refine mk_cons (sn_iconst (n := 0) E.1 (by decide +kernel) (by decide +kernel)) ?_
  refine mk_cons (sn_putI (i := 59) E.1 cls_10 (by decide) rfl rfl rfl kf_World_59 (by decide +kernel)) ?_
  refine mk_cons (sn_aload_n (k := 0) E.1 E.2.2.2.1 (by decide +kernel) rfl) ?_
  refine mk_cons (sn_iconst (n := 0) E.1 (by decide +kernel) (by decide +kernel)) ?_
  refine mk_cons (sn_putI (i := 62) E.1 cls_10 (by decide) rfl rfl rfl kf_World_62 (by decide +kernel)) ?_
  refine mk_cons (sn_aload_n (k := 0) E.1 E.2.2.2.1 (by decide +kernel) rfl) ?_
  refine mk_cons (sn_iconst (n := 0) E.1 (by decide +kernel) (by decide +kernel)) ?_
  refine mk_cons (sn_putI (i := 65) E.1 cls_10 (by decide) rfl rfl rfl kf_World_65 (by decide +kernel)) ?_
  refine mk_cons (sn_aload_n (k := 0) E.1 E.2.2.2.1 (by decide +kernel) rfl) ?_
  refine mk_cons (sn_iconst (n := 0) E.1 (by decide +kernel) (by decide +kernel)) ?_
  refine mk_cons (sn_putI (i := 68) E.1 cls_10 (by decide) rfl rfl rfl kf_World_68 (by decide +kernel)) ?_
  refine mk_cons (sn_aload_n (k := 0) E.1 E.2.2.2.1 (by decide +kernel) rfl) ?_
  refine mk_cons (sn_lconst (n := 0) E.1 (by decide +kernel) (by decide +kernel)) ?_
  refine mk_cons (sn_putJ (i := 71) E.1 cls_10 (by decide) rfl rfl rfl kf_World_71 (by decide +kernel)) ?_
  refine mk_cons (sn_iconst (n := 0) E.1 (by decide +kernel) (by decide +kernel)) ?_
  refine mk_cons (sn_istore_n (k := 1) E.1 (by decide +kernel) rfl (by decide +kernel)) ?_
  refine mk_cons (sn_iload_n (k := 1) E.1 (by decide +kernel) rfl) ?_
  refine mk_cons (sn_bipush (n := 12) E.1 (by decide +kernel) (by decide +kernel)) ?_
  refine mk_cons (sn_cge (off := 22) E.1 (by decide +kernel) (by decide +kernel)) ?_
  refine mk_cons (sn_aload_n (k := 0) E.1 E.2.2.2.1 (by decide +kernel) rfl) ?_
  refine mk_cons (sn_getR (i := 11) E.1 cls_10 (by decide) rfl kf_World_11 (by decide +kernel)) ?_
  refine mk_cons (sn_iload_n (k := 1) E.1 (by decide +kernel) rfl) ?_
  refine mk_cons (sn_new (i := 9) E.1 cls_2 rfl kk_World_9 ki_Line kz_Line (by decide +kernel)) ?_
  refine mk_cons (sn_dup E.1 (by decide +kernel)) ?_
  refine mk_cons (sn_callI (i := 75) E.1 E.2.2.2.1 E.2.2.2.2.1 E.2.2.2.2.2.1 (E.2.2.2.2.2.2.2 n_Line_init) ok_Line_init rfl rfl km_World_75 kn_Line_init (by decide +kernel)) ?_
  refine mk_cons (sn_aast E.1 (by decide +kernel)) ?_
  refine mk_cons (sn_iinc (n := 1) E.1 (by decide +kernel) (by decide +kernel) (by decide +kernel)) ?_
  refine mk_cons (sn_goto (off := (-22)) E.1 (by decide +kernel) (by decide +kernel)) ?_
  refine mk_cons (sn_iconst (n := 0) E.1 (by decide +kernel) (by decide +kernel)) ?_
  refine mk_cons (sn_istore_n (k := 1) E.1 (by decide +kernel) rfl (by decide +kernel)) ?_
  refine mk_cons (sn_iload_n (k := 1) E.1 (by decide +kernel) rfl) ?_
  refine mk_cons (sn_iconst (n := 4) E.1 (by decide +kernel) (by decide +kernel)) ?_
  refine mk_cons (sn_cge (off := 22) E.1 (by decide +kernel) (by decide +kernel)) ?_
  refine mk_cons (sn_aload_n (k := 0) E.1 E.2.2.2.1 (by decide +kernel) rfl) ?_
  refine mk_cons (sn_getR (i := 19) E.1 cls_10 (by decide) rfl kf_World_19 (by decide +kernel)) ?_
  refine mk_cons (sn_iload_n (k := 1) E.1 (by decide +kernel) rfl) ?_
  refine mk_cons (sn_new (i := 17) E.1 cls_7 rfl kk_World_17 ki_Rules kz_Rules (by decide +kernel)) ?_
  refine mk_cons (sn_dup E.1 (by decide +kernel)) ?_
  refine mk_cons (sn_callI (i := 76) E.1 E.2.2.2.1 E.2.2.2.2.1 E.2.2.2.2.2.1 (E.2.2.2.2.2.2.2 n_Rules_init) ok_Rules_init rfl rfl km_World_76 kn_Rules_init (by decide +kernel)) ?_
  refine mk_cons (sn_aast E.1 (by decide +kernel)) ?_
  refine mk_cons (sn_iinc (n := 1) E.1 (by decide +kernel) (by decide +kernel) (by decide +kernel)) ?_
  refine mk_cons (sn_goto (off := (-21)) E.1 (by decide +kernel) (by decide +kernel)) ?_
  refine mk_cons (sn_ret E.1 E.2.1 E.2.2.2.2.2.2.1 (by decide +kernel)) ?_
  exact mk_nil
set_option maxRecDepth 100000 in
set_option maxHeartbeats 4000000 in
theorem rw_World_hasLine : mk_Rows n_World_hasLine := by
  intro p l e R s m args below meth c D cy b sk lim cr Q n0 d E
  show ∀ q ∈ t_World_hasLine, _
  refine mk_cons (sn_iload_n (k := 1) E.1 (by decide +kernel) rfl) ?_
  refine mk_cons (sn_iflt (off := 15) E.1 (by decide +kernel) (by decide +kernel)) ?_
  refine mk_cons (sn_iload_n (k := 1) E.1 (by decide +kernel) rfl) ?_
  refine mk_cons (sn_aload_n (k := 0) E.1 E.2.2.2.1 (by decide +kernel) rfl) ?_
  refine mk_cons (sn_getI (i := 52) (c0 := 0) E.1 cls_10 (by decide) rfl (by decide) kf_World_52 (by decide +kernel)) ?_
  refine mk_cons (sn_cge (off := 7) E.1 (by decide +kernel) (by decide +kernel)) ?_
  refine mk_cons (sn_iconst (n := 1) E.1 (by decide +kernel) (by decide +kernel)) ?_
  refine mk_cons (sn_goto (off := 4) E.1 (by decide +kernel) (by decide +kernel)) ?_
  refine mk_cons (sn_iconst (n := 0) E.1 (by decide +kernel) (by decide +kernel)) ?_
  refine mk_cons (sn_zret E.1 E.2.1 E.2.2.2.2.2.2.1 (by decide +kernel)) ?_
  exact mk_nil
set_option maxRecDepth 100000 in
set_option maxHeartbeats 4000000 in
theorem rw_World_drawThousand : mk_Rows n_World_drawThousand := by
  intro p l e R s m args below meth c D cy b sk lim cr Q n0 d E
  show ∀ q ∈ t_World_drawThousand, _
  refine mk_cons (sn_aload_n (k := 0) E.1 E.2.2.2.1 (by decide +kernel) rfl) ?_
  refine mk_cons (sn_aload_n (k := 0) E.1 E.2.2.2.1 (by decide +kernel) rfl) ?_
  refine mk_cons (sn_getI (i := 65) (c0 := 0) E.1 cls_10 (by decide) rfl (by decide) kf_World_65 (by decide +kernel)) ?_
  refine mk_cons (sn_ldc (i := 77) E.1 kc_World_77 (by decide +kernel)) ?_
  refine mk_cons (sn_imul E.1 (by decide +kernel)) ?_
  refine mk_cons (sn_ldc (i := 78) E.1 kc_World_78 (by decide +kernel)) ?_
  refine mk_cons (sn_iadd E.1 (by decide +kernel)) ?_
  refine mk_cons (sn_putI (i := 65) E.1 cls_10 (by decide) rfl rfl rfl kf_World_65 (by decide +kernel)) ?_
  refine mk_cons (sn_aload_n (k := 0) E.1 E.2.2.2.1 (by decide +kernel) rfl) ?_
  refine mk_cons (sn_getI (i := 65) (c0 := 0) E.1 cls_10 (by decide) rfl (by decide) kf_World_65 (by decide +kernel)) ?_
  refine mk_cons (sn_bipush (n := 8) E.1 (by decide +kernel) (by decide +kernel)) ?_
  refine mk_cons (sn_iushr E.1 (by decide +kernel)) ?_
  refine mk_cons (sn_sipush (n := 1000) E.1 (by decide +kernel) (by decide +kernel)) ?_
  refine mk_cons (sn_irem E.1 (by decide +kernel)) ?_
  refine mk_cons (sn_iret E.1 E.2.1 E.2.2.2.2.2.2.1 (by decide +kernel)) ?_
  exact mk_nil
set_option maxRecDepth 100000 in
set_option maxHeartbeats 4000000 in
theorem rw_World_keepLoss : mk_Rows n_World_keepLoss := by
  intro p l e R s m args below meth c D cy b sk lim cr Q n0 d E
  show ∀ q ∈ t_World_keepLoss, _
  refine mk_cons (sn_aload_n (k := 0) E.1 E.2.2.2.1 (by decide +kernel) rfl) ?_
  refine mk_cons (sn_getR (i := 36) E.1 cls_10 (by decide) rfl kf_World_36 (by decide +kernel)) ?_
  refine mk_cons (sn_iload_n (k := 1) E.1 (by decide +kernel) rfl) ?_
  refine mk_cons (sn_bipush (n := 10) E.1 (by decide +kernel) (by decide +kernel)) ?_
  refine mk_cons (sn_imul E.1 (by decide +kernel)) ?_
  refine mk_cons (sn_iload_n (k := 2) E.1 (by decide +kernel) rfl) ?_
  refine mk_cons (sn_iadd E.1 (by decide +kernel)) ?_
  refine mk_cons (sn_dup2 E.1 (by decide +kernel)) ?_
  refine mk_cons (sn_iald E.1 (by decide +kernel)) ?_
  refine mk_cons (sn_iconst (n := 1) E.1 (by decide +kernel) (by decide +kernel)) ?_
  refine mk_cons (sn_iadd E.1 (by decide +kernel)) ?_
  refine mk_cons (sn_iast E.1 (by decide +kernel)) ?_
  refine mk_cons (sn_aload_n (k := 0) E.1 E.2.2.2.1 (by decide +kernel) rfl) ?_
  refine mk_cons (sn_getI (i := 56) (c0 := 0) E.1 cls_10 (by decide) rfl (by decide) kf_World_56 (by decide +kernel)) ?_
  refine mk_cons (sn_sipush (n := 200) E.1 (by decide +kernel) (by decide +kernel)) ?_
  refine mk_cons (sn_cge (off := 62) E.1 (by decide +kernel) (by decide +kernel)) ?_
  refine mk_cons (sn_aload_n (k := 0) E.1 E.2.2.2.1 (by decide +kernel) rfl) ?_
  refine mk_cons (sn_getI (i := 56) (c0 := 0) E.1 cls_10 (by decide) rfl (by decide) kf_World_56 (by decide +kernel)) ?_
  refine mk_cons (sn_iconst (n := 4) E.1 (by decide +kernel) (by decide +kernel)) ?_
  refine mk_cons (sn_imul E.1 (by decide +kernel)) ?_
  refine mk_cons (sn_istore E.1 (by decide +kernel) (by decide +kernel)) ?_
  refine mk_cons (sn_aload_n (k := 0) E.1 E.2.2.2.1 (by decide +kernel) rfl) ?_
  refine mk_cons (sn_getR (i := 40) E.1 cls_10 (by decide) rfl kf_World_40 (by decide +kernel)) ?_
  refine mk_cons (sn_iload E.1 (by decide +kernel)) ?_
  refine mk_cons (sn_iload_n (k := 1) E.1 (by decide +kernel) rfl) ?_
  refine mk_cons (sn_iast E.1 (by decide +kernel)) ?_
  refine mk_cons (sn_aload_n (k := 0) E.1 E.2.2.2.1 (by decide +kernel) rfl) ?_
  refine mk_cons (sn_getR (i := 40) E.1 cls_10 (by decide) rfl kf_World_40 (by decide +kernel)) ?_
  refine mk_cons (sn_iload E.1 (by decide +kernel)) ?_
  refine mk_cons (sn_iconst (n := 1) E.1 (by decide +kernel) (by decide +kernel)) ?_
  refine mk_cons (sn_iadd E.1 (by decide +kernel)) ?_
  refine mk_cons (sn_iload_n (k := 2) E.1 (by decide +kernel) rfl) ?_
  refine mk_cons (sn_iast E.1 (by decide +kernel)) ?_
  refine mk_cons (sn_aload_n (k := 0) E.1 E.2.2.2.1 (by decide +kernel) rfl) ?_
  refine mk_cons (sn_getR (i := 40) E.1 cls_10 (by decide) rfl kf_World_40 (by decide +kernel)) ?_
  refine mk_cons (sn_iload E.1 (by decide +kernel)) ?_
  refine mk_cons (sn_iconst (n := 2) E.1 (by decide +kernel) (by decide +kernel)) ?_
  refine mk_cons (sn_iadd E.1 (by decide +kernel)) ?_
  refine mk_cons (sn_aload_n (k := 0) E.1 E.2.2.2.1 (by decide +kernel) rfl) ?_
  refine mk_cons (sn_getI (i := 62) (c0 := 0) E.1 cls_10 (by decide) rfl (by decide) kf_World_62 (by decide +kernel)) ?_
  refine mk_cons (sn_iast E.1 (by decide +kernel)) ?_
  refine mk_cons (sn_aload_n (k := 0) E.1 E.2.2.2.1 (by decide +kernel) rfl) ?_
  refine mk_cons (sn_getR (i := 40) E.1 cls_10 (by decide) rfl kf_World_40 (by decide +kernel)) ?_
  refine mk_cons (sn_iload E.1 (by decide +kernel)) ?_
  refine mk_cons (sn_iconst (n := 3) E.1 (by decide +kernel) (by decide +kernel)) ?_
  refine mk_cons (sn_iadd E.1 (by decide +kernel)) ?_
  refine mk_cons (sn_iload_n (k := 3) E.1 (by decide +kernel) rfl) ?_
  refine mk_cons (sn_iast E.1 (by decide +kernel)) ?_
  refine mk_cons (sn_aload_n (k := 0) E.1 E.2.2.2.1 (by decide +kernel) rfl) ?_
  refine mk_cons (sn_dup E.1 (by decide +kernel)) ?_
  refine mk_cons (sn_getI (i := 56) (c0 := 0) E.1 cls_10 (by decide) rfl (by decide) kf_World_56 (by decide +kernel)) ?_
  refine mk_cons (sn_iconst (n := 1) E.1 (by decide +kernel) (by decide +kernel)) ?_
  refine mk_cons (sn_iadd E.1 (by decide +kernel)) ?_
  refine mk_cons (sn_putI (i := 56) E.1 cls_10 (by decide) rfl rfl rfl kf_World_56 (by decide +kernel)) ?_
  refine mk_cons (sn_ret E.1 E.2.1 E.2.2.2.2.2.2.1 (by decide +kernel)) ?_
  exact mk_nil
set_option maxRecDepth 100000 in
set_option maxHeartbeats 4000000 in
theorem rw_World_keepLook : mk_Rows n_World_keepLook := by
  intro p l e R s m args below meth c D cy b sk lim cr Q n0 d E
  show ∀ q ∈ t_World_keepLook, _
  refine mk_cons (sn_aload_n (k := 0) E.1 E.2.2.2.1 (by decide +kernel) rfl) ?_
  refine mk_cons (sn_getR (i := 30) E.1 cls_10 (by decide) rfl kf_World_30 (by decide +kernel)) ?_
  refine mk_cons (sn_callV (i := 79) E.1 E.2.2.2.1 E.2.2.2.2.1 E.2.2.2.2.2.1 (E.2.2.2.2.2.2.2 n_Message_digitSet) ok_Message_digitSet cls_3 rfl km_World_79 kn_Message_digitSet kv_Message_digitSet (by decide +kernel)) ?_
  refine mk_cons (sn_istore_n (k := 2) E.1 (by decide +kernel) rfl (by decide +kernel)) ?_
  refine mk_cons (sn_aload_n (k := 0) E.1 E.2.2.2.1 (by decide +kernel) rfl) ?_
  refine mk_cons (sn_getR (i := 26) E.1 cls_10 (by decide) rfl kf_World_26 (by decide +kernel)) ?_
  refine mk_cons (sn_callV (i := 79) E.1 E.2.2.2.1 E.2.2.2.2.1 E.2.2.2.2.2.1 (E.2.2.2.2.2.2.2 n_Message_digitSet) ok_Message_digitSet cls_3 rfl km_World_79 kn_Message_digitSet kv_Message_digitSet (by decide +kernel)) ?_
  refine mk_cons (sn_iload_n (k := 2) E.1 (by decide +kernel) rfl) ?_
  refine mk_cons (sn_iconst (n := (-1)) E.1 (by decide +kernel) (by decide +kernel)) ?_
  refine mk_cons (sn_ixor E.1 (by decide +kernel)) ?_
  refine mk_cons (sn_iand E.1 (by decide +kernel)) ?_
  refine mk_cons (sn_istore_n (k := 3) E.1 (by decide +kernel) rfl (by decide +kernel)) ?_
  refine mk_cons (sn_aload_n (k := 0) E.1 E.2.2.2.1 (by decide +kernel) rfl) ?_
  refine mk_cons (sn_iload_n (k := 3) E.1 (by decide +kernel) rfl) ?_
  refine mk_cons (sn_callV (i := 83) E.1 E.2.2.2.1 E.2.2.2.2.1 E.2.2.2.2.2.1 (E.2.2.2.2.2.2.2 n_World_showsWithout) ok_World_showsWithout cls_10 rfl km_World_83 kn_World_showsWithout kv_World_showsWithout (by decide +kernel)) ?_
  refine mk_cons (sn_istore E.1 (by decide +kernel) (by decide +kernel)) ?_
  refine mk_cons (sn_aload_n (k := 0) E.1 E.2.2.2.1 (by decide +kernel) rfl) ?_
  refine mk_cons (sn_getR (i := 43) E.1 cls_10 (by decide) rfl kf_World_43 (by decide +kernel)) ?_
  refine mk_cons (sn_aload_n (k := 0) E.1 E.2.2.2.1 (by decide +kernel) rfl) ?_
  refine mk_cons (sn_getI (i := 59) (c0 := 0) E.1 cls_10 (by decide) rfl (by decide) kf_World_59 (by decide +kernel)) ?_
  refine mk_cons (sn_iload_n (k := 1) E.1 (by decide +kernel) rfl) ?_
  refine mk_cons (sn_iast E.1 (by decide +kernel)) ?_
  refine mk_cons (sn_aload_n (k := 0) E.1 E.2.2.2.1 (by decide +kernel) rfl) ?_
  refine mk_cons (sn_getR (i := 46) E.1 cls_10 (by decide) rfl kf_World_46 (by decide +kernel)) ?_
  refine mk_cons (sn_aload_n (k := 0) E.1 E.2.2.2.1 (by decide +kernel) rfl) ?_
  refine mk_cons (sn_getI (i := 59) (c0 := 0) E.1 cls_10 (by decide) rfl (by decide) kf_World_59 (by decide +kernel)) ?_
  refine mk_cons (sn_iload E.1 (by decide +kernel)) ?_
  refine mk_cons (sn_ifeq (off := 7) E.1 (by decide +kernel) (by decide +kernel)) ?_
  refine mk_cons (sn_iload_n (k := 3) E.1 (by decide +kernel) rfl) ?_
  refine mk_cons (sn_goto (off := 6) E.1 (by decide +kernel) (by decide +kernel)) ?_
  refine mk_cons (sn_sipush (n := 1023) E.1 (by decide +kernel) (by decide +kernel)) ?_
  refine mk_cons (sn_iast E.1 (by decide +kernel)) ?_
  refine mk_cons (sn_aload_n (k := 0) E.1 E.2.2.2.1 (by decide +kernel) rfl) ?_
  refine mk_cons (sn_getR (i := 49) E.1 cls_10 (by decide) rfl kf_World_49 (by decide +kernel)) ?_
  refine mk_cons (sn_aload_n (k := 0) E.1 E.2.2.2.1 (by decide +kernel) rfl) ?_
  refine mk_cons (sn_getI (i := 59) (c0 := 0) E.1 cls_10 (by decide) rfl (by decide) kf_World_59 (by decide +kernel)) ?_
  refine mk_cons (sn_iload E.1 (by decide +kernel)) ?_
  refine mk_cons (sn_ifeq (off := 7) E.1 (by decide +kernel) (by decide +kernel)) ?_
  refine mk_cons (sn_iload_n (k := 2) E.1 (by decide +kernel) rfl) ?_
  refine mk_cons (sn_goto (off := 6) E.1 (by decide +kernel) (by decide +kernel)) ?_
  refine mk_cons (sn_sipush (n := 1023) E.1 (by decide +kernel) (by decide +kernel)) ?_
  refine mk_cons (sn_iast E.1 (by decide +kernel)) ?_
  refine mk_cons (sn_aload_n (k := 0) E.1 E.2.2.2.1 (by decide +kernel) rfl) ?_
  refine mk_cons (sn_dup E.1 (by decide +kernel)) ?_
  refine mk_cons (sn_getI (i := 59) (c0 := 0) E.1 cls_10 (by decide) rfl (by decide) kf_World_59 (by decide +kernel)) ?_
  refine mk_cons (sn_iconst (n := 1) E.1 (by decide +kernel) (by decide +kernel)) ?_
  refine mk_cons (sn_iadd E.1 (by decide +kernel)) ?_
  refine mk_cons (sn_putI (i := 59) E.1 cls_10 (by decide) rfl rfl rfl kf_World_59 (by decide +kernel)) ?_
  refine mk_cons (sn_ret E.1 E.2.1 E.2.2.2.2.2.2.1 (by decide +kernel)) ?_
  exact mk_nil
set_option maxRecDepth 100000 in
set_option maxHeartbeats 4000000 in
theorem rw_World_showsWithout : mk_Rows n_World_showsWithout := by
  intro p l e R s m args below meth c D cy b sk lim cr Q n0 d E
  show ∀ q ∈ t_World_showsWithout, _
  refine mk_cons (sn_iconst (n := 0) E.1 (by decide +kernel) (by decide +kernel)) ?_
  refine mk_cons (sn_istore_n (k := 2) E.1 (by decide +kernel) rfl (by decide +kernel)) ?_
  refine mk_cons (sn_iconst (n := 0) E.1 (by decide +kernel) (by decide +kernel)) ?_
  refine mk_cons (sn_istore_n (k := 3) E.1 (by decide +kernel) rfl (by decide +kernel)) ?_
  refine mk_cons (sn_iload_n (k := 3) E.1 (by decide +kernel) rfl) ?_
  refine mk_cons (sn_aload_n (k := 0) E.1 E.2.2.2.1 (by decide +kernel) rfl) ?_
  refine mk_cons (sn_getR (i := 26) E.1 cls_10 (by decide) rfl kf_World_26 (by decide +kernel)) ?_
  refine mk_cons (sn_getI (i := 87) (c0 := 0) E.1 cls_3 (by decide) rfl (by decide) kf_World_87 (by decide +kernel)) ?_
  refine mk_cons (sn_cge (off := 48) E.1 (by decide +kernel) (by decide +kernel)) ?_
  refine mk_cons (sn_aload_n (k := 0) E.1 E.2.2.2.1 (by decide +kernel) rfl) ?_
  refine mk_cons (sn_getR (i := 26) E.1 cls_10 (by decide) rfl kf_World_26 (by decide +kernel)) ?_
  refine mk_cons (sn_getR (i := 90) E.1 cls_3 (by decide) rfl kf_World_90 (by decide +kernel)) ?_
  refine mk_cons (sn_iload_n (k := 3) E.1 (by decide +kernel) rfl) ?_
  refine mk_cons (sn_iald E.1 (by decide +kernel)) ?_
  refine mk_cons (sn_istore E.1 (by decide +kernel) (by decide +kernel)) ?_
  refine mk_cons (sn_iload_n (k := 1) E.1 (by decide +kernel) rfl) ?_
  refine mk_cons (sn_iload E.1 (by decide +kernel)) ?_
  refine mk_cons (sn_ishr E.1 (by decide +kernel)) ?_
  refine mk_cons (sn_iconst (n := 1) E.1 (by decide +kernel) (by decide +kernel)) ?_
  refine mk_cons (sn_iand E.1 (by decide +kernel)) ?_
  refine mk_cons (sn_ifne (off := 22) E.1 (by decide +kernel) (by decide +kernel)) ?_
  refine mk_cons (sn_aload_n (k := 0) E.1 E.2.2.2.1 (by decide +kernel) rfl) ?_
  refine mk_cons (sn_getR (i := 30) E.1 cls_10 (by decide) rfl kf_World_30 (by decide +kernel)) ?_
  refine mk_cons (sn_iload_n (k := 2) E.1 (by decide +kernel) rfl) ?_
  refine mk_cons (sn_iconst (n := (-1)) E.1 (by decide +kernel) (by decide +kernel)) ?_
  refine mk_cons (sn_callV (i := 93) E.1 E.2.2.2.1 E.2.2.2.2.1 E.2.2.2.2.2.1 (E.2.2.2.2.2.2.2 n_Message_digitAt) ok_Message_digitAt cls_3 rfl km_World_93 kn_Message_digitAt kv_Message_digitAt (by decide +kernel)) ?_
  refine mk_cons (sn_iload E.1 (by decide +kernel)) ?_
  refine mk_cons (sn_ceq (off := 5) E.1 (by decide +kernel) (by decide +kernel)) ?_
  refine mk_cons (sn_iconst (n := 0) E.1 (by decide +kernel) (by decide +kernel)) ?_
  refine mk_cons (sn_zret E.1 E.2.1 E.2.2.2.2.2.2.1 (by decide +kernel)) ?_
  refine mk_cons (sn_iinc (n := 1) E.1 (by decide +kernel) (by decide +kernel) (by decide +kernel)) ?_
  refine mk_cons (sn_iinc (n := 1) E.1 (by decide +kernel) (by decide +kernel) (by decide +kernel)) ?_
  refine mk_cons (sn_goto (off := (-53)) E.1 (by decide +kernel) (by decide +kernel)) ?_
  refine mk_cons (sn_iload_n (k := 2) E.1 (by decide +kernel) rfl) ?_
  refine mk_cons (sn_aload_n (k := 0) E.1 E.2.2.2.1 (by decide +kernel) rfl) ?_
  refine mk_cons (sn_getR (i := 30) E.1 cls_10 (by decide) rfl kf_World_30 (by decide +kernel)) ?_
  refine mk_cons (sn_getI (i := 87) (c0 := 0) E.1 cls_3 (by decide) rfl (by decide) kf_World_87 (by decide +kernel)) ?_
  refine mk_cons (sn_cne (off := 7) E.1 (by decide +kernel) (by decide +kernel)) ?_
  refine mk_cons (sn_iconst (n := 1) E.1 (by decide +kernel) (by decide +kernel)) ?_
  refine mk_cons (sn_goto (off := 4) E.1 (by decide +kernel) (by decide +kernel)) ?_
  refine mk_cons (sn_iconst (n := 0) E.1 (by decide +kernel) (by decide +kernel)) ?_
  refine mk_cons (sn_zret E.1 E.2.1 E.2.2.2.2.2.2.1 (by decide +kernel)) ?_
  exact mk_nil
set_option maxRecDepth 100000 in
set_option maxHeartbeats 4000000 in
theorem rw_World_copyFrom : mk_Rows n_World_copyFrom := by
  intro p l e R s m args below meth c D cy b sk lim cr Q n0 d E
  show ∀ q ∈ t_World_copyFrom, _
  refine mk_cons (sn_iconst (n := 0) E.1 (by decide +kernel) (by decide +kernel)) ?_
  refine mk_cons (sn_istore_n (k := 2) E.1 (by decide +kernel) rfl (by decide +kernel)) ?_
  refine mk_cons (sn_iload_n (k := 2) E.1 (by decide +kernel) rfl) ?_
  refine mk_cons (sn_bipush (n := 12) E.1 (by decide +kernel) (by decide +kernel)) ?_
  refine mk_cons (sn_cge (off := 24) E.1 (by decide +kernel) (by decide +kernel)) ?_
  refine mk_cons (sn_aload_n (k := 0) E.1 E.2.2.2.1 (by decide +kernel) rfl) ?_
  refine mk_cons (sn_getR (i := 11) E.1 cls_10 (by decide) rfl kf_World_11 (by decide +kernel)) ?_
  refine mk_cons (sn_iload_n (k := 2) E.1 (by decide +kernel) rfl) ?_
  refine mk_cons (sn_aald E.1 (by decide +kernel)) ?_
  refine mk_cons (sn_aload_n (k := 1) E.1 E.2.2.2.1 (by decide +kernel) rfl) ?_
  refine mk_cons (sn_getR (i := 11) E.1 cls_10 (by decide) rfl kf_World_11 (by decide +kernel)) ?_
  refine mk_cons (sn_iload_n (k := 2) E.1 (by decide +kernel) rfl) ?_
  refine mk_cons (sn_aald E.1 (by decide +kernel)) ?_
  refine mk_cons (sn_callV (i := 97) E.1 E.2.2.2.1 E.2.2.2.2.1 E.2.2.2.2.2.1 (E.2.2.2.2.2.2.2 n_Line_copyFrom) ok_Line_copyFrom cls_2 rfl km_World_97 kn_Line_copyFrom kv_Line_copyFrom (by decide +kernel)) ?_
  refine mk_cons (sn_iinc (n := 1) E.1 (by decide +kernel) (by decide +kernel) (by decide +kernel)) ?_
  refine mk_cons (sn_goto (off := (-24)) E.1 (by decide +kernel) (by decide +kernel)) ?_
  refine mk_cons (sn_iconst (n := 0) E.1 (by decide +kernel) (by decide +kernel)) ?_
  refine mk_cons (sn_istore_n (k := 2) E.1 (by decide +kernel) rfl (by decide +kernel)) ?_
  refine mk_cons (sn_iload_n (k := 2) E.1 (by decide +kernel) rfl) ?_
  refine mk_cons (sn_iconst (n := 4) E.1 (by decide +kernel) (by decide +kernel)) ?_
  refine mk_cons (sn_cge (off := 24) E.1 (by decide +kernel) (by decide +kernel)) ?_
  refine mk_cons (sn_aload_n (k := 0) E.1 E.2.2.2.1 (by decide +kernel) rfl) ?_
  refine mk_cons (sn_getR (i := 19) E.1 cls_10 (by decide) rfl kf_World_19 (by decide +kernel)) ?_
  refine mk_cons (sn_iload_n (k := 2) E.1 (by decide +kernel) rfl) ?_
  refine mk_cons (sn_aald E.1 (by decide +kernel)) ?_
  refine mk_cons (sn_aload_n (k := 1) E.1 E.2.2.2.1 (by decide +kernel) rfl) ?_
  refine mk_cons (sn_getR (i := 19) E.1 cls_10 (by decide) rfl kf_World_19 (by decide +kernel)) ?_
  refine mk_cons (sn_iload_n (k := 2) E.1 (by decide +kernel) rfl) ?_
  refine mk_cons (sn_aald E.1 (by decide +kernel)) ?_
  refine mk_cons (sn_callV (i := 101) E.1 E.2.2.2.1 E.2.2.2.2.1 E.2.2.2.2.2.1 (E.2.2.2.2.2.2.2 n_Rules_copyFrom) ok_Rules_copyFrom cls_7 rfl km_World_101 kn_Rules_copyFrom kv_Rules_copyFrom (by decide +kernel)) ?_
  refine mk_cons (sn_iinc (n := 1) E.1 (by decide +kernel) (by decide +kernel) (by decide +kernel)) ?_
  refine mk_cons (sn_goto (off := (-23)) E.1 (by decide +kernel) (by decide +kernel)) ?_
  refine mk_cons (sn_aload_n (k := 0) E.1 E.2.2.2.1 (by decide +kernel) rfl) ?_
  refine mk_cons (sn_getR (i := 26) E.1 cls_10 (by decide) rfl kf_World_26 (by decide +kernel)) ?_
  refine mk_cons (sn_aload_n (k := 1) E.1 E.2.2.2.1 (by decide +kernel) rfl) ?_
  refine mk_cons (sn_getR (i := 26) E.1 cls_10 (by decide) rfl kf_World_26 (by decide +kernel)) ?_
  refine mk_cons (sn_callV (i := 104) E.1 E.2.2.2.1 E.2.2.2.2.1 E.2.2.2.2.2.1 (E.2.2.2.2.2.2.2 n_Message_copyFrom) ok_Message_copyFrom cls_3 rfl km_World_104 kn_Message_copyFrom kv_Message_copyFrom (by decide +kernel)) ?_
  refine mk_cons (sn_aload_n (k := 0) E.1 E.2.2.2.1 (by decide +kernel) rfl) ?_
  refine mk_cons (sn_getR (i := 30) E.1 cls_10 (by decide) rfl kf_World_30 (by decide +kernel)) ?_
  refine mk_cons (sn_aload_n (k := 1) E.1 E.2.2.2.1 (by decide +kernel) rfl) ?_
  refine mk_cons (sn_getR (i := 30) E.1 cls_10 (by decide) rfl kf_World_30 (by decide +kernel)) ?_
  refine mk_cons (sn_callV (i := 104) E.1 E.2.2.2.1 E.2.2.2.2.1 E.2.2.2.2.2.1 (E.2.2.2.2.2.2.2 n_Message_copyFrom) ok_Message_copyFrom cls_3 rfl km_World_104 kn_Message_copyFrom kv_Message_copyFrom (by decide +kernel)) ?_
  refine mk_cons (sn_aload_n (k := 0) E.1 E.2.2.2.1 (by decide +kernel) rfl) ?_
  refine mk_cons (sn_getR (i := 33) E.1 cls_10 (by decide) rfl kf_World_33 (by decide +kernel)) ?_
  refine mk_cons (sn_aload_n (k := 1) E.1 E.2.2.2.1 (by decide +kernel) rfl) ?_
  refine mk_cons (sn_getR (i := 33) E.1 cls_10 (by decide) rfl kf_World_33 (by decide +kernel)) ?_
  refine mk_cons (sn_callV (i := 104) E.1 E.2.2.2.1 E.2.2.2.2.1 E.2.2.2.2.2.1 (E.2.2.2.2.2.2.2 n_Message_copyFrom) ok_Message_copyFrom cls_3 rfl km_World_104 kn_Message_copyFrom kv_Message_copyFrom (by decide +kernel)) ?_
  refine mk_cons (sn_aload_n (k := 1) E.1 E.2.2.2.1 (by decide +kernel) rfl) ?_
  refine mk_cons (sn_getR (i := 36) E.1 cls_10 (by decide) rfl kf_World_36 (by decide +kernel)) ?_
  refine mk_cons (sn_iconst (n := 0) E.1 (by decide +kernel) (by decide +kernel)) ?_
  refine mk_cons (sn_aload_n (k := 0) E.1 E.2.2.2.1 (by decide +kernel) rfl) ?_
  refine mk_cons (sn_getR (i := 36) E.1 cls_10 (by decide) rfl kf_World_36 (by decide +kernel)) ?_
  refine mk_cons (sn_iconst (n := 0) E.1 (by decide +kernel) (by decide +kernel)) ?_
  refine mk_cons (sn_bipush (n := 120) E.1 (by decide +kernel) (by decide +kernel)) ?_
  refine mk_cons (sn_copy (i := 107) E.1 km_World_107 kn_copy ks_copy kz_System (by decide +kernel)) ?_
  refine mk_cons (sn_aload_n (k := 1) E.1 E.2.2.2.1 (by decide +kernel) rfl) ?_
  refine mk_cons (sn_getR (i := 40) E.1 cls_10 (by decide) rfl kf_World_40 (by decide +kernel)) ?_
  refine mk_cons (sn_iconst (n := 0) E.1 (by decide +kernel) (by decide +kernel)) ?_
  refine mk_cons (sn_aload_n (k := 0) E.1 E.2.2.2.1 (by decide +kernel) rfl) ?_
  refine mk_cons (sn_getR (i := 40) E.1 cls_10 (by decide) rfl kf_World_40 (by decide +kernel)) ?_
  refine mk_cons (sn_iconst (n := 0) E.1 (by decide +kernel) (by decide +kernel)) ?_
  refine mk_cons (sn_sipush (n := 800) E.1 (by decide +kernel) (by decide +kernel)) ?_
  refine mk_cons (sn_copy (i := 107) E.1 km_World_107 kn_copy ks_copy kz_System (by decide +kernel)) ?_
  refine mk_cons (sn_aload_n (k := 1) E.1 E.2.2.2.1 (by decide +kernel) rfl) ?_
  refine mk_cons (sn_getR (i := 43) E.1 cls_10 (by decide) rfl kf_World_43 (by decide +kernel)) ?_
  refine mk_cons (sn_iconst (n := 0) E.1 (by decide +kernel) (by decide +kernel)) ?_
  refine mk_cons (sn_aload_n (k := 0) E.1 E.2.2.2.1 (by decide +kernel) rfl) ?_
  refine mk_cons (sn_getR (i := 43) E.1 cls_10 (by decide) rfl kf_World_43 (by decide +kernel)) ?_
  refine mk_cons (sn_iconst (n := 0) E.1 (by decide +kernel) (by decide +kernel)) ?_
  refine mk_cons (sn_bipush (n := 20) E.1 (by decide +kernel) (by decide +kernel)) ?_
  refine mk_cons (sn_copy (i := 107) E.1 km_World_107 kn_copy ks_copy kz_System (by decide +kernel)) ?_
  refine mk_cons (sn_aload_n (k := 1) E.1 E.2.2.2.1 (by decide +kernel) rfl) ?_
  refine mk_cons (sn_getR (i := 46) E.1 cls_10 (by decide) rfl kf_World_46 (by decide +kernel)) ?_
  refine mk_cons (sn_iconst (n := 0) E.1 (by decide +kernel) (by decide +kernel)) ?_
  refine mk_cons (sn_aload_n (k := 0) E.1 E.2.2.2.1 (by decide +kernel) rfl) ?_
  refine mk_cons (sn_getR (i := 46) E.1 cls_10 (by decide) rfl kf_World_46 (by decide +kernel)) ?_
  refine mk_cons (sn_iconst (n := 0) E.1 (by decide +kernel) (by decide +kernel)) ?_
  refine mk_cons (sn_bipush (n := 20) E.1 (by decide +kernel) (by decide +kernel)) ?_
  refine mk_cons (sn_copy (i := 107) E.1 km_World_107 kn_copy ks_copy kz_System (by decide +kernel)) ?_
  refine mk_cons (sn_aload_n (k := 1) E.1 E.2.2.2.1 (by decide +kernel) rfl) ?_
  refine mk_cons (sn_getR (i := 49) E.1 cls_10 (by decide) rfl kf_World_49 (by decide +kernel)) ?_
  refine mk_cons (sn_iconst (n := 0) E.1 (by decide +kernel) (by decide +kernel)) ?_
  refine mk_cons (sn_aload_n (k := 0) E.1 E.2.2.2.1 (by decide +kernel) rfl) ?_
  refine mk_cons (sn_getR (i := 49) E.1 cls_10 (by decide) rfl kf_World_49 (by decide +kernel)) ?_
  refine mk_cons (sn_iconst (n := 0) E.1 (by decide +kernel) (by decide +kernel)) ?_
  refine mk_cons (sn_bipush (n := 20) E.1 (by decide +kernel) (by decide +kernel)) ?_
  refine mk_cons (sn_copy (i := 107) E.1 km_World_107 kn_copy ks_copy kz_System (by decide +kernel)) ?_
  refine mk_cons (sn_aload_n (k := 0) E.1 E.2.2.2.1 (by decide +kernel) rfl) ?_
  refine mk_cons (sn_aload_n (k := 1) E.1 E.2.2.2.1 (by decide +kernel) rfl) ?_
  refine mk_cons (sn_getI (i := 52) (c0 := 0) E.1 cls_10 (by decide) rfl (by decide) kf_World_52 (by decide +kernel)) ?_
  refine mk_cons (sn_putI (i := 52) E.1 cls_10 (by decide) rfl rfl rfl kf_World_52 (by decide +kernel)) ?_
  refine mk_cons (sn_aload_n (k := 0) E.1 E.2.2.2.1 (by decide +kernel) rfl) ?_
  refine mk_cons (sn_aload_n (k := 1) E.1 E.2.2.2.1 (by decide +kernel) rfl) ?_
  refine mk_cons (sn_getI (i := 56) (c0 := 0) E.1 cls_10 (by decide) rfl (by decide) kf_World_56 (by decide +kernel)) ?_
  refine mk_cons (sn_putI (i := 56) E.1 cls_10 (by decide) rfl rfl rfl kf_World_56 (by decide +kernel)) ?_
  refine mk_cons (sn_aload_n (k := 0) E.1 E.2.2.2.1 (by decide +kernel) rfl) ?_
  refine mk_cons (sn_aload_n (k := 1) E.1 E.2.2.2.1 (by decide +kernel) rfl) ?_
  refine mk_cons (sn_getI (i := 59) (c0 := 0) E.1 cls_10 (by decide) rfl (by decide) kf_World_59 (by decide +kernel)) ?_
  refine mk_cons (sn_putI (i := 59) E.1 cls_10 (by decide) rfl rfl rfl kf_World_59 (by decide +kernel)) ?_
  refine mk_cons (sn_aload_n (k := 0) E.1 E.2.2.2.1 (by decide +kernel) rfl) ?_
  refine mk_cons (sn_aload_n (k := 1) E.1 E.2.2.2.1 (by decide +kernel) rfl) ?_
  refine mk_cons (sn_getI (i := 62) (c0 := 0) E.1 cls_10 (by decide) rfl (by decide) kf_World_62 (by decide +kernel)) ?_
  refine mk_cons (sn_putI (i := 62) E.1 cls_10 (by decide) rfl rfl rfl kf_World_62 (by decide +kernel)) ?_
  refine mk_cons (sn_aload_n (k := 0) E.1 E.2.2.2.1 (by decide +kernel) rfl) ?_
  refine mk_cons (sn_aload_n (k := 1) E.1 E.2.2.2.1 (by decide +kernel) rfl) ?_
  refine mk_cons (sn_getI (i := 65) (c0 := 0) E.1 cls_10 (by decide) rfl (by decide) kf_World_65 (by decide +kernel)) ?_
  refine mk_cons (sn_putI (i := 65) E.1 cls_10 (by decide) rfl rfl rfl kf_World_65 (by decide +kernel)) ?_
  refine mk_cons (sn_aload_n (k := 0) E.1 E.2.2.2.1 (by decide +kernel) rfl) ?_
  refine mk_cons (sn_aload_n (k := 1) E.1 E.2.2.2.1 (by decide +kernel) rfl) ?_
  refine mk_cons (sn_getI (i := 68) (c0 := 0) E.1 cls_10 (by decide) rfl (by decide) kf_World_68 (by decide +kernel)) ?_
  refine mk_cons (sn_putI (i := 68) E.1 cls_10 (by decide) rfl rfl rfl kf_World_68 (by decide +kernel)) ?_
  refine mk_cons (sn_aload_n (k := 0) E.1 E.2.2.2.1 (by decide +kernel) rfl) ?_
  refine mk_cons (sn_aload_n (k := 1) E.1 E.2.2.2.1 (by decide +kernel) rfl) ?_
  refine mk_cons (sn_getJ (i := 71) E.1 cls_10 (by decide) rfl kf_World_71 (by decide +kernel)) ?_
  refine mk_cons (sn_putJ (i := 71) E.1 cls_10 (by decide) rfl rfl rfl kf_World_71 (by decide +kernel)) ?_
  refine mk_cons (sn_ret E.1 E.2.1 E.2.2.2.2.2.2.1 (by decide +kernel)) ?_
  exact mk_nil
