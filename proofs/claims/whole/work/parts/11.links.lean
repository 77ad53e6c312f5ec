/-! links, by program (wip/tools/gen_rows.py) -/
set_option maxRecDepth 100000 in
theorem km_Clerk_3 : Cond.methodLink "LostSevens$Clerk" 3 objectInit ∈ mk_wt := mk_wt_in 335 rfl (by decide +kernel)
set_option maxRecDepth 100000 in
theorem kn_oini : Cond.instanceMethod objectInit ∈ mk_wt := mk_wt_in 28 rfl (by decide +kernel)
set_option maxRecDepth 100000 in
theorem kd_oini : Cond.code objectInit ⟨#[0xb1]⟩ 1 none ∈ mk_wt := mk_wt_in 29 rfl (by decide +kernel)
set_option maxRecDepth 100000 in
theorem kk_Clerk_9 : Cond.classLink "LostSevens$Clerk" 9 RX3 ∈ mk_wt := mk_wt_in 336 rfl (by decide +kernel)
set_option maxRecDepth 100000 in
theorem ki_Message : Cond.instantiable RX3 2 ∈ mk_wt := mk_wt_in 41 rfl (by decide +kernel)
set_option maxRecDepth 100000 in
theorem kz_Message : Cond.initialized RX3 ∈ mk_wt := mk_wt_in 3 rfl (by decide +kernel)
set_option maxRecDepth 100000 in
theorem km_Clerk_11 : Cond.methodLink "LostSevens$Clerk" 11 (mk_nm n_Message_init) ∈ mk_wt := mk_wt_in 337 rfl (by decide +kernel)
set_option maxRecDepth 100000 in
theorem kn_Message_init : Cond.instanceMethod (mk_nm n_Message_init) ∈ mk_wt := mk_wt_in 43 rfl (by decide +kernel)
set_option maxRecDepth 100000 in
theorem kf_Clerk_12 : Cond.fieldLink "LostSevens$Clerk" 12 RX0 (TX0 0).2.1 (TX0 0).2.2.1 ∈ mk_wt := mk_wt_in 338 rfl (by decide +kernel)
set_option maxRecDepth 100000 in
theorem ka_int : Cond.arrayClass .int ∈ mk_wt := mk_wt_in 63 rfl (by decide +kernel)
set_option maxRecDepth 100000 in
theorem kf_Clerk_18 : Cond.fieldLink "LostSevens$Clerk" 18 RX0 (TX0 1).2.1 (TX0 1).2.2.1 ∈ mk_wt := mk_wt_in 342 rfl (by decide +kernel)
set_option maxRecDepth 100000 in
theorem kf_Clerk_22 : Cond.fieldLink "LostSevens$Clerk" 22 RX0 (TX0 2).2.1 (TX0 2).2.2.1 ∈ mk_wt := mk_wt_in 343 rfl (by decide +kernel)
set_option maxRecDepth 100000 in
theorem kf_Clerk_25 : Cond.fieldLink "LostSevens$Clerk" 25 RX10 (TX10 1).2.1 (TX10 1).2.2.1 ∈ mk_wt := mk_wt_in 148 rfl (by decide +kernel)
set_option maxRecDepth 100000 in
theorem kf_Clerk_31 : Cond.fieldLink "LostSevens$Clerk" 31 RX2 (TX2 2).2.1 (TX2 2).2.2.1 ∈ mk_wt := mk_wt_in 74 rfl (by decide +kernel)
set_option maxRecDepth 100000 in
theorem kf_Clerk_37 : Cond.fieldLink "LostSevens$Clerk" 37 RX10 (TX10 13).2.1 (TX10 13).2.2.1 ∈ mk_wt := mk_wt_in 183 rfl (by decide +kernel)
set_option maxRecDepth 100000 in
theorem km_Clerk_40 : Cond.methodLink "LostSevens$Clerk" 40 (mk_nm n_Clerk_translate) ∈ mk_wt := mk_wt_in 844 rfl (by decide +kernel)
set_option maxRecDepth 100000 in
theorem kn_Clerk_translate : Cond.instanceMethod (mk_nm n_Clerk_translate) ∈ mk_wt := mk_wt_in 845 rfl (by decide +kernel)
set_option maxRecDepth 100000 in
theorem kv_Clerk_translate : Cond.selects (mk_nm n_Clerk_translate).cls (mk_nm n_Clerk_translate) (mk_nm n_Clerk_translate) ∈ mk_wt := mk_wt_in 846 rfl (by decide +kernel)
set_option maxRecDepth 100000 in
theorem km_Clerk_44 : Cond.methodLink "LostSevens$Clerk" 44 (mk_nm n_Line_lostDigits) ∈ mk_wt := mk_wt_in 869 rfl (by decide +kernel)
set_option maxRecDepth 100000 in
theorem kn_Line_lostDigits : Cond.instanceMethod (mk_nm n_Line_lostDigits) ∈ mk_wt := mk_wt_in 870 rfl (by decide +kernel)
set_option maxRecDepth 100000 in
theorem kv_Line_lostDigits : Cond.selects (mk_nm n_Line_lostDigits).cls (mk_nm n_Line_lostDigits) (mk_nm n_Line_lostDigits) ∈ mk_wt := mk_wt_in 871 rfl (by decide +kernel)
set_option maxRecDepth 100000 in
theorem km_Clerk_48 : Cond.methodLink "LostSevens$Clerk" 48 (mk_nm n_Message_keepFrom) ∈ mk_wt := mk_wt_in 873 rfl (by decide +kernel)
set_option maxRecDepth 100000 in
theorem kn_Message_keepFrom : Cond.instanceMethod (mk_nm n_Message_keepFrom) ∈ mk_wt := mk_wt_in 874 rfl (by decide +kernel)
set_option maxRecDepth 100000 in
theorem kv_Message_keepFrom : Cond.selects (mk_nm n_Message_keepFrom).cls (mk_nm n_Message_keepFrom) (mk_nm n_Message_keepFrom) ∈ mk_wt := mk_wt_in 875 rfl (by decide +kernel)
set_option maxRecDepth 100000 in
theorem km_Clerk_52 : Cond.methodLink "LostSevens$Clerk" 52 (mk_nm n_Message_clear) ∈ mk_wt := mk_wt_in 848 rfl (by decide +kernel)
set_option maxRecDepth 100000 in
theorem kn_Message_clear : Cond.instanceMethod (mk_nm n_Message_clear) ∈ mk_wt := mk_wt_in 538 rfl (by decide +kernel)
set_option maxRecDepth 100000 in
theorem kv_Message_clear : Cond.selects (mk_nm n_Message_clear).cls (mk_nm n_Message_clear) (mk_nm n_Message_clear) ∈ mk_wt := mk_wt_in 539 rfl (by decide +kernel)
set_option maxRecDepth 100000 in
theorem km_Clerk_55 : Cond.methodLink "LostSevens$Clerk" 55 (mk_nm n_Clerk_begin) ∈ mk_wt := mk_wt_in 849 rfl (by decide +kernel)
set_option maxRecDepth 100000 in
theorem kn_Clerk_begin : Cond.instanceMethod (mk_nm n_Clerk_begin) ∈ mk_wt := mk_wt_in 850 rfl (by decide +kernel)
set_option maxRecDepth 100000 in
theorem kv_Clerk_begin : Cond.selects (mk_nm n_Clerk_begin).cls (mk_nm n_Clerk_begin) (mk_nm n_Clerk_begin) ∈ mk_wt := mk_wt_in 851 rfl (by decide +kernel)
set_option maxRecDepth 100000 in
theorem kf_Clerk_59 : Cond.fieldLink "LostSevens$Clerk" 59 RX3 (TX3 1).2.1 (TX3 1).2.2.1 ∈ mk_wt := mk_wt_in 53 rfl (by decide +kernel)
set_option maxRecDepth 100000 in
theorem km_Clerk_62 : Cond.methodLink "LostSevens$Clerk" 62 (mk_nm n_Clerk_ruleAt) ∈ mk_wt := mk_wt_in 853 rfl (by decide +kernel)
set_option maxRecDepth 100000 in
theorem kn_Clerk_ruleAt : Cond.instanceMethod (mk_nm n_Clerk_ruleAt) ∈ mk_wt := mk_wt_in 854 rfl (by decide +kernel)
set_option maxRecDepth 100000 in
theorem kv_Clerk_ruleAt : Cond.selects (mk_nm n_Clerk_ruleAt).cls (mk_nm n_Clerk_ruleAt) (mk_nm n_Clerk_ruleAt) ∈ mk_wt := mk_wt_in 855 rfl (by decide +kernel)
set_option maxRecDepth 100000 in
theorem kf_Clerk_66 : Cond.fieldLink "LostSevens$Clerk" 66 RX3 (TX3 0).2.1 (TX3 0).2.2.1 ∈ mk_wt := mk_wt_in 47 rfl (by decide +kernel)
set_option maxRecDepth 100000 in
theorem km_Clerk_69 : Cond.methodLink "LostSevens$Clerk" 69 (mk_nm n_Message_append) ∈ mk_wt := mk_wt_in 868 rfl (by decide +kernel)
set_option maxRecDepth 100000 in
theorem kn_Message_append : Cond.instanceMethod (mk_nm n_Message_append) ∈ mk_wt := mk_wt_in 530 rfl (by decide +kernel)
set_option maxRecDepth 100000 in
theorem kv_Message_append : Cond.selects (mk_nm n_Message_append).cls (mk_nm n_Message_append) (mk_nm n_Message_append) ∈ mk_wt := mk_wt_in 531 rfl (by decide +kernel)
set_option maxRecDepth 100000 in
theorem kf_Clerk_73 : Cond.fieldLink "LostSevens$Clerk" 73 RX7 (TX7 1).2.1 (TX7 1).2.2.1 ∈ mk_wt := mk_wt_in 111 rfl (by decide +kernel)
set_option maxRecDepth 100000 in
theorem kf_Clerk_78 : Cond.fieldLink "LostSevens$Clerk" 78 RX7 (TX7 2).2.1 (TX7 2).2.2.1 ∈ mk_wt := mk_wt_in 114 rfl (by decide +kernel)
set_option maxRecDepth 100000 in
theorem km_Clerk_81 : Cond.methodLink "LostSevens$Clerk" 81 (mk_nm n_Message_digitAt) ∈ mk_wt := mk_wt_in 857 rfl (by decide +kernel)
set_option maxRecDepth 100000 in
theorem kn_Message_digitAt : Cond.instanceMethod (mk_nm n_Message_digitAt) ∈ mk_wt := mk_wt_in 549 rfl (by decide +kernel)
set_option maxRecDepth 100000 in
theorem kv_Message_digitAt : Cond.selects (mk_nm n_Message_digitAt).cls (mk_nm n_Message_digitAt) (mk_nm n_Message_digitAt) ∈ mk_wt := mk_wt_in 550 rfl (by decide +kernel)
set_option maxRecDepth 100000 in
theorem kf_Clerk_85 : Cond.fieldLink "LostSevens$Clerk" 85 RX7 (TX7 6).2.1 (TX7 6).2.2.1 ∈ mk_wt := mk_wt_in 123 rfl (by decide +kernel)
set_option maxRecDepth 100000 in
theorem kf_Clerk_88 : Cond.fieldLink "LostSevens$Clerk" 88 RX7 (TX7 0).2.1 (TX7 0).2.2.1 ∈ mk_wt := mk_wt_in 109 rfl (by decide +kernel)
set_option maxRecDepth 100000 in
theorem km_Clerk_91 : Cond.methodLink "LostSevens$Clerk" 91 (mk_nm n_Clerk_holds) ∈ mk_wt := mk_wt_in 858 rfl (by decide +kernel)
set_option maxRecDepth 100000 in
theorem kn_Clerk_holds : Cond.instanceMethod (mk_nm n_Clerk_holds) ∈ mk_wt := mk_wt_in 860 rfl (by decide +kernel)
set_option maxRecDepth 100000 in
theorem kv_Clerk_holds : Cond.selects (mk_nm n_Clerk_holds).cls (mk_nm n_Clerk_holds) (mk_nm n_Clerk_holds) ∈ mk_wt := mk_wt_sel 21 rfl (by decide +kernel)
set_option maxRecDepth 100000 in
theorem kf_Clerk_95 : Cond.fieldLink "LostSevens$Clerk" 95 RX7 (TX7 3).2.1 (TX7 3).2.2.1 ∈ mk_wt := mk_wt_in 117 rfl (by decide +kernel)
set_option maxRecDepth 100000 in
theorem kf_Clerk_98 : Cond.fieldLink "LostSevens$Clerk" 98 RX7 (TX7 4).2.1 (TX7 4).2.2.1 ∈ mk_wt := mk_wt_in 119 rfl (by decide +kernel)
set_option maxRecDepth 100000 in
theorem kf_Clerk_101 : Cond.fieldLink "LostSevens$Clerk" 101 RX7 (TX7 5).2.1 (TX7 5).2.2.1 ∈ mk_wt := mk_wt_in 121 rfl (by decide +kernel)
set_option maxRecDepth 100000 in
theorem km_Clerk_104 : Cond.methodLink "LostSevens$Clerk" 104 (mk_nm n_Clerk_isOperand) ∈ mk_wt := mk_wt_in 862 rfl (by decide +kernel)
set_option maxRecDepth 100000 in
theorem ks_Clerk_isOperand : Cond.static (mk_nm n_Clerk_isOperand) ∈ mk_wt := mk_wt_in 863 rfl (by decide +kernel)
set_option maxRecDepth 100000 in
theorem km_Clerk_108 : Cond.methodLink "LostSevens$Clerk" 108 (mk_nm n_Clerk_join) ∈ mk_wt := mk_wt_in 865 rfl (by decide +kernel)
set_option maxRecDepth 100000 in
theorem ks_Clerk_join : Cond.static (mk_nm n_Clerk_join) ∈ mk_wt := mk_wt_in 866 rfl (by decide +kernel)
set_option maxRecDepth 100000 in
theorem km_Coder_3 : Cond.methodLink "LostSevens$Coder" 3 objectInit ∈ mk_wt := mk_wt_in 391 rfl (by decide +kernel)
set_option maxRecDepth 100000 in
theorem kk_Coder_9 : Cond.classLink "LostSevens$Coder" 9 RX3 ∈ mk_wt := mk_wt_in 392 rfl (by decide +kernel)
set_option maxRecDepth 100000 in
theorem km_Coder_11 : Cond.methodLink "LostSevens$Coder" 11 (mk_nm n_Message_init) ∈ mk_wt := mk_wt_in 393 rfl (by decide +kernel)
set_option maxRecDepth 100000 in
theorem kf_Coder_12 : Cond.fieldLink "LostSevens$Coder" 12 RX1 (TX1 1).2.1 (TX1 1).2.2.1 ∈ mk_wt := mk_wt_in 395 rfl (by decide +kernel)
set_option maxRecDepth 100000 in
theorem ka_long : Cond.arrayClass .long ∈ mk_wt := mk_wt_in 265 rfl (by decide +kernel)
set_option maxRecDepth 100000 in
theorem kf_Coder_18 : Cond.fieldLink "LostSevens$Coder" 18 RX1 (TX1 2).2.1 (TX1 2).2.2.1 ∈ mk_wt := mk_wt_in 396 rfl (by decide +kernel)
set_option maxRecDepth 100000 in
theorem kf_Coder_22 : Cond.fieldLink "LostSevens$Coder" 22 RX1 (TX1 3).2.1 (TX1 3).2.2.1 ∈ mk_wt := mk_wt_in 397 rfl (by decide +kernel)
set_option maxRecDepth 100000 in
theorem kf_Coder_25 : Cond.fieldLink "LostSevens$Coder" 25 RX1 (TX1 4).2.1 (TX1 4).2.2.1 ∈ mk_wt := mk_wt_in 398 rfl (by decide +kernel)
set_option maxRecDepth 100000 in
theorem kf_Coder_29 : Cond.fieldLink "LostSevens$Coder" 29 RX1 (TX1 0).2.1 (TX1 0).2.2.1 ∈ mk_wt := mk_wt_in 394 rfl (by decide +kernel)
set_option maxRecDepth 100000 in
theorem km_Coder_33 : Cond.methodLink "LostSevens$Coder" 33 (mk_nm n_Coder_takes) ∈ mk_wt := mk_wt_in 980 rfl (by decide +kernel)
set_option maxRecDepth 100000 in
theorem kn_Coder_takes : Cond.instanceMethod (mk_nm n_Coder_takes) ∈ mk_wt := mk_wt_in 982 rfl (by decide +kernel)
set_option maxRecDepth 100000 in
theorem kv_Coder_takes : Cond.selects (mk_nm n_Coder_takes).cls (mk_nm n_Coder_takes) (mk_nm n_Coder_takes) ∈ mk_wt := mk_wt_sel 28 rfl (by decide +kernel)
set_option maxRecDepth 100000 in
theorem km_Coder_37 : Cond.methodLink "LostSevens$Coder" 37 (mk_nm n_Coder_spell) ∈ mk_wt := mk_wt_in 984 rfl (by decide +kernel)
set_option maxRecDepth 100000 in
theorem kn_Coder_spell : Cond.instanceMethod (mk_nm n_Coder_spell) ∈ mk_wt := mk_wt_in 986 rfl (by decide +kernel)
set_option maxRecDepth 100000 in
theorem kv_Coder_spell : Cond.selects (mk_nm n_Coder_spell).cls (mk_nm n_Coder_spell) (mk_nm n_Coder_spell) ∈ mk_wt := mk_wt_sel 29 rfl (by decide +kernel)
set_option maxRecDepth 100000 in
theorem km_Coder_41 : Cond.methodLink "LostSevens$Coder" 41 (mk_nm n_Coder_whatComes) ∈ mk_wt := mk_wt_in 988 rfl (by decide +kernel)
set_option maxRecDepth 100000 in
theorem kn_Coder_whatComes : Cond.instanceMethod (mk_nm n_Coder_whatComes) ∈ mk_wt := mk_wt_in 990 rfl (by decide +kernel)
set_option maxRecDepth 100000 in
theorem kv_Coder_whatComes : Cond.selects (mk_nm n_Coder_whatComes).cls (mk_nm n_Coder_whatComes) (mk_nm n_Coder_whatComes) ∈ mk_wt := mk_wt_sel 30 rfl (by decide +kernel)
set_option maxRecDepth 100000 in
theorem km_Coder_45 : Cond.methodLink "LostSevens$Coder" 45 (mk_nm n_Coder_isNew) ∈ mk_wt := mk_wt_in 995 rfl (by decide +kernel)
set_option maxRecDepth 100000 in
theorem kn_Coder_isNew : Cond.instanceMethod (mk_nm n_Coder_isNew) ∈ mk_wt := mk_wt_in 997 rfl (by decide +kernel)
set_option maxRecDepth 100000 in
theorem kv_Coder_isNew : Cond.selects (mk_nm n_Coder_isNew).cls (mk_nm n_Coder_isNew) (mk_nm n_Coder_isNew) ∈ mk_wt := mk_wt_sel 31 rfl (by decide +kernel)
set_option maxRecDepth 100000 in
theorem kf_Coder_49 : Cond.fieldLink "LostSevens$Coder" 49 RX3 (TX3 1).2.1 (TX3 1).2.2.1 ∈ mk_wt := mk_wt_in 54 rfl (by decide +kernel)
set_option maxRecDepth 100000 in
theorem kf_Coder_53 : Cond.fieldLink "LostSevens$Coder" 53 RX3 (TX3 0).2.1 (TX3 0).2.2.1 ∈ mk_wt := mk_wt_in 48 rfl (by decide +kernel)
set_option maxRecDepth 100000 in
theorem km_Coder_56 : Cond.methodLink "LostSevens$Coder" 56 (mk_nm n_Line_lostDigits) ∈ mk_wt := mk_wt_in 992 rfl (by decide +kernel)
set_option maxRecDepth 100000 in
theorem kf_Coder_62 : Cond.fieldLink "LostSevens$Coder" 62 RX10 (TX10 1).2.1 (TX10 1).2.2.1 ∈ mk_wt := mk_wt_in 151 rfl (by decide +kernel)
set_option maxRecDepth 100000 in
theorem kf_Coder_68 : Cond.fieldLink "LostSevens$Coder" 68 RX2 (TX2 2).2.1 (TX2 2).2.2.1 ∈ mk_wt := mk_wt_in 78 rfl (by decide +kernel)
set_option maxRecDepth 100000 in
theorem kf_Coder_71 : Cond.fieldLink "LostSevens$Coder" 71 RX10 (TX10 13).2.1 (TX10 13).2.2.1 ∈ mk_wt := mk_wt_in 186 rfl (by decide +kernel)
set_option maxRecDepth 100000 in
theorem km_Coder_74 : Cond.methodLink "LostSevens$Coder" 74 (mk_nm n_Clerk_translate) ∈ mk_wt := mk_wt_in 993 rfl (by decide +kernel)
set_option maxRecDepth 100000 in
theorem kf_Coder_80 : Cond.fieldLink "LostSevens$Coder" 80 RX0 (TX0 0).2.1 (TX0 0).2.2.1 ∈ mk_wt := mk_wt_in 340 rfl (by decide +kernel)
set_option maxRecDepth 100000 in
theorem kl_Coder_83 : Cond.constantLong "LostSevens$Coder" 83 (10) ∈ mk_wt := mk_wt_in 994 rfl (by decide +kernel)
set_option maxRecDepth 100000 in
theorem km_Line_3 : Cond.methodLink "LostSevens$Line" 3 objectInit ∈ mk_wt := mk_wt_in 68 rfl (by decide +kernel)
set_option maxRecDepth 100000 in
theorem kf_Line_9 : Cond.fieldLink "LostSevens$Line" 9 RX2 (TX2 0).2.1 (TX2 0).2.2.1 ∈ mk_wt := mk_wt_in 69 rfl (by decide +kernel)
set_option maxRecDepth 100000 in
theorem kf_Line_15 : Cond.fieldLink "LostSevens$Line" 15 RX2 (TX2 1).2.1 (TX2 1).2.2.1 ∈ mk_wt := mk_wt_in 71 rfl (by decide +kernel)
set_option maxRecDepth 100000 in
theorem kf_Line_18 : Cond.fieldLink "LostSevens$Line" 18 RX2 (TX2 2).2.1 (TX2 2).2.2.1 ∈ mk_wt := mk_wt_in 73 rfl (by decide +kernel)
set_option maxRecDepth 100000 in
theorem kf_Line_21 : Cond.fieldLink "LostSevens$Line" 21 RX2 (TX2 3).2.1 (TX2 3).2.2.1 ∈ mk_wt := mk_wt_in 79 rfl (by decide +kernel)
set_option maxRecDepth 100000 in
theorem kf_Line_24 : Cond.fieldLink "LostSevens$Line" 24 RX2 (TX2 4).2.1 (TX2 4).2.2.1 ∈ mk_wt := mk_wt_in 81 rfl (by decide +kernel)
set_option maxRecDepth 100000 in
theorem kf_Line_27 : Cond.fieldLink "LostSevens$Line" 27 RX2 (TX2 5).2.1 (TX2 5).2.2.1 ∈ mk_wt := mk_wt_in 83 rfl (by decide +kernel)
set_option maxRecDepth 100000 in
theorem kf_Line_30 : Cond.fieldLink "LostSevens$Line" 30 RX2 (TX2 6).2.1 (TX2 6).2.2.1 ∈ mk_wt := mk_wt_in 85 rfl (by decide +kernel)
set_option maxRecDepth 100000 in
theorem km_Message_3 : Cond.methodLink "LostSevens$Message" 3 objectInit ∈ mk_wt := mk_wt_in 45 rfl (by decide +kernel)
set_option maxRecDepth 100000 in
theorem kf_Message_9 : Cond.fieldLink "LostSevens$Message" 9 RX3 (TX3 0).2.1 (TX3 0).2.2.1 ∈ mk_wt := mk_wt_in 46 rfl (by decide +kernel)
set_option maxRecDepth 100000 in
theorem kf_Message_15 : Cond.fieldLink "LostSevens$Message" 15 RX3 (TX3 1).2.1 (TX3 1).2.2.1 ∈ mk_wt := mk_wt_in 52 rfl (by decide +kernel)
set_option maxRecDepth 100000 in
theorem km_Message_19 : Cond.methodLink "LostSevens$Message" 19 arraycopyName ∈ mk_wt := mk_wt_in 830 rfl (by decide +kernel)
set_option maxRecDepth 100000 in
theorem kn_copy : Cond.native arraycopyName ∈ mk_wt := mk_wt_in 832 rfl (by decide +kernel)
set_option maxRecDepth 100000 in
theorem ks_copy : Cond.static arraycopyName ∈ mk_wt := mk_wt_in 831 rfl (by decide +kernel)
set_option maxRecDepth 100000 in
theorem kz_System : Cond.initialized "java/lang/System" ∈ mk_wt := mk_wt_in 20 rfl (by decide +kernel)
set_option maxRecDepth 100000 in
theorem km_Message_25 : Cond.methodLink "LostSevens$Message" 25 Lib.Math.max.name ∈ mk_wt := mk_wt_in 887 rfl (by decide +kernel)
set_option maxRecDepth 100000 in
theorem ks_mmax : Cond.static Lib.Math.max.name ∈ mk_wt := mk_wt_in 678 rfl (by decide +kernel)
set_option maxRecDepth 100000 in
theorem kz_Math : Cond.initialized "java/lang/Math" ∈ mk_wt := mk_wt_in 18 rfl (by decide +kernel)
set_option maxRecDepth 100000 in
theorem kd_mmax : Cond.code Lib.Math.max.name Lib.Math.max.code 2 (some .int) ∈ mk_wt := mk_wt_in 679 rfl (by decide +kernel)
set_option maxRecDepth 100000 in
theorem kl_Message_31 : Cond.constantLong "LostSevens$Message" 31 (10) ∈ mk_wt := mk_wt_in 888 rfl (by decide +kernel)
set_option maxRecDepth 100000 in
theorem km_Message_33 : Cond.methodLink "LostSevens$Message" 33 (mk_nm n_Message_append) ∈ mk_wt := mk_wt_in 877 rfl (by decide +kernel)
set_option maxRecDepth 100000 in
theorem km_Parser_3 : Cond.methodLink "LostSevens$Parser" 3 objectInit ∈ mk_wt := mk_wt_in 297 rfl (by decide +kernel)
set_option maxRecDepth 100000 in
theorem kf_Parser_9 : Cond.fieldLink "LostSevens$Parser" 9 RX4 (TX4 1).2.1 (TX4 1).2.2.1 ∈ mk_wt := mk_wt_in 301 rfl (by decide +kernel)
set_option maxRecDepth 100000 in
theorem kf_Parser_15 : Cond.fieldLink "LostSevens$Parser" 15 RX4 (TX4 2).2.1 (TX4 2).2.2.1 ∈ mk_wt := mk_wt_in 302 rfl (by decide +kernel)
set_option maxRecDepth 100000 in
theorem kf_Parser_19 : Cond.fieldLink "LostSevens$Parser" 19 RX4 (TX4 3).2.1 (TX4 3).2.2.1 ∈ mk_wt := mk_wt_in 303 rfl (by decide +kernel)
set_option maxRecDepth 100000 in
theorem kf_Parser_22 : Cond.fieldLink "LostSevens$Parser" 22 RX4 (TX4 4).2.1 (TX4 4).2.2.1 ∈ mk_wt := mk_wt_in 304 rfl (by decide +kernel)
set_option maxRecDepth 100000 in
theorem kf_Parser_25 : Cond.fieldLink "LostSevens$Parser" 25 RX4 (TX4 5).2.1 (TX4 5).2.2.1 ∈ mk_wt := mk_wt_in 305 rfl (by decide +kernel)
set_option maxRecDepth 100000 in
theorem kk_Parser_29 : Cond.classLink "LostSevens$Parser" 29 RX7 ∈ mk_wt := mk_wt_in 298 rfl (by decide +kernel)
set_option maxRecDepth 100000 in
theorem ki_Rules : Cond.instantiable RX7 8 ∈ mk_wt := mk_wt_in 103 rfl (by decide +kernel)
set_option maxRecDepth 100000 in
theorem kz_Rules : Cond.initialized RX7 ∈ mk_wt := mk_wt_in 5 rfl (by decide +kernel)
set_option maxRecDepth 100000 in
theorem km_Parser_31 : Cond.methodLink "LostSevens$Parser" 31 (mk_nm n_Rules_init) ∈ mk_wt := mk_wt_in 299 rfl (by decide +kernel)
set_option maxRecDepth 100000 in
theorem kn_Rules_init : Cond.instanceMethod (mk_nm n_Rules_init) ∈ mk_wt := mk_wt_in 105 rfl (by decide +kernel)
set_option maxRecDepth 100000 in
theorem kf_Parser_32 : Cond.fieldLink "LostSevens$Parser" 32 RX4 (TX4 6).2.1 (TX4 6).2.2.1 ∈ mk_wt := mk_wt_in 306 rfl (by decide +kernel)
set_option maxRecDepth 100000 in
theorem kf_Parser_36 : Cond.fieldLink "LostSevens$Parser" 36 RX4 (TX4 7).2.1 (TX4 7).2.2.1 ∈ mk_wt := mk_wt_in 307 rfl (by decide +kernel)
set_option maxRecDepth 100000 in
theorem kf_Parser_39 : Cond.fieldLink "LostSevens$Parser" 39 RX4 (TX4 8).2.1 (TX4 8).2.2.1 ∈ mk_wt := mk_wt_in 309 rfl (by decide +kernel)
set_option maxRecDepth 100000 in
theorem kf_Parser_42 : Cond.fieldLink "LostSevens$Parser" 42 RX4 (TX4 0).2.1 (TX4 0).2.2.1 ∈ mk_wt := mk_wt_in 300 rfl (by decide +kernel)
set_option maxRecDepth 100000 in
theorem km_Parser_46 : Cond.methodLink "LostSevens$Parser" 46 (mk_nm n_Rules_clear) ∈ mk_wt := mk_wt_in 576 rfl (by decide +kernel)
set_option maxRecDepth 100000 in
theorem kn_Rules_clear : Cond.instanceMethod (mk_nm n_Rules_clear) ∈ mk_wt := mk_wt_in 577 rfl (by decide +kernel)
set_option maxRecDepth 100000 in
theorem kv_Rules_clear : Cond.selects (mk_nm n_Rules_clear).cls (mk_nm n_Rules_clear) (mk_nm n_Rules_clear) ∈ mk_wt := mk_wt_in 578 rfl (by decide +kernel)
set_option maxRecDepth 100000 in
theorem km_Parser_49 : Cond.methodLink "LostSevens$Parser" 49 (mk_nm n_Tape_rewind) ∈ mk_wt := mk_wt_in 580 rfl (by decide +kernel)
set_option maxRecDepth 100000 in
theorem kn_Tape_rewind : Cond.instanceMethod (mk_nm n_Tape_rewind) ∈ mk_wt := mk_wt_in 581 rfl (by decide +kernel)
set_option maxRecDepth 100000 in
theorem kv_Tape_rewind : Cond.selects (mk_nm n_Tape_rewind).cls (mk_nm n_Tape_rewind) (mk_nm n_Tape_rewind) ∈ mk_wt := mk_wt_in 582 rfl (by decide +kernel)
set_option maxRecDepth 100000 in
theorem kf_Parser_54 : Cond.fieldLink "LostSevens$Parser" 54 RX9 (TX9 4).2.1 (TX9 4).2.2.1 ∈ mk_wt := mk_wt_in 280 rfl (by decide +kernel)
set_option maxRecDepth 100000 in
theorem km_Parser_57 : Cond.methodLink "LostSevens$Parser" 57 (mk_nm n_Parser_passRule) ∈ mk_wt := mk_wt_in 721 rfl (by decide +kernel)
set_option maxRecDepth 100000 in
theorem kn_Parser_passRule : Cond.instanceMethod (mk_nm n_Parser_passRule) ∈ mk_wt := mk_wt_in 723 rfl (by decide +kernel)
set_option maxRecDepth 100000 in
theorem kv_Parser_passRule : Cond.selects (mk_nm n_Parser_passRule).cls (mk_nm n_Parser_passRule) (mk_nm n_Parser_passRule) ∈ mk_wt := mk_wt_sel 5 rfl (by decide +kernel)
set_option maxRecDepth 100000 in
theorem kf_Parser_61 : Cond.fieldLink "LostSevens$Parser" 61 RX9 (TX9 2).2.1 (TX9 2).2.2.1 ∈ mk_wt := mk_wt_in 276 rfl (by decide +kernel)
set_option maxRecDepth 100000 in
theorem km_Parser_64 : Cond.methodLink "LostSevens$Parser" 64 (mk_nm n_Parser_refuse) ∈ mk_wt := mk_wt_in 725 rfl (by decide +kernel)
set_option maxRecDepth 100000 in
theorem kn_Parser_refuse : Cond.instanceMethod (mk_nm n_Parser_refuse) ∈ mk_wt := mk_wt_in 727 rfl (by decide +kernel)
set_option maxRecDepth 100000 in
theorem kv_Parser_refuse : Cond.selects (mk_nm n_Parser_refuse).cls (mk_nm n_Parser_refuse) (mk_nm n_Parser_refuse) ∈ mk_wt := mk_wt_sel 6 rfl (by decide +kernel)
set_option maxRecDepth 100000 in
theorem km_Parser_68 : Cond.methodLink "LostSevens$Parser" 68 (mk_nm n_Tape_advance) ∈ mk_wt := mk_wt_in 733 rfl (by decide +kernel)
set_option maxRecDepth 100000 in
theorem kn_Tape_advance : Cond.instanceMethod (mk_nm n_Tape_advance) ∈ mk_wt := mk_wt_in 585 rfl (by decide +kernel)
set_option maxRecDepth 100000 in
theorem kv_Tape_advance : Cond.selects (mk_nm n_Tape_advance).cls (mk_nm n_Tape_advance) (mk_nm n_Tape_advance) ∈ mk_wt := mk_wt_in 586 rfl (by decide +kernel)
set_option maxRecDepth 100000 in
theorem kf_Parser_71 : Cond.fieldLink "LostSevens$Parser" 71 RX9 (TX9 3).2.1 (TX9 3).2.2.1 ∈ mk_wt := mk_wt_in 278 rfl (by decide +kernel)
set_option maxRecDepth 100000 in
theorem km_Parser_74 : Cond.methodLink "LostSevens$Parser" 74 (mk_nm n_Tape_numberHere) ∈ mk_wt := mk_wt_in 729 rfl (by decide +kernel)
set_option maxRecDepth 100000 in
theorem kn_Tape_numberHere : Cond.instanceMethod (mk_nm n_Tape_numberHere) ∈ mk_wt := mk_wt_in 730 rfl (by decide +kernel)
set_option maxRecDepth 100000 in
theorem kv_Tape_numberHere : Cond.selects (mk_nm n_Tape_numberHere).cls (mk_nm n_Tape_numberHere) (mk_nm n_Tape_numberHere) ∈ mk_wt := mk_wt_in 731 rfl (by decide +kernel)
set_option maxRecDepth 100000 in
theorem kf_Parser_78 : Cond.fieldLink "LostSevens$Parser" 78 RX7 (TX7 6).2.1 (TX7 6).2.2.1 ∈ mk_wt := mk_wt_in 124 rfl (by decide +kernel)
set_option maxRecDepth 100000 in
theorem km_Parser_81 : Cond.methodLink "LostSevens$Parser" 81 (mk_nm n_Rules_begin) ∈ mk_wt := mk_wt_in 734 rfl (by decide +kernel)
set_option maxRecDepth 100000 in
theorem kn_Rules_begin : Cond.instanceMethod (mk_nm n_Rules_begin) ∈ mk_wt := mk_wt_in 735 rfl (by decide +kernel)
set_option maxRecDepth 100000 in
theorem kv_Rules_begin : Cond.selects (mk_nm n_Rules_begin).cls (mk_nm n_Rules_begin) (mk_nm n_Rules_begin) ∈ mk_wt := mk_wt_in 736 rfl (by decide +kernel)
set_option maxRecDepth 100000 in
theorem km_Parser_85 : Cond.methodLink "LostSevens$Parser" 85 (mk_nm n_Parser_pass) ∈ mk_wt := mk_wt_in 738 rfl (by decide +kernel)
set_option maxRecDepth 100000 in
theorem kn_Parser_pass : Cond.instanceMethod (mk_nm n_Parser_pass) ∈ mk_wt := mk_wt_in 740 rfl (by decide +kernel)
set_option maxRecDepth 100000 in
theorem kv_Parser_pass : Cond.selects (mk_nm n_Parser_pass).cls (mk_nm n_Parser_pass) (mk_nm n_Parser_pass) ∈ mk_wt := mk_wt_sel 7 rfl (by decide +kernel)
set_option maxRecDepth 100000 in
theorem km_Parser_88 : Cond.methodLink "LostSevens$Parser" 88 (mk_nm n_Parser_passReplacement) ∈ mk_wt := mk_wt_in 742 rfl (by decide +kernel)
set_option maxRecDepth 100000 in
theorem kn_Parser_passReplacement : Cond.instanceMethod (mk_nm n_Parser_passReplacement) ∈ mk_wt := mk_wt_in 744 rfl (by decide +kernel)
set_option maxRecDepth 100000 in
theorem kv_Parser_passReplacement : Cond.selects (mk_nm n_Parser_passReplacement).cls (mk_nm n_Parser_passReplacement) (mk_nm n_Parser_passReplacement) ∈ mk_wt := mk_wt_sel 8 rfl (by decide +kernel)
set_option maxRecDepth 100000 in
theorem km_Parser_91 : Cond.methodLink "LostSevens$Parser" 91 (mk_nm n_Parser_passCondition) ∈ mk_wt := mk_wt_in 754 rfl (by decide +kernel)
set_option maxRecDepth 100000 in
theorem kn_Parser_passCondition : Cond.instanceMethod (mk_nm n_Parser_passCondition) ∈ mk_wt := mk_wt_in 756 rfl (by decide +kernel)
set_option maxRecDepth 100000 in
theorem kv_Parser_passCondition : Cond.selects (mk_nm n_Parser_passCondition).cls (mk_nm n_Parser_passCondition) (mk_nm n_Parser_passCondition) ∈ mk_wt := mk_wt_sel 9 rfl (by decide +kernel)
set_option maxRecDepth 100000 in
theorem km_Parser_94 : Cond.methodLink "LostSevens$Parser" 94 (mk_nm n_Tape_numeralHere) ∈ mk_wt := mk_wt_in 746 rfl (by decide +kernel)
set_option maxRecDepth 100000 in
theorem kn_Tape_numeralHere : Cond.instanceMethod (mk_nm n_Tape_numeralHere) ∈ mk_wt := mk_wt_in 747 rfl (by decide +kernel)
set_option maxRecDepth 100000 in
theorem kv_Tape_numeralHere : Cond.selects (mk_nm n_Tape_numeralHere).cls (mk_nm n_Tape_numeralHere) (mk_nm n_Tape_numeralHere) ∈ mk_wt := mk_wt_in 748 rfl (by decide +kernel)
set_option maxRecDepth 100000 in
theorem km_Parser_98 : Cond.methodLink "LostSevens$Parser" 98 (mk_nm n_Rules_spell) ∈ mk_wt := mk_wt_in 750 rfl (by decide +kernel)
set_option maxRecDepth 100000 in
theorem kn_Rules_spell : Cond.instanceMethod (mk_nm n_Rules_spell) ∈ mk_wt := mk_wt_in 751 rfl (by decide +kernel)
set_option maxRecDepth 100000 in
theorem kv_Rules_spell : Cond.selects (mk_nm n_Rules_spell).cls (mk_nm n_Rules_spell) (mk_nm n_Rules_spell) ∈ mk_wt := mk_wt_in 752 rfl (by decide +kernel)
set_option maxRecDepth 100000 in
theorem km_Parser_101 : Cond.methodLink "LostSevens$Parser" 101 (mk_nm n_Parser_takeToken) ∈ mk_wt := mk_wt_in 758 rfl (by decide +kernel)
set_option maxRecDepth 100000 in
theorem kn_Parser_takeToken : Cond.instanceMethod (mk_nm n_Parser_takeToken) ∈ mk_wt := mk_wt_in 760 rfl (by decide +kernel)
set_option maxRecDepth 100000 in
theorem kv_Parser_takeToken : Cond.selects (mk_nm n_Parser_takeToken).cls (mk_nm n_Parser_takeToken) (mk_nm n_Parser_takeToken) ∈ mk_wt := mk_wt_sel 10 rfl (by decide +kernel)
set_option maxRecDepth 100000 in
theorem km_Parser_104 : Cond.methodLink "LostSevens$Parser" 104 (mk_nm n_Parser_takeClaim) ∈ mk_wt := mk_wt_in 762 rfl (by decide +kernel)
set_option maxRecDepth 100000 in
theorem kn_Parser_takeClaim : Cond.instanceMethod (mk_nm n_Parser_takeClaim) ∈ mk_wt := mk_wt_in 764 rfl (by decide +kernel)
set_option maxRecDepth 100000 in
theorem kv_Parser_takeClaim : Cond.selects (mk_nm n_Parser_takeClaim).cls (mk_nm n_Parser_takeClaim) (mk_nm n_Parser_takeClaim) ∈ mk_wt := mk_wt_sel 11 rfl (by decide +kernel)
set_option maxRecDepth 100000 in
theorem km_Parser_107 : Cond.methodLink "LostSevens$Parser" 107 (mk_nm n_Parser_takeOperand) ∈ mk_wt := mk_wt_in 766 rfl (by decide +kernel)
set_option maxRecDepth 100000 in
theorem kn_Parser_takeOperand : Cond.instanceMethod (mk_nm n_Parser_takeOperand) ∈ mk_wt := mk_wt_in 768 rfl (by decide +kernel)
set_option maxRecDepth 100000 in
theorem kv_Parser_takeOperand : Cond.selects (mk_nm n_Parser_takeOperand).cls (mk_nm n_Parser_takeOperand) (mk_nm n_Parser_takeOperand) ∈ mk_wt := mk_wt_sel 12 rfl (by decide +kernel)
set_option maxRecDepth 100000 in
theorem km_Parser_110 : Cond.methodLink "LostSevens$Parser" 110 (mk_nm n_Parser_takeDivisor) ∈ mk_wt := mk_wt_in 778 rfl (by decide +kernel)
set_option maxRecDepth 100000 in
theorem kn_Parser_takeDivisor : Cond.instanceMethod (mk_nm n_Parser_takeDivisor) ∈ mk_wt := mk_wt_in 780 rfl (by decide +kernel)
set_option maxRecDepth 100000 in
theorem kv_Parser_takeDivisor : Cond.selects (mk_nm n_Parser_takeDivisor).cls (mk_nm n_Parser_takeDivisor) (mk_nm n_Parser_takeDivisor) ∈ mk_wt := mk_wt_sel 14 rfl (by decide +kernel)
set_option maxRecDepth 100000 in
theorem km_Parser_113 : Cond.methodLink "LostSevens$Parser" 113 (mk_nm n_Parser_takeJoint) ∈ mk_wt := mk_wt_in 782 rfl (by decide +kernel)
set_option maxRecDepth 100000 in
theorem kn_Parser_takeJoint : Cond.instanceMethod (mk_nm n_Parser_takeJoint) ∈ mk_wt := mk_wt_in 784 rfl (by decide +kernel)
set_option maxRecDepth 100000 in
theorem kv_Parser_takeJoint : Cond.selects (mk_nm n_Parser_takeJoint).cls (mk_nm n_Parser_takeJoint) (mk_nm n_Parser_takeJoint) ∈ mk_wt := mk_wt_sel 15 rfl (by decide +kernel)
set_option maxRecDepth 100000 in
theorem km_Parser_116 : Cond.methodLink "LostSevens$Parser" 116 (mk_nm n_Parser_await) ∈ mk_wt := mk_wt_in 774 rfl (by decide +kernel)
set_option maxRecDepth 100000 in
theorem kn_Parser_await : Cond.instanceMethod (mk_nm n_Parser_await) ∈ mk_wt := mk_wt_in 776 rfl (by decide +kernel)
set_option maxRecDepth 100000 in
theorem kv_Parser_await : Cond.selects (mk_nm n_Parser_await).cls (mk_nm n_Parser_await) (mk_nm n_Parser_await) ∈ mk_wt := mk_wt_sel 13 rfl (by decide +kernel)
set_option maxRecDepth 100000 in
theorem km_Parser_120 : Cond.methodLink "LostSevens$Parser" 120 (mk_nm n_Rules_addStep) ∈ mk_wt := mk_wt_in 770 rfl (by decide +kernel)
set_option maxRecDepth 100000 in
theorem kn_Rules_addStep : Cond.instanceMethod (mk_nm n_Rules_addStep) ∈ mk_wt := mk_wt_in 771 rfl (by decide +kernel)
set_option maxRecDepth 100000 in
theorem kv_Rules_addStep : Cond.selects (mk_nm n_Rules_addStep).cls (mk_nm n_Rules_addStep) (mk_nm n_Rules_addStep) ∈ mk_wt := mk_wt_in 772 rfl (by decide +kernel)
set_option maxRecDepth 100000 in
theorem km_Parser_123 : Cond.methodLink "LostSevens$Parser" 123 (mk_nm n_Parser_strengthOf) ∈ mk_wt := mk_wt_in 786 rfl (by decide +kernel)
set_option maxRecDepth 100000 in
theorem ks_Parser_strengthOf : Cond.static (mk_nm n_Parser_strengthOf) ∈ mk_wt := mk_wt_in 787 rfl (by decide +kernel)
set_option maxRecDepth 100000 in
theorem km_Parser_126 : Cond.methodLink "LostSevens$Parser" 126 (mk_nm n_Parser_canJoin) ∈ mk_wt := mk_wt_in 789 rfl (by decide +kernel)
set_option maxRecDepth 100000 in
theorem kn_Parser_canJoin : Cond.instanceMethod (mk_nm n_Parser_canJoin) ∈ mk_wt := mk_wt_in 791 rfl (by decide +kernel)
set_option maxRecDepth 100000 in
theorem kv_Parser_canJoin : Cond.selects (mk_nm n_Parser_canJoin).cls (mk_nm n_Parser_canJoin) (mk_nm n_Parser_canJoin) ∈ mk_wt := mk_wt_sel 16 rfl (by decide +kernel)
set_option maxRecDepth 100000 in
theorem km_Parser_129 : Cond.methodLink "LostSevens$Parser" 129 (mk_nm n_Parser_settle) ∈ mk_wt := mk_wt_in 793 rfl (by decide +kernel)
set_option maxRecDepth 100000 in
theorem kn_Parser_settle : Cond.instanceMethod (mk_nm n_Parser_settle) ∈ mk_wt := mk_wt_in 795 rfl (by decide +kernel)
set_option maxRecDepth 100000 in
theorem kv_Parser_settle : Cond.selects (mk_nm n_Parser_settle).cls (mk_nm n_Parser_settle) (mk_nm n_Parser_settle) ∈ mk_wt := mk_wt_sel 17 rfl (by decide +kernel)
set_option maxRecDepth 100000 in
theorem km_Parser_132 : Cond.methodLink "LostSevens$Parser" 132 (mk_nm n_Parser_takeEnd) ∈ mk_wt := mk_wt_in 797 rfl (by decide +kernel)
set_option maxRecDepth 100000 in
theorem kn_Parser_takeEnd : Cond.instanceMethod (mk_nm n_Parser_takeEnd) ∈ mk_wt := mk_wt_in 799 rfl (by decide +kernel)
set_option maxRecDepth 100000 in
theorem kv_Parser_takeEnd : Cond.selects (mk_nm n_Parser_takeEnd).cls (mk_nm n_Parser_takeEnd) (mk_nm n_Parser_takeEnd) ∈ mk_wt := mk_wt_sel 18 rfl (by decide +kernel)
set_option maxRecDepth 100000 in
theorem kf_Past_37 : Cond.fieldLink "LostSevens$Past" 37 RX5 (TX5 6).2.1 (TX5 6).2.2.1 ∈ mk_wt := mk_wt_in 248 rfl (by decide +kernel)
set_option maxRecDepth 100000 in
theorem kf_Past_11 : Cond.fieldLink "LostSevens$Past" 11 RX5 (TX5 0).2.1 (TX5 0).2.2.1 ∈ mk_wt := mk_wt_in 242 rfl (by decide +kernel)
set_option maxRecDepth 100000 in
theorem kf_Past_33 : Cond.fieldLink "LostSevens$Past" 33 RX5 (TX5 5).2.1 (TX5 5).2.2.1 ∈ mk_wt := mk_wt_in 247 rfl (by decide +kernel)
set_option maxRecDepth 100000 in
theorem kf_Past_41 : Cond.fieldLink "LostSevens$Past" 41 RX10 (TX10 4).2.1 (TX10 4).2.2.1 ∈ mk_wt := mk_wt_in 161 rfl (by decide +kernel)
set_option maxRecDepth 100000 in
theorem km_Past_46 : Cond.methodLink "LostSevens$Past" 46 (mk_nm n_Message_copyFrom) ∈ mk_wt := mk_wt_in 826 rfl (by decide +kernel)
set_option maxRecDepth 100000 in
theorem kn_Message_copyFrom : Cond.instanceMethod (mk_nm n_Message_copyFrom) ∈ mk_wt := mk_wt_in 827 rfl (by decide +kernel)
set_option maxRecDepth 100000 in
theorem kv_Message_copyFrom : Cond.selects (mk_nm n_Message_copyFrom).cls (mk_nm n_Message_copyFrom) (mk_nm n_Message_copyFrom) ∈ mk_wt := mk_wt_in 828 rfl (by decide +kernel)
set_option maxRecDepth 100000 in
theorem kf_Past_50 : Cond.fieldLink "LostSevens$Past" 50 RX10 (TX10 5).2.1 (TX10 5).2.2.1 ∈ mk_wt := mk_wt_in 164 rfl (by decide +kernel)
set_option maxRecDepth 100000 in
theorem kf_Past_19 : Cond.fieldLink "LostSevens$Past" 19 RX5 (TX5 1).2.1 (TX5 1).2.2.1 ∈ mk_wt := mk_wt_in 243 rfl (by decide +kernel)
set_option maxRecDepth 100000 in
theorem km_Past_52 : Cond.methodLink "LostSevens$Past" 52 arraycopyName ∈ mk_wt := mk_wt_in 833 rfl (by decide +kernel)
set_option maxRecDepth 100000 in
theorem kf_Past_22 : Cond.fieldLink "LostSevens$Past" 22 RX5 (TX5 2).2.1 (TX5 2).2.2.1 ∈ mk_wt := mk_wt_in 244 rfl (by decide +kernel)
set_option maxRecDepth 100000 in
theorem kf_Past_58 : Cond.fieldLink "LostSevens$Past" 58 RX10 (TX10 11).2.1 (TX10 11).2.2.1 ∈ mk_wt := mk_wt_in 178 rfl (by decide +kernel)
set_option maxRecDepth 100000 in
theorem kf_Past_26 : Cond.fieldLink "LostSevens$Past" 26 RX5 (TX5 3).2.1 (TX5 3).2.2.1 ∈ mk_wt := mk_wt_in 245 rfl (by decide +kernel)
set_option maxRecDepth 100000 in
theorem kf_Past_60 : Cond.fieldLink "LostSevens$Past" 60 RX10 (TX10 15).2.1 (TX10 15).2.2.1 ∈ mk_wt := mk_wt_in 191 rfl (by decide +kernel)
set_option maxRecDepth 100000 in
theorem kf_Past_29 : Cond.fieldLink "LostSevens$Past" 29 RX5 (TX5 4).2.1 (TX5 4).2.2.1 ∈ mk_wt := mk_wt_in 246 rfl (by decide +kernel)
set_option maxRecDepth 100000 in
theorem kf_Past_62 : Cond.fieldLink "LostSevens$Past" 62 RX10 (TX10 16).2.1 (TX10 16).2.2.1 ∈ mk_wt := mk_wt_in 194 rfl (by decide +kernel)
set_option maxRecDepth 100000 in
theorem km_Past_65 : Cond.methodLink "LostSevens$Past" 65 Lib.Math.min.name ∈ mk_wt := mk_wt_in 834 rfl (by decide +kernel)
set_option maxRecDepth 100000 in
theorem ks_mmin : Cond.static Lib.Math.min.name ∈ mk_wt := mk_wt_in 681 rfl (by decide +kernel)
set_option maxRecDepth 100000 in
theorem kd_mmin : Cond.code Lib.Math.min.name Lib.Math.min.code 2 (some .int) ∈ mk_wt := mk_wt_in 682 rfl (by decide +kernel)
set_option maxRecDepth 100000 in
theorem km_Router_3 : Cond.methodLink "LostSevens$Router" 3 objectInit ∈ mk_wt := mk_wt_in 416 rfl (by decide +kernel)
set_option maxRecDepth 100000 in
theorem kk_Router_9 : Cond.classLink "LostSevens$Router" 9 RX3 ∈ mk_wt := mk_wt_in 417 rfl (by decide +kernel)
set_option maxRecDepth 100000 in
theorem kf_Router_11 : Cond.fieldLink "LostSevens$Router" 11 RX6 (TX6 1).2.1 (TX6 1).2.2.1 ∈ mk_wt := mk_wt_in 420 rfl (by decide +kernel)
set_option maxRecDepth 100000 in
theorem kf_Router_17 : Cond.fieldLink "LostSevens$Router" 17 RX6 (TX6 2).2.1 (TX6 2).2.2.1 ∈ mk_wt := mk_wt_in 421 rfl (by decide +kernel)
set_option maxRecDepth 100000 in
theorem kf_Router_21 : Cond.fieldLink "LostSevens$Router" 21 RX6 (TX6 3).2.1 (TX6 3).2.2.1 ∈ mk_wt := mk_wt_in 422 rfl (by decide +kernel)
set_option maxRecDepth 100000 in
theorem kf_Router_24 : Cond.fieldLink "LostSevens$Router" 24 RX6 (TX6 4).2.1 (TX6 4).2.2.1 ∈ mk_wt := mk_wt_in 424 rfl (by decide +kernel)
set_option maxRecDepth 100000 in
theorem kf_Router_28 : Cond.fieldLink "LostSevens$Router" 28 RX6 (TX6 5).2.1 (TX6 5).2.2.1 ∈ mk_wt := mk_wt_in 426 rfl (by decide +kernel)
set_option maxRecDepth 100000 in
theorem kf_Router_31 : Cond.fieldLink "LostSevens$Router" 31 RX6 (TX6 6).2.1 (TX6 6).2.2.1 ∈ mk_wt := mk_wt_in 428 rfl (by decide +kernel)
set_option maxRecDepth 100000 in
theorem kf_Router_34 : Cond.fieldLink "LostSevens$Router" 34 RX6 (TX6 0).2.1 (TX6 0).2.2.1 ∈ mk_wt := mk_wt_in 419 rfl (by decide +kernel)
set_option maxRecDepth 100000 in
theorem km_Router_38 : Cond.methodLink "LostSevens$Router" 38 (mk_nm n_Message_init) ∈ mk_wt := mk_wt_in 418 rfl (by decide +kernel)
set_option maxRecDepth 100000 in
theorem kf_Router_39 : Cond.fieldLink "LostSevens$Router" 39 RX10 (TX10 2).2.1 (TX10 2).2.2.1 ∈ mk_wt := mk_wt_in 154 rfl (by decide +kernel)
set_option maxRecDepth 100000 in
theorem km_Router_45 : Cond.methodLink "LostSevens$Router" 45 (mk_nm n_Message_copyFrom) ∈ mk_wt := mk_wt_in 1007 rfl (by decide +kernel)
set_option maxRecDepth 100000 in
theorem km_Router_49 : Cond.methodLink "LostSevens$Router" 49 (mk_nm n_Router_goOn) ∈ mk_wt := mk_wt_in 1008 rfl (by decide +kernel)
set_option maxRecDepth 100000 in
theorem kn_Router_goOn : Cond.instanceMethod (mk_nm n_Router_goOn) ∈ mk_wt := mk_wt_in 1010 rfl (by decide +kernel)
set_option maxRecDepth 100000 in
theorem kv_Router_goOn : Cond.selects (mk_nm n_Router_goOn).cls (mk_nm n_Router_goOn) (mk_nm n_Router_goOn) ∈ mk_wt := mk_wt_sel 32 rfl (by decide +kernel)
set_option maxRecDepth 100000 in
theorem kf_Router_53 : Cond.fieldLink "LostSevens$Router" 53 RX10 (TX10 10).2.1 (TX10 10).2.2.1 ∈ mk_wt := mk_wt_in 175 rfl (by decide +kernel)
set_option maxRecDepth 100000 in
theorem kf_Router_56 : Cond.fieldLink "LostSevens$Router" 56 RX10 (TX10 0).2.1 (TX10 0).2.2.1 ∈ mk_wt := mk_wt_in 145 rfl (by decide +kernel)
set_option maxRecDepth 100000 in
theorem km_Router_60 : Cond.methodLink "LostSevens$Router" 60 (mk_nm n_Line_otherEnd) ∈ mk_wt := mk_wt_in 1012 rfl (by decide +kernel)
set_option maxRecDepth 100000 in
theorem kn_Line_otherEnd : Cond.instanceMethod (mk_nm n_Line_otherEnd) ∈ mk_wt := mk_wt_in 819 rfl (by decide +kernel)
set_option maxRecDepth 100000 in
theorem kv_Line_otherEnd : Cond.selects (mk_nm n_Line_otherEnd).cls (mk_nm n_Line_otherEnd) (mk_nm n_Line_otherEnd) ∈ mk_wt := mk_wt_in 820 rfl (by decide +kernel)
set_option maxRecDepth 100000 in
theorem km_Router_66 : Cond.methodLink "LostSevens$Router" 66 (mk_nm n_Router_goTo) ∈ mk_wt := mk_wt_in 1013 rfl (by decide +kernel)
set_option maxRecDepth 100000 in
theorem kn_Router_goTo : Cond.instanceMethod (mk_nm n_Router_goTo) ∈ mk_wt := mk_wt_in 1015 rfl (by decide +kernel)
set_option maxRecDepth 100000 in
theorem kv_Router_goTo : Cond.selects (mk_nm n_Router_goTo).cls (mk_nm n_Router_goTo) (mk_nm n_Router_goTo) ∈ mk_wt := mk_wt_sel 33 rfl (by decide +kernel)
set_option maxRecDepth 100000 in
theorem kf_Router_69 : Cond.fieldLink "LostSevens$Router" 69 RX10 (TX10 1).2.1 (TX10 1).2.2.1 ∈ mk_wt := mk_wt_in 150 rfl (by decide +kernel)
set_option maxRecDepth 100000 in
theorem kf_Router_73 : Cond.fieldLink "LostSevens$Router" 73 RX2 (TX2 2).2.1 (TX2 2).2.2.1 ∈ mk_wt := mk_wt_in 77 rfl (by decide +kernel)
set_option maxRecDepth 100000 in
theorem kf_Router_76 : Cond.fieldLink "LostSevens$Router" 76 RX10 (TX10 13).2.1 (TX10 13).2.2.1 ∈ mk_wt := mk_wt_in 184 rfl (by decide +kernel)
set_option maxRecDepth 100000 in
theorem kf_Router_79 : Cond.fieldLink "LostSevens$Router" 79 RX2 (TX2 6).2.1 (TX2 6).2.2.1 ∈ mk_wt := mk_wt_in 87 rfl (by decide +kernel)
set_option maxRecDepth 100000 in
theorem km_Router_82 : Cond.methodLink "LostSevens$Router" 82 (mk_nm n_Clerk_translate) ∈ mk_wt := mk_wt_in 1017 rfl (by decide +kernel)
set_option maxRecDepth 100000 in
theorem kf_Router_88 : Cond.fieldLink "LostSevens$Router" 88 RX0 (TX0 0).2.1 (TX0 0).2.2.1 ∈ mk_wt := mk_wt_in 339 rfl (by decide +kernel)
set_option maxRecDepth 100000 in
theorem km_Router_91 : Cond.methodLink "LostSevens$Router" 91 (mk_nm n_Line_lostDigits) ∈ mk_wt := mk_wt_in 1018 rfl (by decide +kernel)
set_option maxRecDepth 100000 in
theorem km_Router_94 : Cond.methodLink "LostSevens$Router" 94 (mk_nm n_Message_keepFrom) ∈ mk_wt := mk_wt_in 1019 rfl (by decide +kernel)
set_option maxRecDepth 100000 in
theorem km_Router_98 : Cond.methodLink "LostSevens$Router" 98 (mk_nm n_Router_isBetter) ∈ mk_wt := mk_wt_in 1020 rfl (by decide +kernel)
set_option maxRecDepth 100000 in
theorem kn_Router_isBetter : Cond.instanceMethod (mk_nm n_Router_isBetter) ∈ mk_wt := mk_wt_in 1022 rfl (by decide +kernel)
set_option maxRecDepth 100000 in
theorem kv_Router_isBetter : Cond.selects (mk_nm n_Router_isBetter).cls (mk_nm n_Router_isBetter) (mk_nm n_Router_isBetter) ∈ mk_wt := mk_wt_sel 34 rfl (by decide +kernel)
set_option maxRecDepth 100000 in
theorem km_Router_102 : Cond.methodLink "LostSevens$Router" 102 arraycopyName ∈ mk_wt := mk_wt_in 1024 rfl (by decide +kernel)
set_option maxRecDepth 100000 in
theorem km_Rules_3 : Cond.methodLink "LostSevens$Rules" 3 objectInit ∈ mk_wt := mk_wt_in 107 rfl (by decide +kernel)
set_option maxRecDepth 100000 in
theorem kf_Rules_9 : Cond.fieldLink "LostSevens$Rules" 9 RX7 (TX7 0).2.1 (TX7 0).2.2.1 ∈ mk_wt := mk_wt_in 108 rfl (by decide +kernel)
set_option maxRecDepth 100000 in
theorem kf_Rules_15 : Cond.fieldLink "LostSevens$Rules" 15 RX7 (TX7 1).2.1 (TX7 1).2.2.1 ∈ mk_wt := mk_wt_in 110 rfl (by decide +kernel)
set_option maxRecDepth 100000 in
theorem kf_Rules_18 : Cond.fieldLink "LostSevens$Rules" 18 RX7 (TX7 2).2.1 (TX7 2).2.2.1 ∈ mk_wt := mk_wt_in 113 rfl (by decide +kernel)
set_option maxRecDepth 100000 in
theorem kf_Rules_21 : Cond.fieldLink "LostSevens$Rules" 21 RX7 (TX7 3).2.1 (TX7 3).2.2.1 ∈ mk_wt := mk_wt_in 116 rfl (by decide +kernel)
set_option maxRecDepth 100000 in
theorem kf_Rules_24 : Cond.fieldLink "LostSevens$Rules" 24 RX7 (TX7 4).2.1 (TX7 4).2.2.1 ∈ mk_wt := mk_wt_in 118 rfl (by decide +kernel)
set_option maxRecDepth 100000 in
theorem kf_Rules_27 : Cond.fieldLink "LostSevens$Rules" 27 RX7 (TX7 5).2.1 (TX7 5).2.2.1 ∈ mk_wt := mk_wt_in 120 rfl (by decide +kernel)
set_option maxRecDepth 100000 in
theorem kf_Rules_30 : Cond.fieldLink "LostSevens$Rules" 30 RX7 (TX7 6).2.1 (TX7 6).2.2.1 ∈ mk_wt := mk_wt_in 122 rfl (by decide +kernel)
set_option maxRecDepth 100000 in
theorem kf_Rules_34 : Cond.fieldLink "LostSevens$Rules" 34 RX7 (TX7 7).2.1 (TX7 7).2.2.1 ∈ mk_wt := mk_wt_in 126 rfl (by decide +kernel)
set_option maxRecDepth 100000 in
theorem km_Rules_37 : Cond.methodLink "LostSevens$Rules" 37 arraycopyName ∈ mk_wt := mk_wt_in 1082 rfl (by decide +kernel)
set_option maxRecDepth 100000 in
theorem km_Seeker_3 : Cond.methodLink "LostSevens$Seeker" 3 objectInit ∈ mk_wt := mk_wt_in 356 rfl (by decide +kernel)
set_option maxRecDepth 100000 in
theorem kk_Seeker_9 : Cond.classLink "LostSevens$Seeker" 9 RX3 ∈ mk_wt := mk_wt_in 357 rfl (by decide +kernel)
set_option maxRecDepth 100000 in
theorem km_Seeker_11 : Cond.methodLink "LostSevens$Seeker" 11 (mk_nm n_Message_init) ∈ mk_wt := mk_wt_in 358 rfl (by decide +kernel)
set_option maxRecDepth 100000 in
theorem kf_Seeker_12 : Cond.fieldLink "LostSevens$Seeker" 12 RX8 (TX8 1).2.1 (TX8 1).2.2.1 ∈ mk_wt := mk_wt_in 360 rfl (by decide +kernel)
set_option maxRecDepth 100000 in
theorem kf_Seeker_18 : Cond.fieldLink "LostSevens$Seeker" 18 RX8 (TX8 2).2.1 (TX8 2).2.2.1 ∈ mk_wt := mk_wt_in 361 rfl (by decide +kernel)
set_option maxRecDepth 100000 in
theorem kf_Seeker_21 : Cond.fieldLink "LostSevens$Seeker" 21 RX8 (TX8 3).2.1 (TX8 3).2.2.1 ∈ mk_wt := mk_wt_in 362 rfl (by decide +kernel)
set_option maxRecDepth 100000 in
theorem kf_Seeker_24 : Cond.fieldLink "LostSevens$Seeker" 24 RX8 (TX8 4).2.1 (TX8 4).2.2.1 ∈ mk_wt := mk_wt_in 363 rfl (by decide +kernel)
set_option maxRecDepth 100000 in
theorem kf_Seeker_27 : Cond.fieldLink "LostSevens$Seeker" 27 RX8 (TX8 5).2.1 (TX8 5).2.2.1 ∈ mk_wt := mk_wt_in 365 rfl (by decide +kernel)
set_option maxRecDepth 100000 in
theorem kf_Seeker_31 : Cond.fieldLink "LostSevens$Seeker" 31 RX8 (TX8 6).2.1 (TX8 6).2.2.1 ∈ mk_wt := mk_wt_in 367 rfl (by decide +kernel)
set_option maxRecDepth 100000 in
theorem kf_Seeker_34 : Cond.fieldLink "LostSevens$Seeker" 34 RX8 (TX8 7).2.1 (TX8 7).2.2.1 ∈ mk_wt := mk_wt_in 368 rfl (by decide +kernel)
set_option maxRecDepth 100000 in
theorem kf_Seeker_38 : Cond.fieldLink "LostSevens$Seeker" 38 RX8 (TX8 0).2.1 (TX8 0).2.2.1 ∈ mk_wt := mk_wt_in 359 rfl (by decide +kernel)
set_option maxRecDepth 100000 in
theorem kf_Seeker_42 : Cond.fieldLink "LostSevens$Seeker" 42 RX10 (TX10 3).2.1 (TX10 3).2.2.1 ∈ mk_wt := mk_wt_in 158 rfl (by decide +kernel)
set_option maxRecDepth 100000 in
theorem km_Seeker_47 : Cond.methodLink "LostSevens$Seeker" 47 (mk_nm n_Message_copyFrom) ∈ mk_wt := mk_wt_in 923 rfl (by decide +kernel)
set_option maxRecDepth 100000 in
theorem kf_Seeker_51 : Cond.fieldLink "LostSevens$Seeker" 51 RX10 (TX10 2).2.1 (TX10 2).2.2.1 ∈ mk_wt := mk_wt_in 155 rfl (by decide +kernel)
set_option maxRecDepth 100000 in
theorem km_Seeker_54 : Cond.methodLink "LostSevens$Seeker" 54 (mk_nm n_Clerk_carry) ∈ mk_wt := mk_wt_in 971 rfl (by decide +kernel)
set_option maxRecDepth 100000 in
theorem kn_Clerk_carry : Cond.instanceMethod (mk_nm n_Clerk_carry) ∈ mk_wt := mk_wt_in 841 rfl (by decide +kernel)
set_option maxRecDepth 100000 in
theorem kv_Clerk_carry : Cond.selects (mk_nm n_Clerk_carry).cls (mk_nm n_Clerk_carry) (mk_nm n_Clerk_carry) ∈ mk_wt := mk_wt_in 842 rfl (by decide +kernel)
set_option maxRecDepth 100000 in
theorem kf_Seeker_60 : Cond.fieldLink "LostSevens$Seeker" 60 RX10 (TX10 1).2.1 (TX10 1).2.2.1 ∈ mk_wt := mk_wt_in 149 rfl (by decide +kernel)
set_option maxRecDepth 100000 in
theorem kf_Seeker_64 : Cond.fieldLink "LostSevens$Seeker" 64 RX2 (TX2 2).2.1 (TX2 2).2.2.1 ∈ mk_wt := mk_wt_in 76 rfl (by decide +kernel)
set_option maxRecDepth 100000 in
theorem km_Seeker_69 : Cond.methodLink "LostSevens$Seeker" 69 (mk_nm n_Line_lostDigits) ∈ mk_wt := mk_wt_in 928 rfl (by decide +kernel)
set_option maxRecDepth 100000 in
theorem kf_Seeker_73 : Cond.fieldLink "LostSevens$Seeker" 73 RX10 (TX10 13).2.1 (TX10 13).2.2.1 ∈ mk_wt := mk_wt_in 185 rfl (by decide +kernel)
set_option maxRecDepth 100000 in
theorem km_Seeker_76 : Cond.methodLink "LostSevens$Seeker" 76 (mk_nm n_Clerk_begin) ∈ mk_wt := mk_wt_in 929 rfl (by decide +kernel)
set_option maxRecDepth 100000 in
theorem km_Seeker_80 : Cond.methodLink "LostSevens$Seeker" 80 (mk_nm n_Seeker_isOver) ∈ mk_wt := mk_wt_in 930 rfl (by decide +kernel)
set_option maxRecDepth 100000 in
theorem kn_Seeker_isOver : Cond.instanceMethod (mk_nm n_Seeker_isOver) ∈ mk_wt := mk_wt_in 932 rfl (by decide +kernel)
set_option maxRecDepth 100000 in
theorem kv_Seeker_isOver : Cond.selects (mk_nm n_Seeker_isOver).cls (mk_nm n_Seeker_isOver) (mk_nm n_Seeker_isOver) ∈ mk_wt := mk_wt_sel 22 rfl (by decide +kernel)
set_option maxRecDepth 100000 in
theorem kf_Seeker_84 : Cond.fieldLink "LostSevens$Seeker" 84 RX3 (TX3 1).2.1 (TX3 1).2.2.1 ∈ mk_wt := mk_wt_in 55 rfl (by decide +kernel)
set_option maxRecDepth 100000 in
theorem km_Seeker_87 : Cond.methodLink "LostSevens$Seeker" 87 (mk_nm n_Seeker_judge) ∈ mk_wt := mk_wt_in 934 rfl (by decide +kernel)
set_option maxRecDepth 100000 in
theorem kn_Seeker_judge : Cond.instanceMethod (mk_nm n_Seeker_judge) ∈ mk_wt := mk_wt_in 936 rfl (by decide +kernel)
set_option maxRecDepth 100000 in
theorem kv_Seeker_judge : Cond.selects (mk_nm n_Seeker_judge).cls (mk_nm n_Seeker_judge) (mk_nm n_Seeker_judge) ∈ mk_wt := mk_wt_sel 23 rfl (by decide +kernel)
set_option maxRecDepth 100000 in
theorem km_Seeker_91 : Cond.methodLink "LostSevens$Seeker" 91 (mk_nm n_Seeker_chooseAt) ∈ mk_wt := mk_wt_in 942 rfl (by decide +kernel)
set_option maxRecDepth 100000 in
theorem kn_Seeker_chooseAt : Cond.instanceMethod (mk_nm n_Seeker_chooseAt) ∈ mk_wt := mk_wt_in 944 rfl (by decide +kernel)
set_option maxRecDepth 100000 in
theorem kv_Seeker_chooseAt : Cond.selects (mk_nm n_Seeker_chooseAt).cls (mk_nm n_Seeker_chooseAt) (mk_nm n_Seeker_chooseAt) ∈ mk_wt := mk_wt_sel 24 rfl (by decide +kernel)
set_option maxRecDepth 100000 in
theorem kf_Seeker_95 : Cond.fieldLink "LostSevens$Seeker" 95 RX3 (TX3 0).2.1 (TX3 0).2.2.1 ∈ mk_wt := mk_wt_in 50 rfl (by decide +kernel)
set_option maxRecDepth 100000 in
theorem km_Seeker_99 : Cond.methodLink "LostSevens$Seeker" 99 (mk_nm n_Seeker_follow) ∈ mk_wt := mk_wt_in 946 rfl (by decide +kernel)
set_option maxRecDepth 100000 in
theorem kn_Seeker_follow : Cond.instanceMethod (mk_nm n_Seeker_follow) ∈ mk_wt := mk_wt_in 948 rfl (by decide +kernel)
set_option maxRecDepth 100000 in
theorem kv_Seeker_follow : Cond.selects (mk_nm n_Seeker_follow).cls (mk_nm n_Seeker_follow) (mk_nm n_Seeker_follow) ∈ mk_wt := mk_wt_sel 25 rfl (by decide +kernel)
set_option maxRecDepth 100000 in
theorem km_Seeker_103 : Cond.methodLink "LostSevens$Seeker" 103 (mk_nm n_Seeker_goOnFrom) ∈ mk_wt := mk_wt_in 956 rfl (by decide +kernel)
set_option maxRecDepth 100000 in
theorem kn_Seeker_goOnFrom : Cond.instanceMethod (mk_nm n_Seeker_goOnFrom) ∈ mk_wt := mk_wt_in 958 rfl (by decide +kernel)
set_option maxRecDepth 100000 in
theorem kv_Seeker_goOnFrom : Cond.selects (mk_nm n_Seeker_goOnFrom).cls (mk_nm n_Seeker_goOnFrom) (mk_nm n_Seeker_goOnFrom) ∈ mk_wt := mk_wt_sel 27 rfl (by decide +kernel)
set_option maxRecDepth 100000 in
theorem km_Seeker_106 : Cond.methodLink "LostSevens$Seeker" 106 (mk_nm n_Clerk_ruleAt) ∈ mk_wt := mk_wt_in 950 rfl (by decide +kernel)
set_option maxRecDepth 100000 in
theorem km_Seeker_110 : Cond.methodLink "LostSevens$Seeker" 110 (mk_nm n_Seeker_meet) ∈ mk_wt := mk_wt_in 951 rfl (by decide +kernel)
set_option maxRecDepth 100000 in
theorem kn_Seeker_meet : Cond.instanceMethod (mk_nm n_Seeker_meet) ∈ mk_wt := mk_wt_in 953 rfl (by decide +kernel)
set_option maxRecDepth 100000 in
theorem kv_Seeker_meet : Cond.selects (mk_nm n_Seeker_meet).cls (mk_nm n_Seeker_meet) (mk_nm n_Seeker_meet) ∈ mk_wt := mk_wt_sel 26 rfl (by decide +kernel)
set_option maxRecDepth 100000 in
theorem kf_Seeker_114 : Cond.fieldLink "LostSevens$Seeker" 114 RX7 (TX7 1).2.1 (TX7 1).2.2.1 ∈ mk_wt := mk_wt_in 112 rfl (by decide +kernel)
set_option maxRecDepth 100000 in
theorem kf_Seeker_119 : Cond.fieldLink "LostSevens$Seeker" 119 RX7 (TX7 2).2.1 (TX7 2).2.2.1 ∈ mk_wt := mk_wt_in 115 rfl (by decide +kernel)
set_option maxRecDepth 100000 in
theorem km_Seeker_122 : Cond.methodLink "LostSevens$Seeker" 122 (mk_nm n_Message_digitAt) ∈ mk_wt := mk_wt_in 955 rfl (by decide +kernel)
set_option maxRecDepth 100000 in
theorem km_Seeker_125 : Cond.methodLink "LostSevens$Seeker" 125 (mk_nm n_Message_sameAs) ∈ mk_wt := mk_wt_in 938 rfl (by decide +kernel)
set_option maxRecDepth 100000 in
theorem kn_Message_sameAs : Cond.instanceMethod (mk_nm n_Message_sameAs) ∈ mk_wt := mk_wt_in 939 rfl (by decide +kernel)
set_option maxRecDepth 100000 in
theorem kv_Message_sameAs : Cond.selects (mk_nm n_Message_sameAs).cls (mk_nm n_Message_sameAs) (mk_nm n_Message_sameAs) ∈ mk_wt := mk_wt_in 940 rfl (by decide +kernel)
set_option maxRecDepth 100000 in
theorem km_Tape_3 : Cond.methodLink "LostSevens$Tape" 3 objectInit ∈ mk_wt := mk_wt_in 271 rfl (by decide +kernel)
set_option maxRecDepth 100000 in
theorem kf_Tape_9 : Cond.fieldLink "LostSevens$Tape" 9 RX9 (TX9 0).2.1 (TX9 0).2.2.1 ∈ mk_wt := mk_wt_in 272 rfl (by decide +kernel)
set_option maxRecDepth 100000 in
theorem kf_Tape_15 : Cond.fieldLink "LostSevens$Tape" 15 RX9 (TX9 1).2.1 (TX9 1).2.2.1 ∈ mk_wt := mk_wt_in 273 rfl (by decide +kernel)
set_option maxRecDepth 100000 in
theorem kf_Tape_19 : Cond.fieldLink "LostSevens$Tape" 19 RX9 (TX9 2).2.1 (TX9 2).2.2.1 ∈ mk_wt := mk_wt_in 275 rfl (by decide +kernel)
set_option maxRecDepth 100000 in
theorem kf_Tape_22 : Cond.fieldLink "LostSevens$Tape" 22 RX9 (TX9 3).2.1 (TX9 3).2.2.1 ∈ mk_wt := mk_wt_in 277 rfl (by decide +kernel)
set_option maxRecDepth 100000 in
theorem kf_Tape_25 : Cond.fieldLink "LostSevens$Tape" 25 RX9 (TX9 4).2.1 (TX9 4).2.2.1 ∈ mk_wt := mk_wt_in 279 rfl (by decide +kernel)
set_option maxRecDepth 100000 in
theorem km_Tape_28 : Cond.methodLink "LostSevens$Tape" 28 (mk_nm n_Tape_advance) ∈ mk_wt := mk_wt_in 584 rfl (by decide +kernel)
set_option maxRecDepth 100000 in
theorem km_Tape_31 : Cond.methodLink "LostSevens$Tape" 31 (mk_nm n_Tape_isBlank) ∈ mk_wt := mk_wt_in 588 rfl (by decide +kernel)
set_option maxRecDepth 100000 in
theorem ks_Tape_isBlank : Cond.static (mk_nm n_Tape_isBlank) ∈ mk_wt := mk_wt_in 589 rfl (by decide +kernel)
set_option maxRecDepth 100000 in
theorem km_Tape_35 : Cond.methodLink "LostSevens$Tape" 35 (mk_nm n_Tape_isLetter) ∈ mk_wt := mk_wt_in 591 rfl (by decide +kernel)
set_option maxRecDepth 100000 in
theorem ks_Tape_isLetter : Cond.static (mk_nm n_Tape_isLetter) ∈ mk_wt := mk_wt_in 592 rfl (by decide +kernel)
set_option maxRecDepth 100000 in
theorem km_Tape_38 : Cond.methodLink "LostSevens$Tape" 38 (mk_nm n_Tape_lettersFrom) ∈ mk_wt := mk_wt_in 594 rfl (by decide +kernel)
set_option maxRecDepth 100000 in
theorem kn_Tape_lettersFrom : Cond.instanceMethod (mk_nm n_Tape_lettersFrom) ∈ mk_wt := mk_wt_in 596 rfl (by decide +kernel)
set_option maxRecDepth 100000 in
theorem kv_Tape_lettersFrom : Cond.selects (mk_nm n_Tape_lettersFrom).cls (mk_nm n_Tape_lettersFrom) (mk_nm n_Tape_lettersFrom) ∈ mk_wt := mk_wt_sel 1 rfl (by decide +kernel)
set_option maxRecDepth 100000 in
theorem km_Tape_42 : Cond.methodLink "LostSevens$Tape" 42 (mk_nm n_Tape_keywordHere) ∈ mk_wt := mk_wt_in 598 rfl (by decide +kernel)
set_option maxRecDepth 100000 in
theorem kn_Tape_keywordHere : Cond.instanceMethod (mk_nm n_Tape_keywordHere) ∈ mk_wt := mk_wt_in 600 rfl (by decide +kernel)
set_option maxRecDepth 100000 in
theorem kv_Tape_keywordHere : Cond.selects (mk_nm n_Tape_keywordHere).cls (mk_nm n_Tape_keywordHere) (mk_nm n_Tape_keywordHere) ∈ mk_wt := mk_wt_sel 2 rfl (by decide +kernel)
set_option maxRecDepth 100000 in
theorem km_Tape_46 : Cond.methodLink "LostSevens$Tape" 46 (mk_nm n_Tape_isNumeral) ∈ mk_wt := mk_wt_in 647 rfl (by decide +kernel)
set_option maxRecDepth 100000 in
theorem ks_Tape_isNumeral : Cond.static (mk_nm n_Tape_isNumeral) ∈ mk_wt := mk_wt_in 648 rfl (by decide +kernel)
set_option maxRecDepth 100000 in
theorem km_Tape_49 : Cond.methodLink "LostSevens$Tape" 49 (mk_nm n_Tape_numeralsFrom) ∈ mk_wt := mk_wt_in 650 rfl (by decide +kernel)
set_option maxRecDepth 100000 in
theorem kn_Tape_numeralsFrom : Cond.instanceMethod (mk_nm n_Tape_numeralsFrom) ∈ mk_wt := mk_wt_in 652 rfl (by decide +kernel)
set_option maxRecDepth 100000 in
theorem kv_Tape_numeralsFrom : Cond.selects (mk_nm n_Tape_numeralsFrom).cls (mk_nm n_Tape_numeralsFrom) (mk_nm n_Tape_numeralsFrom) ∈ mk_wt := mk_wt_sel 4 rfl (by decide +kernel)
set_option maxRecDepth 100000 in
theorem km_Tape_54 : Cond.methodLink "LostSevens$Tape" 54 (mk_nm n_Str_indexOf) ∈ mk_wt := mk_wt_in 655 rfl (by decide +kernel)
set_option maxRecDepth 100000 in
theorem kn_Str_indexOf : Cond.instanceMethod (mk_nm n_Str_indexOf) ∈ mk_wt := mk_wt_in 656 rfl (by decide +kernel)
set_option maxRecDepth 100000 in
theorem kv_Str_indexOf : Cond.selects (mk_nm n_Str_indexOf).cls (mk_nm n_Str_indexOf) (mk_nm n_Str_indexOf) ∈ mk_wt := mk_wt_in 657 rfl (by decide +kernel)
set_option maxRecDepth 100000 in
theorem km_Tape_59 : Cond.methodLink "LostSevens$Tape" 59 (mk_nm n_Tape_spells) ∈ mk_wt := mk_wt_in 602 rfl (by decide +kernel)
set_option maxRecDepth 100000 in
theorem kn_Tape_spells : Cond.instanceMethod (mk_nm n_Tape_spells) ∈ mk_wt := mk_wt_in 604 rfl (by decide +kernel)
set_option maxRecDepth 100000 in
theorem kv_Tape_spells : Cond.selects (mk_nm n_Tape_spells).cls (mk_nm n_Tape_spells) (mk_nm n_Tape_spells) ∈ mk_wt := mk_wt_sel 3 rfl (by decide +kernel)
set_option maxRecDepth 100000 in
theorem km_Tape_64 : Cond.methodLink "LostSevens$Tape" 64 (mk_nm n_Str_charAt) ∈ mk_wt := mk_wt_in 607 rfl (by decide +kernel)
set_option maxRecDepth 100000 in
theorem kn_Str_charAt : Cond.instanceMethod (mk_nm n_Str_charAt) ∈ mk_wt := mk_wt_in 608 rfl (by decide +kernel)
set_option maxRecDepth 100000 in
theorem kv_Str_charAt : Cond.selects (mk_nm n_Str_charAt).cls (mk_nm n_Str_charAt) (mk_nm n_Str_charAt) ∈ mk_wt := mk_wt_in 609 rfl (by decide +kernel)
set_option maxRecDepth 100000 in
theorem km_World_3 : Cond.methodLink "LostSevens$World" 3 objectInit ∈ mk_wt := mk_wt_in 35 rfl (by decide +kernel)
set_option maxRecDepth 100000 in
theorem kk_World_9 : Cond.classLink "LostSevens$World" 9 RX2 ∈ mk_wt := mk_wt_in 36 rfl (by decide +kernel)
set_option maxRecDepth 100000 in
theorem kf_World_11 : Cond.fieldLink "LostSevens$World" 11 RX10 (TX10 0).2.1 (TX10 0).2.2.1 ∈ mk_wt := mk_wt_in 144 rfl (by decide +kernel)
set_option maxRecDepth 100000 in
theorem kk_World_17 : Cond.classLink "LostSevens$World" 17 RX7 ∈ mk_wt := mk_wt_in 38 rfl (by decide +kernel)
set_option maxRecDepth 100000 in
theorem kf_World_19 : Cond.fieldLink "LostSevens$World" 19 RX10 (TX10 1).2.1 (TX10 1).2.2.1 ∈ mk_wt := mk_wt_in 147 rfl (by decide +kernel)
set_option maxRecDepth 100000 in
theorem kk_World_23 : Cond.classLink "LostSevens$World" 23 RX3 ∈ mk_wt := mk_wt_in 40 rfl (by decide +kernel)
set_option maxRecDepth 100000 in
theorem km_World_25 : Cond.methodLink "LostSevens$World" 25 (mk_nm n_Message_init) ∈ mk_wt := mk_wt_in 42 rfl (by decide +kernel)
set_option maxRecDepth 100000 in
theorem kf_World_26 : Cond.fieldLink "LostSevens$World" 26 RX10 (TX10 2).2.1 (TX10 2).2.2.1 ∈ mk_wt := mk_wt_in 153 rfl (by decide +kernel)
set_option maxRecDepth 100000 in
theorem kf_World_30 : Cond.fieldLink "LostSevens$World" 30 RX10 (TX10 3).2.1 (TX10 3).2.2.1 ∈ mk_wt := mk_wt_in 157 rfl (by decide +kernel)
set_option maxRecDepth 100000 in
theorem kf_World_33 : Cond.fieldLink "LostSevens$World" 33 RX10 (TX10 4).2.1 (TX10 4).2.2.1 ∈ mk_wt := mk_wt_in 160 rfl (by decide +kernel)
set_option maxRecDepth 100000 in
theorem kf_World_36 : Cond.fieldLink "LostSevens$World" 36 RX10 (TX10 5).2.1 (TX10 5).2.2.1 ∈ mk_wt := mk_wt_in 163 rfl (by decide +kernel)
set_option maxRecDepth 100000 in
theorem kf_World_40 : Cond.fieldLink "LostSevens$World" 40 RX10 (TX10 6).2.1 (TX10 6).2.2.1 ∈ mk_wt := mk_wt_in 166 rfl (by decide +kernel)
set_option maxRecDepth 100000 in
theorem kf_World_43 : Cond.fieldLink "LostSevens$World" 43 RX10 (TX10 7).2.1 (TX10 7).2.2.1 ∈ mk_wt := mk_wt_in 168 rfl (by decide +kernel)
set_option maxRecDepth 100000 in
theorem kf_World_46 : Cond.fieldLink "LostSevens$World" 46 RX10 (TX10 8).2.1 (TX10 8).2.2.1 ∈ mk_wt := mk_wt_in 170 rfl (by decide +kernel)
set_option maxRecDepth 100000 in
theorem kf_World_49 : Cond.fieldLink "LostSevens$World" 49 RX10 (TX10 9).2.1 (TX10 9).2.2.1 ∈ mk_wt := mk_wt_in 172 rfl (by decide +kernel)
set_option maxRecDepth 100000 in
theorem kf_World_52 : Cond.fieldLink "LostSevens$World" 52 RX10 (TX10 10).2.1 (TX10 10).2.2.1 ∈ mk_wt := mk_wt_in 174 rfl (by decide +kernel)
set_option maxRecDepth 100000 in
theorem kf_World_56 : Cond.fieldLink "LostSevens$World" 56 RX10 (TX10 11).2.1 (TX10 11).2.2.1 ∈ mk_wt := mk_wt_in 177 rfl (by decide +kernel)
set_option maxRecDepth 100000 in
theorem kf_World_59 : Cond.fieldLink "LostSevens$World" 59 RX10 (TX10 12).2.1 (TX10 12).2.2.1 ∈ mk_wt := mk_wt_in 180 rfl (by decide +kernel)
set_option maxRecDepth 100000 in
theorem kf_World_62 : Cond.fieldLink "LostSevens$World" 62 RX10 (TX10 13).2.1 (TX10 13).2.2.1 ∈ mk_wt := mk_wt_in 182 rfl (by decide +kernel)
set_option maxRecDepth 100000 in
theorem kf_World_65 : Cond.fieldLink "LostSevens$World" 65 RX10 (TX10 14).2.1 (TX10 14).2.2.1 ∈ mk_wt := mk_wt_in 188 rfl (by decide +kernel)
set_option maxRecDepth 100000 in
theorem kf_World_68 : Cond.fieldLink "LostSevens$World" 68 RX10 (TX10 15).2.1 (TX10 15).2.2.1 ∈ mk_wt := mk_wt_in 190 rfl (by decide +kernel)
set_option maxRecDepth 100000 in
theorem kf_World_71 : Cond.fieldLink "LostSevens$World" 71 RX10 (TX10 16).2.1 (TX10 16).2.2.1 ∈ mk_wt := mk_wt_in 193 rfl (by decide +kernel)
set_option maxRecDepth 100000 in
theorem ki_Line : Cond.instantiable RX2 7 ∈ mk_wt := mk_wt_in 64 rfl (by decide +kernel)
set_option maxRecDepth 100000 in
theorem kz_Line : Cond.initialized RX2 ∈ mk_wt := mk_wt_in 4 rfl (by decide +kernel)
set_option maxRecDepth 100000 in
theorem km_World_75 : Cond.methodLink "LostSevens$World" 75 (mk_nm n_Line_init) ∈ mk_wt := mk_wt_in 65 rfl (by decide +kernel)
set_option maxRecDepth 100000 in
theorem kn_Line_init : Cond.instanceMethod (mk_nm n_Line_init) ∈ mk_wt := mk_wt_in 66 rfl (by decide +kernel)
set_option maxRecDepth 100000 in
theorem km_World_76 : Cond.methodLink "LostSevens$World" 76 (mk_nm n_Rules_init) ∈ mk_wt := mk_wt_in 104 rfl (by decide +kernel)
set_option maxRecDepth 100000 in
theorem kc_World_77 : Cond.constant "LostSevens$World" 77 (1664525) ∈ mk_wt := mk_wt_in 897 rfl (by decide +kernel)
set_option maxRecDepth 100000 in
theorem kc_World_78 : Cond.constant "LostSevens$World" 78 (1013904223) ∈ mk_wt := mk_wt_in 898 rfl (by decide +kernel)
set_option maxRecDepth 100000 in
theorem km_World_79 : Cond.methodLink "LostSevens$World" 79 (mk_nm n_Message_digitSet) ∈ mk_wt := mk_wt_in 1039 rfl (by decide +kernel)
set_option maxRecDepth 100000 in
theorem kn_Message_digitSet : Cond.instanceMethod (mk_nm n_Message_digitSet) ∈ mk_wt := mk_wt_in 1040 rfl (by decide +kernel)
set_option maxRecDepth 100000 in
theorem kv_Message_digitSet : Cond.selects (mk_nm n_Message_digitSet).cls (mk_nm n_Message_digitSet) (mk_nm n_Message_digitSet) ∈ mk_wt := mk_wt_in 1041 rfl (by decide +kernel)
set_option maxRecDepth 100000 in
theorem km_World_83 : Cond.methodLink "LostSevens$World" 83 (mk_nm n_World_showsWithout) ∈ mk_wt := mk_wt_in 1043 rfl (by decide +kernel)
set_option maxRecDepth 100000 in
theorem kn_World_showsWithout : Cond.instanceMethod (mk_nm n_World_showsWithout) ∈ mk_wt := mk_wt_in 1045 rfl (by decide +kernel)
set_option maxRecDepth 100000 in
theorem kv_World_showsWithout : Cond.selects (mk_nm n_World_showsWithout).cls (mk_nm n_World_showsWithout) (mk_nm n_World_showsWithout) ∈ mk_wt := mk_wt_sel 35 rfl (by decide +kernel)
set_option maxRecDepth 100000 in
theorem kf_World_87 : Cond.fieldLink "LostSevens$World" 87 RX3 (TX3 1).2.1 (TX3 1).2.2.1 ∈ mk_wt := mk_wt_in 57 rfl (by decide +kernel)
set_option maxRecDepth 100000 in
theorem kf_World_90 : Cond.fieldLink "LostSevens$World" 90 RX3 (TX3 0).2.1 (TX3 0).2.2.1 ∈ mk_wt := mk_wt_in 49 rfl (by decide +kernel)
set_option maxRecDepth 100000 in
theorem km_World_93 : Cond.methodLink "LostSevens$World" 93 (mk_nm n_Message_digitAt) ∈ mk_wt := mk_wt_in 1047 rfl (by decide +kernel)
set_option maxRecDepth 100000 in
theorem km_World_97 : Cond.methodLink "LostSevens$World" 97 (mk_nm n_Line_copyFrom) ∈ mk_wt := mk_wt_in 1074 rfl (by decide +kernel)
set_option maxRecDepth 100000 in
theorem kn_Line_copyFrom : Cond.instanceMethod (mk_nm n_Line_copyFrom) ∈ mk_wt := mk_wt_in 1075 rfl (by decide +kernel)
set_option maxRecDepth 100000 in
theorem kv_Line_copyFrom : Cond.selects (mk_nm n_Line_copyFrom).cls (mk_nm n_Line_copyFrom) (mk_nm n_Line_copyFrom) ∈ mk_wt := mk_wt_in 1076 rfl (by decide +kernel)
set_option maxRecDepth 100000 in
theorem km_World_101 : Cond.methodLink "LostSevens$World" 101 (mk_nm n_Rules_copyFrom) ∈ mk_wt := mk_wt_in 1078 rfl (by decide +kernel)
set_option maxRecDepth 100000 in
theorem kn_Rules_copyFrom : Cond.instanceMethod (mk_nm n_Rules_copyFrom) ∈ mk_wt := mk_wt_in 1079 rfl (by decide +kernel)
set_option maxRecDepth 100000 in
theorem kv_Rules_copyFrom : Cond.selects (mk_nm n_Rules_copyFrom).cls (mk_nm n_Rules_copyFrom) (mk_nm n_Rules_copyFrom) ∈ mk_wt := mk_wt_in 1080 rfl (by decide +kernel)
set_option maxRecDepth 100000 in
theorem km_World_104 : Cond.methodLink "LostSevens$World" 104 (mk_nm n_Message_copyFrom) ∈ mk_wt := mk_wt_in 1083 rfl (by decide +kernel)
set_option maxRecDepth 100000 in
theorem km_World_107 : Cond.methodLink "LostSevens$World" 107 arraycopyName ∈ mk_wt := mk_wt_in 1084 rfl (by decide +kernel)
set_option maxRecDepth 100000 in
theorem km_LS_3 : Cond.methodLink "LostSevens" 3 objectInit ∈ mk_wt := mk_wt_in 27 rfl (by decide +kernel)
set_option maxRecDepth 100000 in
theorem kk_LS_9 : Cond.classLink "LostSevens" 9 RX10 ∈ mk_wt := mk_wt_in 30 rfl (by decide +kernel)
set_option maxRecDepth 100000 in
theorem ki_World : Cond.instantiable RX10 17 ∈ mk_wt := mk_wt_in 31 rfl (by decide +kernel)
set_option maxRecDepth 100000 in
theorem kz_World : Cond.initialized RX10 ∈ mk_wt := mk_wt_in 2 rfl (by decide +kernel)
set_option maxRecDepth 100000 in
theorem km_LS_11 : Cond.methodLink "LostSevens" 11 (mk_nm n_World_init) ∈ mk_wt := mk_wt_in 32 rfl (by decide +kernel)
set_option maxRecDepth 100000 in
theorem kn_World_init : Cond.instanceMethod (mk_nm n_World_init) ∈ mk_wt := mk_wt_in 33 rfl (by decide +kernel)
set_option maxRecDepth 100000 in
theorem kf_LS_12 : Cond.fieldLink "LostSevens" 12 RX11 (TX11 0).2.1 (TX11 0).2.2.1 ∈ mk_wt := mk_wt_in 446 rfl (by decide +kernel)
set_option maxRecDepth 100000 in
theorem kk_LS_16 : Cond.classLink "LostSevens" 16 RX5 ∈ mk_wt := mk_wt_in 231 rfl (by decide +kernel)
set_option maxRecDepth 100000 in
theorem ki_Past : Cond.instantiable RX5 7 ∈ mk_wt := mk_wt_in 232 rfl (by decide +kernel)
set_option maxRecDepth 100000 in
theorem kz_Past : Cond.initialized RX5 ∈ mk_wt := mk_wt_in 6 rfl (by decide +kernel)
set_option maxRecDepth 100000 in
theorem km_LS_18 : Cond.methodLink "LostSevens" 18 (mk_nm n_Past_init) ∈ mk_wt := mk_wt_in 233 rfl (by decide +kernel)
set_option maxRecDepth 100000 in
theorem kn_Past_init : Cond.instanceMethod (mk_nm n_Past_init) ∈ mk_wt := mk_wt_in 234 rfl (by decide +kernel)
set_option maxRecDepth 100000 in
theorem kf_LS_19 : Cond.fieldLink "LostSevens" 19 RX11 (TX11 1).2.1 (TX11 1).2.2.1 ∈ mk_wt := mk_wt_in 447 rfl (by decide +kernel)
set_option maxRecDepth 100000 in
theorem kk_LS_23 : Cond.classLink "LostSevens" 23 RX9 ∈ mk_wt := mk_wt_in 266 rfl (by decide +kernel)
set_option maxRecDepth 100000 in
theorem ki_Tape : Cond.instantiable RX9 5 ∈ mk_wt := mk_wt_in 267 rfl (by decide +kernel)
set_option maxRecDepth 100000 in
theorem kz_Tape : Cond.initialized RX9 ∈ mk_wt := mk_wt_in 7 rfl (by decide +kernel)
set_option maxRecDepth 100000 in
theorem km_LS_25 : Cond.methodLink "LostSevens" 25 (mk_nm n_Tape_init) ∈ mk_wt := mk_wt_in 268 rfl (by decide +kernel)
set_option maxRecDepth 100000 in
theorem kn_Tape_init : Cond.instanceMethod (mk_nm n_Tape_init) ∈ mk_wt := mk_wt_in 269 rfl (by decide +kernel)
set_option maxRecDepth 100000 in
theorem kf_LS_26 : Cond.fieldLink "LostSevens" 26 RX11 (TX11 2).2.1 (TX11 2).2.2.1 ∈ mk_wt := mk_wt_in 448 rfl (by decide +kernel)
set_option maxRecDepth 100000 in
theorem kk_LS_30 : Cond.classLink "LostSevens" 30 RX4 ∈ mk_wt := mk_wt_in 292 rfl (by decide +kernel)
set_option maxRecDepth 100000 in
theorem ki_Parser : Cond.instantiable RX4 9 ∈ mk_wt := mk_wt_in 293 rfl (by decide +kernel)
set_option maxRecDepth 100000 in
theorem kz_Parser : Cond.initialized RX4 ∈ mk_wt := mk_wt_in 8 rfl (by decide +kernel)
set_option maxRecDepth 100000 in
theorem km_LS_32 : Cond.methodLink "LostSevens" 32 (mk_nm n_Parser_init) ∈ mk_wt := mk_wt_in 294 rfl (by decide +kernel)
set_option maxRecDepth 100000 in
theorem kn_Parser_init : Cond.instanceMethod (mk_nm n_Parser_init) ∈ mk_wt := mk_wt_in 295 rfl (by decide +kernel)
set_option maxRecDepth 100000 in
theorem kf_LS_35 : Cond.fieldLink "LostSevens" 35 RX11 (TX11 3).2.1 (TX11 3).2.2.1 ∈ mk_wt := mk_wt_in 449 rfl (by decide +kernel)
set_option maxRecDepth 100000 in
theorem kk_LS_39 : Cond.classLink "LostSevens" 39 RX0 ∈ mk_wt := mk_wt_in 330 rfl (by decide +kernel)
set_option maxRecDepth 100000 in
theorem ki_Clerk : Cond.instantiable RX0 3 ∈ mk_wt := mk_wt_in 331 rfl (by decide +kernel)
set_option maxRecDepth 100000 in
theorem kz_Clerk : Cond.initialized RX0 ∈ mk_wt := mk_wt_in 9 rfl (by decide +kernel)
set_option maxRecDepth 100000 in
theorem km_LS_41 : Cond.methodLink "LostSevens" 41 (mk_nm n_Clerk_init) ∈ mk_wt := mk_wt_in 332 rfl (by decide +kernel)
set_option maxRecDepth 100000 in
theorem kn_Clerk_init : Cond.instanceMethod (mk_nm n_Clerk_init) ∈ mk_wt := mk_wt_in 333 rfl (by decide +kernel)
set_option maxRecDepth 100000 in
theorem kf_LS_42 : Cond.fieldLink "LostSevens" 42 RX11 (TX11 4).2.1 (TX11 4).2.2.1 ∈ mk_wt := mk_wt_in 450 rfl (by decide +kernel)
set_option maxRecDepth 100000 in
theorem kk_LS_46 : Cond.classLink "LostSevens" 46 RX8 ∈ mk_wt := mk_wt_in 351 rfl (by decide +kernel)
set_option maxRecDepth 100000 in
theorem ki_Seeker : Cond.instantiable RX8 8 ∈ mk_wt := mk_wt_in 352 rfl (by decide +kernel)
set_option maxRecDepth 100000 in
theorem kz_Seeker : Cond.initialized RX8 ∈ mk_wt := mk_wt_in 10 rfl (by decide +kernel)
set_option maxRecDepth 100000 in
theorem km_LS_48 : Cond.methodLink "LostSevens" 48 (mk_nm n_Seeker_init) ∈ mk_wt := mk_wt_in 353 rfl (by decide +kernel)
set_option maxRecDepth 100000 in
theorem kn_Seeker_init : Cond.instanceMethod (mk_nm n_Seeker_init) ∈ mk_wt := mk_wt_in 354 rfl (by decide +kernel)
set_option maxRecDepth 100000 in
theorem kf_LS_51 : Cond.fieldLink "LostSevens" 51 RX11 (TX11 5).2.1 (TX11 5).2.2.1 ∈ mk_wt := mk_wt_in 451 rfl (by decide +kernel)
set_option maxRecDepth 100000 in
theorem kk_LS_55 : Cond.classLink "LostSevens" 55 RX1 ∈ mk_wt := mk_wt_in 386 rfl (by decide +kernel)
set_option maxRecDepth 100000 in
theorem ki_Coder : Cond.instantiable RX1 5 ∈ mk_wt := mk_wt_in 387 rfl (by decide +kernel)
set_option maxRecDepth 100000 in
theorem kz_Coder : Cond.initialized RX1 ∈ mk_wt := mk_wt_in 11 rfl (by decide +kernel)
set_option maxRecDepth 100000 in
theorem km_LS_57 : Cond.methodLink "LostSevens" 57 (mk_nm n_Coder_init) ∈ mk_wt := mk_wt_in 388 rfl (by decide +kernel)
set_option maxRecDepth 100000 in
theorem kn_Coder_init : Cond.instanceMethod (mk_nm n_Coder_init) ∈ mk_wt := mk_wt_in 389 rfl (by decide +kernel)
set_option maxRecDepth 100000 in
theorem kf_LS_58 : Cond.fieldLink "LostSevens" 58 RX11 (TX11 6).2.1 (TX11 6).2.2.1 ∈ mk_wt := mk_wt_in 452 rfl (by decide +kernel)
set_option maxRecDepth 100000 in
theorem kk_LS_62 : Cond.classLink "LostSevens" 62 RX6 ∈ mk_wt := mk_wt_in 411 rfl (by decide +kernel)
set_option maxRecDepth 100000 in
theorem ki_Router : Cond.instantiable RX6 7 ∈ mk_wt := mk_wt_in 412 rfl (by decide +kernel)
set_option maxRecDepth 100000 in
theorem kz_Router : Cond.initialized RX6 ∈ mk_wt := mk_wt_in 12 rfl (by decide +kernel)
set_option maxRecDepth 100000 in
theorem km_LS_64 : Cond.methodLink "LostSevens" 64 (mk_nm n_Router_init) ∈ mk_wt := mk_wt_in 413 rfl (by decide +kernel)
set_option maxRecDepth 100000 in
theorem kn_Router_init : Cond.instanceMethod (mk_nm n_Router_init) ∈ mk_wt := mk_wt_in 414 rfl (by decide +kernel)
set_option maxRecDepth 100000 in
theorem kf_LS_65 : Cond.fieldLink "LostSevens" 65 RX11 (TX11 7).2.1 (TX11 7).2.2.1 ∈ mk_wt := mk_wt_in 453 rfl (by decide +kernel)
set_option maxRecDepth 100000 in
theorem kk_LS_69 : Cond.classLink "LostSevens" 69 RX3 ∈ mk_wt := mk_wt_in 444 rfl (by decide +kernel)
set_option maxRecDepth 100000 in
theorem km_LS_71 : Cond.methodLink "LostSevens" 71 (mk_nm n_Message_init) ∈ mk_wt := mk_wt_in 445 rfl (by decide +kernel)
set_option maxRecDepth 100000 in
theorem kf_LS_72 : Cond.fieldLink "LostSevens" 72 RX11 (TX11 8).2.1 (TX11 8).2.2.1 ∈ mk_wt := mk_wt_in 454 rfl (by decide +kernel)
set_option maxRecDepth 100000 in
theorem kf_LS_76 : Cond.fieldLink "LostSevens" 76 RX11 (TX11 9).2.1 (TX11 9).2.2.1 ∈ mk_wt := mk_wt_in 455 rfl (by decide +kernel)
set_option maxRecDepth 100000 in
theorem kf_LS_80 : Cond.fieldLink "LostSevens" 80 RX11 (TX11 10).2.1 (TX11 10).2.2.1 ∈ mk_wt := mk_wt_in 456 rfl (by decide +kernel)
set_option maxRecDepth 100000 in
theorem kf_LS_83 : Cond.fieldLink "LostSevens" 83 RX10 (TX10 14).2.1 (TX10 14).2.2.1 ∈ mk_wt := mk_wt_in 189 rfl (by decide +kernel)
set_option maxRecDepth 100000 in
theorem km_LS_87 : Cond.methodLink "LostSevens" 87 (mk_nm n_LS_isStation) ∈ mk_wt := mk_wt_in 488 rfl (by decide +kernel)
set_option maxRecDepth 100000 in
theorem ks_LS_isStation : Cond.static (mk_nm n_LS_isStation) ∈ mk_wt := mk_wt_in 489 rfl (by decide +kernel)
set_option maxRecDepth 100000 in
theorem km_LS_91 : Cond.methodLink "LostSevens" 91 (mk_nm n_LS_isKind) ∈ mk_wt := mk_wt_in 491 rfl (by decide +kernel)
set_option maxRecDepth 100000 in
theorem ks_LS_isKind : Cond.static (mk_nm n_LS_isKind) ∈ mk_wt := mk_wt_in 492 rfl (by decide +kernel)
set_option maxRecDepth 100000 in
theorem km_LS_94 : Cond.methodLink "LostSevens" 94 (mk_nm n_LS_isSet) ∈ mk_wt := mk_wt_in 494 rfl (by decide +kernel)
set_option maxRecDepth 100000 in
theorem ks_LS_isSet : Cond.static (mk_nm n_LS_isSet) ∈ mk_wt := mk_wt_in 495 rfl (by decide +kernel)
set_option maxRecDepth 100000 in
theorem km_LS_97 : Cond.methodLink "LostSevens" 97 (mk_nm n_LS_isOdds) ∈ mk_wt := mk_wt_in 497 rfl (by decide +kernel)
set_option maxRecDepth 100000 in
theorem ks_LS_isOdds : Cond.static (mk_nm n_LS_isOdds) ∈ mk_wt := mk_wt_in 498 rfl (by decide +kernel)
set_option maxRecDepth 100000 in
theorem kf_LS_100 : Cond.fieldLink "LostSevens" 100 RX10 (TX10 10).2.1 (TX10 10).2.2.1 ∈ mk_wt := mk_wt_in 176 rfl (by decide +kernel)
set_option maxRecDepth 100000 in
theorem kf_LS_103 : Cond.fieldLink "LostSevens" 103 RX10 (TX10 0).2.1 (TX10 0).2.2.1 ∈ mk_wt := mk_wt_in 146 rfl (by decide +kernel)
set_option maxRecDepth 100000 in
theorem kf_LS_107 : Cond.fieldLink "LostSevens" 107 RX2 (TX2 0).2.1 (TX2 0).2.2.1 ∈ mk_wt := mk_wt_in 70 rfl (by decide +kernel)
set_option maxRecDepth 100000 in
theorem kf_LS_112 : Cond.fieldLink "LostSevens" 112 RX2 (TX2 1).2.1 (TX2 1).2.2.1 ∈ mk_wt := mk_wt_in 72 rfl (by decide +kernel)
set_option maxRecDepth 100000 in
theorem kf_LS_115 : Cond.fieldLink "LostSevens" 115 RX2 (TX2 2).2.1 (TX2 2).2.2.1 ∈ mk_wt := mk_wt_in 75 rfl (by decide +kernel)
set_option maxRecDepth 100000 in
theorem kf_LS_118 : Cond.fieldLink "LostSevens" 118 RX2 (TX2 3).2.1 (TX2 3).2.2.1 ∈ mk_wt := mk_wt_in 80 rfl (by decide +kernel)
set_option maxRecDepth 100000 in
theorem kf_LS_121 : Cond.fieldLink "LostSevens" 121 RX2 (TX2 4).2.1 (TX2 4).2.2.1 ∈ mk_wt := mk_wt_in 82 rfl (by decide +kernel)
set_option maxRecDepth 100000 in
theorem kf_LS_124 : Cond.fieldLink "LostSevens" 124 RX2 (TX2 5).2.1 (TX2 5).2.2.1 ∈ mk_wt := mk_wt_in 84 rfl (by decide +kernel)
set_option maxRecDepth 100000 in
theorem kf_LS_127 : Cond.fieldLink "LostSevens" 127 RX2 (TX2 6).2.1 (TX2 6).2.2.1 ∈ mk_wt := mk_wt_in 86 rfl (by decide +kernel)
set_option maxRecDepth 100000 in
theorem km_LS_130 : Cond.methodLink "LostSevens" 130 (mk_nm n_Past_forget) ∈ mk_wt := mk_wt_in 500 rfl (by decide +kernel)
set_option maxRecDepth 100000 in
theorem kn_Past_forget : Cond.instanceMethod (mk_nm n_Past_forget) ∈ mk_wt := mk_wt_in 501 rfl (by decide +kernel)
set_option maxRecDepth 100000 in
theorem kv_Past_forget : Cond.selects (mk_nm n_Past_forget).cls (mk_nm n_Past_forget) (mk_nm n_Past_forget) ∈ mk_wt := mk_wt_in 502 rfl (by decide +kernel)
set_option maxRecDepth 100000 in
theorem km_LS_133 : Cond.methodLink "LostSevens" 133 (mk_nm n_World_hasLine) ∈ mk_wt := mk_wt_in 508 rfl (by decide +kernel)
set_option maxRecDepth 100000 in
theorem kn_World_hasLine : Cond.instanceMethod (mk_nm n_World_hasLine) ∈ mk_wt := mk_wt_in 509 rfl (by decide +kernel)
set_option maxRecDepth 100000 in
theorem kv_World_hasLine : Cond.selects (mk_nm n_World_hasLine).cls (mk_nm n_World_hasLine) (mk_nm n_World_hasLine) ∈ mk_wt := mk_wt_in 510 rfl (by decide +kernel)
set_option maxRecDepth 100000 in
theorem km_LS_136 : Cond.methodLink "LostSevens" 136 (mk_nm n_LS_canBeSet) ∈ mk_wt := mk_wt_in 512 rfl (by decide +kernel)
set_option maxRecDepth 100000 in
theorem ks_LS_canBeSet : Cond.static (mk_nm n_LS_canBeSet) ∈ mk_wt := mk_wt_in 513 rfl (by decide +kernel)
set_option maxRecDepth 100000 in
theorem km_LS_140 : Cond.methodLink "LostSevens" 140 (mk_nm n_LS_isDigit) ∈ mk_wt := mk_wt_in 522 rfl (by decide +kernel)
set_option maxRecDepth 100000 in
theorem ks_LS_isDigit : Cond.static (mk_nm n_LS_isDigit) ∈ mk_wt := mk_wt_in 523 rfl (by decide +kernel)
set_option maxRecDepth 100000 in
theorem km_LS_143 : Cond.methodLink "LostSevens" 143 (mk_nm n_LS_messageOf) ∈ mk_wt := mk_wt_in 525 rfl (by decide +kernel)
set_option maxRecDepth 100000 in
theorem kn_LS_messageOf : Cond.instanceMethod (mk_nm n_LS_messageOf) ∈ mk_wt := mk_wt_in 527 rfl (by decide +kernel)
set_option maxRecDepth 100000 in
theorem kv_LS_messageOf : Cond.selects (mk_nm n_LS_messageOf).cls (mk_nm n_LS_messageOf) (mk_nm n_LS_messageOf) ∈ mk_wt := mk_wt_sel 0 rfl (by decide +kernel)
set_option maxRecDepth 100000 in
theorem kf_LS_147 : Cond.fieldLink "LostSevens" 147 RX3 (TX3 1).2.1 (TX3 1).2.2.1 ∈ mk_wt := mk_wt_in 56 rfl (by decide +kernel)
set_option maxRecDepth 100000 in
theorem km_LS_150 : Cond.methodLink "LostSevens" 150 (mk_nm n_Message_append) ∈ mk_wt := mk_wt_in 529 rfl (by decide +kernel)
set_option maxRecDepth 100000 in
theorem km_LS_154 : Cond.methodLink "LostSevens" 154 (mk_nm n_Message_clear) ∈ mk_wt := mk_wt_in 537 rfl (by decide +kernel)
set_option maxRecDepth 100000 in
theorem km_LS_157 : Cond.methodLink "LostSevens" 157 (mk_nm n_LS_lengthOrDigit) ∈ mk_wt := mk_wt_in 545 rfl (by decide +kernel)
set_option maxRecDepth 100000 in
theorem ks_LS_lengthOrDigit : Cond.static (mk_nm n_LS_lengthOrDigit) ∈ mk_wt := mk_wt_in 546 rfl (by decide +kernel)
set_option maxRecDepth 100000 in
theorem kf_LS_161 : Cond.fieldLink "LostSevens" 161 RX9 (TX9 1).2.1 (TX9 1).2.2.1 ∈ mk_wt := mk_wt_in 274 rfl (by decide +kernel)
set_option maxRecDepth 100000 in
theorem km_LS_162 : Cond.methodLink "LostSevens" 162 (mk_nm n_Tape_append) ∈ mk_wt := mk_wt_in 556 rfl (by decide +kernel)
set_option maxRecDepth 100000 in
theorem kn_Tape_append : Cond.instanceMethod (mk_nm n_Tape_append) ∈ mk_wt := mk_wt_in 557 rfl (by decide +kernel)
set_option maxRecDepth 100000 in
theorem kv_Tape_append : Cond.selects (mk_nm n_Tape_append).cls (mk_nm n_Tape_append) (mk_nm n_Tape_append) ∈ mk_wt := mk_wt_in 558 rfl (by decide +kernel)
set_option maxRecDepth 100000 in
theorem km_LS_163 : Cond.methodLink "LostSevens" 163 (mk_nm n_Parser_clearFault) ∈ mk_wt := mk_wt_in 568 rfl (by decide +kernel)
set_option maxRecDepth 100000 in
theorem kn_Parser_clearFault : Cond.instanceMethod (mk_nm n_Parser_clearFault) ∈ mk_wt := mk_wt_in 569 rfl (by decide +kernel)
set_option maxRecDepth 100000 in
theorem kv_Parser_clearFault : Cond.selects (mk_nm n_Parser_clearFault).cls (mk_nm n_Parser_clearFault) (mk_nm n_Parser_clearFault) ∈ mk_wt := mk_wt_in 570 rfl (by decide +kernel)
set_option maxRecDepth 100000 in
theorem km_LS_166 : Cond.methodLink "LostSevens" 166 (mk_nm n_Parser_readTape) ∈ mk_wt := mk_wt_in 572 rfl (by decide +kernel)
set_option maxRecDepth 100000 in
theorem kn_Parser_readTape : Cond.instanceMethod (mk_nm n_Parser_readTape) ∈ mk_wt := mk_wt_in 573 rfl (by decide +kernel)
set_option maxRecDepth 100000 in
theorem kv_Parser_readTape : Cond.selects (mk_nm n_Parser_readTape).cls (mk_nm n_Parser_readTape) (mk_nm n_Parser_readTape) ∈ mk_wt := mk_wt_in 574 rfl (by decide +kernel)
set_option maxRecDepth 100000 in
theorem kf_LS_170 : Cond.fieldLink "LostSevens" 170 RX10 (TX10 1).2.1 (TX10 1).2.2.1 ∈ mk_wt := mk_wt_in 152 rfl (by decide +kernel)
set_option maxRecDepth 100000 in
theorem km_LS_174 : Cond.methodLink "LostSevens" 174 (mk_nm n_Parser_exchange) ∈ mk_wt := mk_wt_in 801 rfl (by decide +kernel)
set_option maxRecDepth 100000 in
theorem kn_Parser_exchange : Cond.instanceMethod (mk_nm n_Parser_exchange) ∈ mk_wt := mk_wt_in 802 rfl (by decide +kernel)
set_option maxRecDepth 100000 in
theorem kv_Parser_exchange : Cond.selects (mk_nm n_Parser_exchange).cls (mk_nm n_Parser_exchange) (mk_nm n_Parser_exchange) ∈ mk_wt := mk_wt_in 803 rfl (by decide +kernel)
set_option maxRecDepth 100000 in
theorem kf_LS_178 : Cond.fieldLink "LostSevens" 178 RX7 (TX7 6).2.1 (TX7 6).2.2.1 ∈ mk_wt := mk_wt_in 125 rfl (by decide +kernel)
set_option maxRecDepth 100000 in
theorem kf_LS_183 : Cond.fieldLink "LostSevens" 183 RX4 (TX4 7).2.1 (TX4 7).2.2.1 ∈ mk_wt := mk_wt_in 308 rfl (by decide +kernel)
set_option maxRecDepth 100000 in
theorem kf_LS_186 : Cond.fieldLink "LostSevens" 186 RX4 (TX4 8).2.1 (TX4 8).2.2.1 ∈ mk_wt := mk_wt_in 310 rfl (by decide +kernel)
set_option maxRecDepth 100000 in
theorem km_LS_189 : Cond.methodLink "LostSevens" 189 (mk_nm n_LS_linesOfRoute) ∈ mk_wt := mk_wt_in 814 rfl (by decide +kernel)
set_option maxRecDepth 100000 in
theorem kn_LS_linesOfRoute : Cond.instanceMethod (mk_nm n_LS_linesOfRoute) ∈ mk_wt := mk_wt_in 816 rfl (by decide +kernel)
set_option maxRecDepth 100000 in
theorem kv_LS_linesOfRoute : Cond.selects (mk_nm n_LS_linesOfRoute).cls (mk_nm n_LS_linesOfRoute) (mk_nm n_LS_linesOfRoute) ∈ mk_wt := mk_wt_sel 19 rfl (by decide +kernel)
set_option maxRecDepth 100000 in
theorem km_LS_193 : Cond.methodLink "LostSevens" 193 (mk_nm n_Past_remember) ∈ mk_wt := mk_wt_in 822 rfl (by decide +kernel)
set_option maxRecDepth 100000 in
theorem kn_Past_remember : Cond.instanceMethod (mk_nm n_Past_remember) ∈ mk_wt := mk_wt_in 823 rfl (by decide +kernel)
set_option maxRecDepth 100000 in
theorem kv_Past_remember : Cond.selects (mk_nm n_Past_remember).cls (mk_nm n_Past_remember) (mk_nm n_Past_remember) ∈ mk_wt := mk_wt_in 824 rfl (by decide +kernel)
set_option maxRecDepth 100000 in
theorem kf_LS_197 : Cond.fieldLink "LostSevens" 197 RX10 (TX10 4).2.1 (TX10 4).2.2.1 ∈ mk_wt := mk_wt_in 162 rfl (by decide +kernel)
set_option maxRecDepth 100000 in
theorem kf_LS_200 : Cond.fieldLink "LostSevens" 200 RX10 (TX10 2).2.1 (TX10 2).2.2.1 ∈ mk_wt := mk_wt_in 156 rfl (by decide +kernel)
set_option maxRecDepth 100000 in
theorem km_LS_203 : Cond.methodLink "LostSevens" 203 (mk_nm n_Message_copyFrom) ∈ mk_wt := mk_wt_in 835 rfl (by decide +kernel)
set_option maxRecDepth 100000 in
theorem km_LS_207 : Cond.methodLink "LostSevens" 207 (mk_nm n_LS_carryForGood) ∈ mk_wt := mk_wt_in 836 rfl (by decide +kernel)
set_option maxRecDepth 100000 in
theorem kn_LS_carryForGood : Cond.instanceMethod (mk_nm n_LS_carryForGood) ∈ mk_wt := mk_wt_in 838 rfl (by decide +kernel)
set_option maxRecDepth 100000 in
theorem kv_LS_carryForGood : Cond.selects (mk_nm n_LS_carryForGood).cls (mk_nm n_LS_carryForGood) (mk_nm n_LS_carryForGood) ∈ mk_wt := mk_wt_sel 20 rfl (by decide +kernel)
set_option maxRecDepth 100000 in
theorem kf_LS_211 : Cond.fieldLink "LostSevens" 211 RX10 (TX10 16).2.1 (TX10 16).2.2.1 ∈ mk_wt := mk_wt_in 195 rfl (by decide +kernel)
set_option maxRecDepth 100000 in
theorem km_LS_215 : Cond.methodLink "LostSevens" 215 (mk_nm n_Message_value) ∈ mk_wt := mk_wt_in 883 rfl (by decide +kernel)
set_option maxRecDepth 100000 in
theorem kn_Message_value : Cond.instanceMethod (mk_nm n_Message_value) ∈ mk_wt := mk_wt_in 884 rfl (by decide +kernel)
set_option maxRecDepth 100000 in
theorem kv_Message_value : Cond.selects (mk_nm n_Message_value).cls (mk_nm n_Message_value) (mk_nm n_Message_value) ∈ mk_wt := mk_wt_in 885 rfl (by decide +kernel)
set_option maxRecDepth 100000 in
theorem kf_LS_219 : Cond.fieldLink "LostSevens" 219 RX10 (TX10 15).2.1 (TX10 15).2.2.1 ∈ mk_wt := mk_wt_in 192 rfl (by decide +kernel)
set_option maxRecDepth 100000 in
theorem kf_LS_222 : Cond.fieldLink "LostSevens" 222 RX10 (TX10 13).2.1 (TX10 13).2.2.1 ∈ mk_wt := mk_wt_in 187 rfl (by decide +kernel)
set_option maxRecDepth 100000 in
theorem km_LS_225 : Cond.methodLink "LostSevens" 225 (mk_nm n_World_drawThousand) ∈ mk_wt := mk_wt_in 893 rfl (by decide +kernel)
set_option maxRecDepth 100000 in
theorem kn_World_drawThousand : Cond.instanceMethod (mk_nm n_World_drawThousand) ∈ mk_wt := mk_wt_in 894 rfl (by decide +kernel)
set_option maxRecDepth 100000 in
theorem kv_World_drawThousand : Cond.selects (mk_nm n_World_drawThousand).cls (mk_nm n_World_drawThousand) (mk_nm n_World_drawThousand) ∈ mk_wt := mk_wt_in 895 rfl (by decide +kernel)
set_option maxRecDepth 100000 in
theorem kf_LS_229 : Cond.fieldLink "LostSevens" 229 RX10 (TX10 5).2.1 (TX10 5).2.2.1 ∈ mk_wt := mk_wt_in 165 rfl (by decide +kernel)
set_option maxRecDepth 100000 in
theorem kf_LS_232 : Cond.fieldLink "LostSevens" 232 RX10 (TX10 11).2.1 (TX10 11).2.2.1 ∈ mk_wt := mk_wt_in 179 rfl (by decide +kernel)
set_option maxRecDepth 100000 in
theorem kf_LS_235 : Cond.fieldLink "LostSevens" 235 RX10 (TX10 6).2.1 (TX10 6).2.2.1 ∈ mk_wt := mk_wt_in 167 rfl (by decide +kernel)
set_option maxRecDepth 100000 in
theorem km_LS_238 : Cond.methodLink "LostSevens" 238 (mk_nm n_LS_isFlag) ∈ mk_wt := mk_wt_in 515 rfl (by decide +kernel)
set_option maxRecDepth 100000 in
theorem ks_LS_isFlag : Cond.static (mk_nm n_LS_isFlag) ∈ mk_wt := mk_wt_in 516 rfl (by decide +kernel)
set_option maxRecDepth 100000 in
theorem km_LS_241 : Cond.methodLink "LostSevens" 241 (mk_nm n_Clerk_carry) ∈ mk_wt := mk_wt_in 840 rfl (by decide +kernel)
set_option maxRecDepth 100000 in
theorem km_LS_245 : Cond.methodLink "LostSevens" 245 (mk_nm n_Seeker_wantSeen) ∈ mk_wt := mk_wt_in 919 rfl (by decide +kernel)
set_option maxRecDepth 100000 in
theorem kn_Seeker_wantSeen : Cond.instanceMethod (mk_nm n_Seeker_wantSeen) ∈ mk_wt := mk_wt_in 920 rfl (by decide +kernel)
set_option maxRecDepth 100000 in
theorem kv_Seeker_wantSeen : Cond.selects (mk_nm n_Seeker_wantSeen).cls (mk_nm n_Seeker_wantSeen) (mk_nm n_Seeker_wantSeen) ∈ mk_wt := mk_wt_in 921 rfl (by decide +kernel)
set_option maxRecDepth 100000 in
theorem km_LS_248 : Cond.methodLink "LostSevens" 248 (mk_nm n_Seeker_seek) ∈ mk_wt := mk_wt_in 924 rfl (by decide +kernel)
set_option maxRecDepth 100000 in
theorem kn_Seeker_seek : Cond.instanceMethod (mk_nm n_Seeker_seek) ∈ mk_wt := mk_wt_in 925 rfl (by decide +kernel)
set_option maxRecDepth 100000 in
theorem kv_Seeker_seek : Cond.selects (mk_nm n_Seeker_seek).cls (mk_nm n_Seeker_seek) (mk_nm n_Seeker_seek) ∈ mk_wt := mk_wt_in 926 rfl (by decide +kernel)
set_option maxRecDepth 100000 in
theorem kf_LS_252 : Cond.fieldLink "LostSevens" 252 RX8 (TX8 5).2.1 (TX8 5).2.2.1 ∈ mk_wt := mk_wt_in 366 rfl (by decide +kernel)
set_option maxRecDepth 100000 in
theorem kf_LS_255 : Cond.fieldLink "LostSevens" 255 RX8 (TX8 4).2.1 (TX8 4).2.2.1 ∈ mk_wt := mk_wt_in 364 rfl (by decide +kernel)
set_option maxRecDepth 100000 in
theorem km_LS_257 : Cond.methodLink "LostSevens" 257 (mk_nm n_LS_digitOfRow) ∈ mk_wt := mk_wt_in 960 rfl (by decide +kernel)
set_option maxRecDepth 100000 in
theorem ks_LS_digitOfRow : Cond.static (mk_nm n_LS_digitOfRow) ∈ mk_wt := mk_wt_in 961 rfl (by decide +kernel)
set_option maxRecDepth 100000 in
theorem km_LS_260 : Cond.methodLink "LostSevens" 260 (mk_nm n_Seeker_wantTwin) ∈ mk_wt := mk_wt_in 967 rfl (by decide +kernel)
set_option maxRecDepth 100000 in
theorem kn_Seeker_wantTwin : Cond.instanceMethod (mk_nm n_Seeker_wantTwin) ∈ mk_wt := mk_wt_in 968 rfl (by decide +kernel)
set_option maxRecDepth 100000 in
theorem kv_Seeker_wantTwin : Cond.selects (mk_nm n_Seeker_wantTwin).cls (mk_nm n_Seeker_wantTwin) (mk_nm n_Seeker_wantTwin) ∈ mk_wt := mk_wt_in 969 rfl (by decide +kernel)
set_option maxRecDepth 100000 in
theorem km_LS_264 : Cond.methodLink "LostSevens" 264 (mk_nm n_Coder_findLength) ∈ mk_wt := mk_wt_in 976 rfl (by decide +kernel)
set_option maxRecDepth 100000 in
theorem kn_Coder_findLength : Cond.instanceMethod (mk_nm n_Coder_findLength) ∈ mk_wt := mk_wt_in 977 rfl (by decide +kernel)
set_option maxRecDepth 100000 in
theorem kv_Coder_findLength : Cond.selects (mk_nm n_Coder_findLength).cls (mk_nm n_Coder_findLength) (mk_nm n_Coder_findLength) ∈ mk_wt := mk_wt_in 978 rfl (by decide +kernel)
set_option maxRecDepth 100000 in
theorem kf_LS_268 : Cond.fieldLink "LostSevens" 268 RX1 (TX1 4).2.1 (TX1 4).2.2.1 ∈ mk_wt := mk_wt_in 399 rfl (by decide +kernel)
set_option maxRecDepth 100000 in
theorem km_LS_271 : Cond.methodLink "LostSevens" 271 (mk_nm n_Router_search) ∈ mk_wt := mk_wt_in 1003 rfl (by decide +kernel)
set_option maxRecDepth 100000 in
theorem kn_Router_search : Cond.instanceMethod (mk_nm n_Router_search) ∈ mk_wt := mk_wt_in 1004 rfl (by decide +kernel)
set_option maxRecDepth 100000 in
theorem kv_Router_search : Cond.selects (mk_nm n_Router_search).cls (mk_nm n_Router_search) (mk_nm n_Router_search) ∈ mk_wt := mk_wt_in 1005 rfl (by decide +kernel)
set_option maxRecDepth 100000 in
theorem kf_LS_275 : Cond.fieldLink "LostSevens" 275 RX6 (TX6 5).2.1 (TX6 5).2.2.1 ∈ mk_wt := mk_wt_in 427 rfl (by decide +kernel)
set_option maxRecDepth 100000 in
theorem kf_LS_278 : Cond.fieldLink "LostSevens" 278 RX6 (TX6 4).2.1 (TX6 4).2.2.1 ∈ mk_wt := mk_wt_in 425 rfl (by decide +kernel)
set_option maxRecDepth 100000 in
theorem kf_LS_281 : Cond.fieldLink "LostSevens" 281 RX6 (TX6 3).2.1 (TX6 3).2.2.1 ∈ mk_wt := mk_wt_in 423 rfl (by decide +kernel)
set_option maxRecDepth 100000 in
theorem km_LS_284 : Cond.methodLink "LostSevens" 284 (mk_nm n_Clerk_translate) ∈ mk_wt := mk_wt_in 1029 rfl (by decide +kernel)
set_option maxRecDepth 100000 in
theorem kf_LS_288 : Cond.fieldLink "LostSevens" 288 RX0 (TX0 0).2.1 (TX0 0).2.2.1 ∈ mk_wt := mk_wt_in 341 rfl (by decide +kernel)
set_option maxRecDepth 100000 in
theorem kf_LS_291 : Cond.fieldLink "LostSevens" 291 RX10 (TX10 3).2.1 (TX10 3).2.2.1 ∈ mk_wt := mk_wt_in 159 rfl (by decide +kernel)
set_option maxRecDepth 100000 in
theorem km_LS_294 : Cond.methodLink "LostSevens" 294 (mk_nm n_Message_sameAs) ∈ mk_wt := mk_wt_in 1030 rfl (by decide +kernel)
set_option maxRecDepth 100000 in
theorem kf_LS_298 : Cond.fieldLink "LostSevens" 298 RX10 (TX10 12).2.1 (TX10 12).2.2.1 ∈ mk_wt := mk_wt_in 181 rfl (by decide +kernel)
set_option maxRecDepth 100000 in
theorem km_LS_301 : Cond.methodLink "LostSevens" 301 (mk_nm n_World_keepLook) ∈ mk_wt := mk_wt_in 1035 rfl (by decide +kernel)
set_option maxRecDepth 100000 in
theorem kn_World_keepLook : Cond.instanceMethod (mk_nm n_World_keepLook) ∈ mk_wt := mk_wt_in 1036 rfl (by decide +kernel)
set_option maxRecDepth 100000 in
theorem kv_World_keepLook : Cond.selects (mk_nm n_World_keepLook).cls (mk_nm n_World_keepLook) (mk_nm n_World_keepLook) ∈ mk_wt := mk_wt_in 1037 rfl (by decide +kernel)
set_option maxRecDepth 100000 in
theorem kf_LS_304 : Cond.fieldLink "LostSevens" 304 RX10 (TX10 7).2.1 (TX10 7).2.2.1 ∈ mk_wt := mk_wt_in 169 rfl (by decide +kernel)
set_option maxRecDepth 100000 in
theorem kf_LS_307 : Cond.fieldLink "LostSevens" 307 RX10 (TX10 8).2.1 (TX10 8).2.2.1 ∈ mk_wt := mk_wt_in 171 rfl (by decide +kernel)
set_option maxRecDepth 100000 in
theorem kf_LS_310 : Cond.fieldLink "LostSevens" 310 RX10 (TX10 9).2.1 (TX10 9).2.2.1 ∈ mk_wt := mk_wt_in 173 rfl (by decide +kernel)
set_option maxRecDepth 100000 in
theorem km_LS_313 : Cond.methodLink "LostSevens" 313 (mk_nm n_Int_bitCount) ∈ mk_wt := mk_wt_in 1052 rfl (by decide +kernel)
set_option maxRecDepth 100000 in
theorem ks_Int_bitCount : Cond.static (mk_nm n_Int_bitCount) ∈ mk_wt := mk_wt_in 1053 rfl (by decide +kernel)
set_option maxRecDepth 100000 in
theorem km_LS_318 : Cond.methodLink "LostSevens" 318 (mk_nm n_Past_goBack) ∈ mk_wt := mk_wt_in 1062 rfl (by decide +kernel)
set_option maxRecDepth 100000 in
theorem kn_Past_goBack : Cond.instanceMethod (mk_nm n_Past_goBack) ∈ mk_wt := mk_wt_in 1063 rfl (by decide +kernel)
set_option maxRecDepth 100000 in
theorem kv_Past_goBack : Cond.selects (mk_nm n_Past_goBack).cls (mk_nm n_Past_goBack) (mk_nm n_Past_goBack) ∈ mk_wt := mk_wt_in 1064 rfl (by decide +kernel)
set_option maxRecDepth 100000 in
theorem km_LS_322 : Cond.methodLink "LostSevens" 322 (mk_nm n_World_copyFrom) ∈ mk_wt := mk_wt_in 1070 rfl (by decide +kernel)
set_option maxRecDepth 100000 in
theorem kn_World_copyFrom : Cond.instanceMethod (mk_nm n_World_copyFrom) ∈ mk_wt := mk_wt_in 1071 rfl (by decide +kernel)
set_option maxRecDepth 100000 in
theorem kv_World_copyFrom : Cond.selects (mk_nm n_World_copyFrom).cls (mk_nm n_World_copyFrom) (mk_nm n_World_copyFrom) ∈ mk_wt := mk_wt_in 1072 rfl (by decide +kernel)
set_option maxRecDepth 100000 in
theorem kf_LS_324 : Cond.fieldLink "LostSevens" 324 RX5 (TX5 6).2.1 (TX5 6).2.2.1 ∈ mk_wt := mk_wt_in 249 rfl (by decide +kernel)
set_option maxRecDepth 100000 in
theorem km_LS_325 : Cond.methodLink "LostSevens" 325 (mk_nm n_Message_digitAt) ∈ mk_wt := mk_wt_in 548 rfl (by decide +kernel)
set_option maxRecDepth 100000 in
theorem km_LS_329 : Cond.methodLink "LostSevens" 329 (mk_nm n_Line_otherEnd) ∈ mk_wt := mk_wt_in 818 rfl (by decide +kernel)
set_option maxRecDepth 100000 in
theorem km_LS_332 : Cond.methodLink "LostSevens" 332 (mk_nm n_Line_lostDigits) ∈ mk_wt := mk_wt_in 878 rfl (by decide +kernel)
set_option maxRecDepth 100000 in
theorem kf_LS_335 : Cond.fieldLink "LostSevens" 335 RX3 (TX3 0).2.1 (TX3 0).2.2.1 ∈ mk_wt := mk_wt_in 51 rfl (by decide +kernel)
set_option maxRecDepth 100000 in
theorem km_LS_338 : Cond.methodLink "LostSevens" 338 (mk_nm n_World_keepLoss) ∈ mk_wt := mk_wt_in 879 rfl (by decide +kernel)
set_option maxRecDepth 100000 in
theorem kn_World_keepLoss : Cond.instanceMethod (mk_nm n_World_keepLoss) ∈ mk_wt := mk_wt_in 880 rfl (by decide +kernel)
set_option maxRecDepth 100000 in
theorem kv_World_keepLoss : Cond.selects (mk_nm n_World_keepLoss).cls (mk_nm n_World_keepLoss) (mk_nm n_World_keepLoss) ∈ mk_wt := mk_wt_in 881 rfl (by decide +kernel)
set_option maxRecDepth 100000 in
theorem km_Mo_1 : Cond.methodLink "LostSevensModel" 1 objectInit ∈ mk_wt := mk_wt_in 1094 rfl (by decide +kernel)
set_option maxRecDepth 100000 in
theorem kf_Mo_7 : Cond.fieldLink "LostSevensModel" 7 RX12 (TX12 0).2.1 (TX12 0).2.2.1 ∈ mk_wt := mk_wt_in 1095 rfl (by decide +kernel)
set_option maxRecDepth 100000 in
theorem kf_Mo_13 : Cond.fieldLink "LostSevensModel" 13 RX12 (TX12 1).2.1 (TX12 1).2.2.1 ∈ mk_wt := mk_wt_in 1096 rfl (by decide +kernel)
set_option maxRecDepth 100000 in
theorem kf_Mo_16 : Cond.fieldLink "LostSevensModel" 16 RX12 (TX12 2).2.1 (TX12 2).2.2.1 ∈ mk_wt := mk_wt_in 1097 rfl (by decide +kernel)
set_option maxRecDepth 100000 in
theorem kf_Mo_19 : Cond.fieldLink "LostSevensModel" 19 RX12 (TX12 3).2.1 (TX12 3).2.2.1 ∈ mk_wt := mk_wt_in 1098 rfl (by decide +kernel)
set_option maxRecDepth 100000 in
theorem kf_Mo_23 : Cond.fieldLink "LostSevensModel" 23 RX12 (TX12 8).2.1 (TX12 8).2.2.1 ∈ mk_wt := mk_wt_in 1103 rfl (by decide +kernel)
set_option maxRecDepth 100000 in
theorem kf_Mo_26 : Cond.fieldLink "LostSevensModel" 26 RX12 (TX12 9).2.1 (TX12 9).2.2.1 ∈ mk_wt := mk_wt_in 1104 rfl (by decide +kernel)
set_option maxRecDepth 100000 in
theorem kf_Mo_29 : Cond.fieldLink "LostSevensModel" 29 RX12 (TX12 10).2.1 (TX12 10).2.2.1 ∈ mk_wt := mk_wt_in 1105 rfl (by decide +kernel)
set_option maxRecDepth 100000 in
theorem kf_Mo_32 : Cond.fieldLink "LostSevensModel" 32 RX12 (TX12 11).2.1 (TX12 11).2.2.1 ∈ mk_wt := mk_wt_in 1106 rfl (by decide +kernel)
set_option maxRecDepth 100000 in
theorem kf_Mo_35 : Cond.fieldLink "LostSevensModel" 35 RX12 (TX12 12).2.1 (TX12 12).2.2.1 ∈ mk_wt := mk_wt_in 1107 rfl (by decide +kernel)
set_option maxRecDepth 100000 in
theorem kf_Mo_38 : Cond.fieldLink "LostSevensModel" 38 RX12 (TX12 24).2.1 (TX12 24).2.2.1 ∈ mk_wt := mk_wt_in 1119 rfl (by decide +kernel)
set_option maxRecDepth 100000 in
theorem kf_Mo_42 : Cond.fieldLink "LostSevensModel" 42 RX12 (TX12 25).2.1 (TX12 25).2.2.1 ∈ mk_wt := mk_wt_in 1120 rfl (by decide +kernel)
set_option maxRecDepth 100000 in
theorem kf_Mo_45 : Cond.fieldLink "LostSevensModel" 45 RX12 (TX12 26).2.1 (TX12 26).2.2.1 ∈ mk_wt := mk_wt_in 1121 rfl (by decide +kernel)
set_option maxRecDepth 100000 in
theorem kf_Mo_48 : Cond.fieldLink "LostSevensModel" 48 RX12 (TX12 29).2.1 (TX12 29).2.2.1 ∈ mk_wt := mk_wt_in 1124 rfl (by decide +kernel)
set_option maxRecDepth 100000 in
theorem kf_Mo_51 : Cond.fieldLink "LostSevensModel" 51 RX12 (TX12 30).2.1 (TX12 30).2.2.1 ∈ mk_wt := mk_wt_in 1125 rfl (by decide +kernel)
set_option maxRecDepth 100000 in
theorem kf_Mo_54 : Cond.fieldLink "LostSevensModel" 54 RX12 (TX12 31).2.1 (TX12 31).2.2.1 ∈ mk_wt := mk_wt_in 1126 rfl (by decide +kernel)
set_option maxRecDepth 100000 in
theorem kf_Mo_57 : Cond.fieldLink "LostSevensModel" 57 RX12 (TX12 32).2.1 (TX12 32).2.2.1 ∈ mk_wt := mk_wt_in 1127 rfl (by decide +kernel)
set_option maxRecDepth 100000 in
theorem kf_Mo_60 : Cond.fieldLink "LostSevensModel" 60 RX12 (TX12 34).2.1 (TX12 34).2.2.1 ∈ mk_wt := mk_wt_in 1129 rfl (by decide +kernel)
set_option maxRecDepth 100000 in
theorem kf_Mo_63 : Cond.fieldLink "LostSevensModel" 63 RX12 (TX12 35).2.1 (TX12 35).2.2.1 ∈ mk_wt := mk_wt_in 1130 rfl (by decide +kernel)
set_option maxRecDepth 100000 in
theorem kf_Mo_66 : Cond.fieldLink "LostSevensModel" 66 RX12 (TX12 36).2.1 (TX12 36).2.2.1 ∈ mk_wt := mk_wt_in 1131 rfl (by decide +kernel)
set_option maxRecDepth 100000 in
theorem kf_Mo_69 : Cond.fieldLink "LostSevensModel" 69 RX12 (TX12 37).2.1 (TX12 37).2.2.1 ∈ mk_wt := mk_wt_in 1132 rfl (by decide +kernel)
set_option maxRecDepth 100000 in
theorem km_Mo_72 : Cond.methodLink "LostSevensModel" 72 (mk_nm n_Mo_isIn) ∈ mk_wt := mk_wt_in 1227 rfl (by decide +kernel)
set_option maxRecDepth 100000 in
theorem ks_Mo_isIn : Cond.static (mk_nm n_Mo_isIn) ∈ mk_wt := mk_wt_in 1228 rfl (by decide +kernel)
set_option maxRecDepth 100000 in
theorem kc_Mo_76 : Cond.constant "LostSevensModel" 76 (1664525) ∈ mk_wt := mk_wt_in 1420 rfl (by decide +kernel)
set_option maxRecDepth 100000 in
theorem kc_Mo_77 : Cond.constant "LostSevensModel" 77 (1013904223) ∈ mk_wt := mk_wt_in 1421 rfl (by decide +kernel)
set_option maxRecDepth 100000 in
theorem km_Mo_78 : Cond.methodLink "LostSevensModel" 78 (mk_nm n_Mo_isStation) ∈ mk_wt := mk_wt_in 1224 rfl (by decide +kernel)
set_option maxRecDepth 100000 in
theorem ks_Mo_isStation : Cond.static (mk_nm n_Mo_isStation) ∈ mk_wt := mk_wt_in 1225 rfl (by decide +kernel)
set_option maxRecDepth 100000 in
theorem km_Mo_82 : Cond.methodLink "LostSevensModel" 82 (mk_nm n_Mo_gives) ∈ mk_wt := mk_wt_in 1230 rfl (by decide +kernel)
set_option maxRecDepth 100000 in
theorem kn_Mo_gives : Cond.instanceMethod (mk_nm n_Mo_gives) ∈ mk_wt := mk_wt_in 1232 rfl (by decide +kernel)
set_option maxRecDepth 100000 in
theorem kv_Mo_gives : Cond.selects (mk_nm n_Mo_gives).cls (mk_nm n_Mo_gives) (mk_nm n_Mo_gives) ∈ mk_wt := mk_wt_sel 36 rfl (by decide +kernel)
set_option maxRecDepth 100000 in
theorem kf_Mo_86 : Cond.fieldLink "LostSevensModel" 86 RX12 (TX12 4).2.1 (TX12 4).2.2.1 ∈ mk_wt := mk_wt_in 1099 rfl (by decide +kernel)
set_option maxRecDepth 100000 in
theorem km_Mo_89 : Cond.methodLink "LostSevensModel" 89 (mk_nm n_Mo_isLine) ∈ mk_wt := mk_wt_in 1238 rfl (by decide +kernel)
set_option maxRecDepth 100000 in
theorem kn_Mo_isLine : Cond.instanceMethod (mk_nm n_Mo_isLine) ∈ mk_wt := mk_wt_in 1240 rfl (by decide +kernel)
set_option maxRecDepth 100000 in
theorem kv_Mo_isLine : Cond.selects (mk_nm n_Mo_isLine).cls (mk_nm n_Mo_isLine) (mk_nm n_Mo_isLine) ∈ mk_wt := mk_wt_sel 37 rfl (by decide +kernel)
set_option maxRecDepth 100000 in
theorem kf_Mo_92 : Cond.fieldLink "LostSevensModel" 92 RX12 (TX12 15).2.1 (TX12 15).2.2.1 ∈ mk_wt := mk_wt_in 1110 rfl (by decide +kernel)
set_option maxRecDepth 100000 in
theorem kf_Mo_95 : Cond.fieldLink "LostSevensModel" 95 RX12 (TX12 16).2.1 (TX12 16).2.2.1 ∈ mk_wt := mk_wt_in 1111 rfl (by decide +kernel)
set_option maxRecDepth 100000 in
theorem kf_Mo_98 : Cond.fieldLink "LostSevensModel" 98 RX12 (TX12 18).2.1 (TX12 18).2.2.1 ∈ mk_wt := mk_wt_in 1113 rfl (by decide +kernel)
set_option maxRecDepth 100000 in
theorem km_Mo_101 : Cond.methodLink "LostSevensModel" 101 (mk_nm n_Str_length) ∈ mk_wt := mk_wt_in 1286 rfl (by decide +kernel)
set_option maxRecDepth 100000 in
theorem kn_Str_length : Cond.instanceMethod (mk_nm n_Str_length) ∈ mk_wt := mk_wt_in 664 rfl (by decide +kernel)
set_option maxRecDepth 100000 in
theorem kv_Str_length : Cond.selects (mk_nm n_Str_length).cls (mk_nm n_Str_length) (mk_nm n_Str_length) ∈ mk_wt := mk_wt_in 665 rfl (by decide +kernel)
set_option maxRecDepth 100000 in
theorem km_Mo_107 : Cond.methodLink "LostSevensModel" 107 (mk_nm n_Str_charAt) ∈ mk_wt := mk_wt_in 1287 rfl (by decide +kernel)
set_option maxRecDepth 100000 in
theorem km_Mo_113 : Cond.methodLink "LostSevensModel" 113 (mk_nm n_Mo_is) ∈ mk_wt := mk_wt_in 1282 rfl (by decide +kernel)
set_option maxRecDepth 100000 in
theorem kn_Mo_is : Cond.instanceMethod (mk_nm n_Mo_is) ∈ mk_wt := mk_wt_in 1284 rfl (by decide +kernel)
set_option maxRecDepth 100000 in
theorem kv_Mo_is : Cond.selects (mk_nm n_Mo_is).cls (mk_nm n_Mo_is) (mk_nm n_Mo_is) ∈ mk_wt := mk_wt_sel 41 rfl (by decide +kernel)
set_option maxRecDepth 100000 in
theorem km_Mo_138 : Cond.methodLink "LostSevensModel" 138 (mk_nm n_Mo_nameWord) ∈ mk_wt := mk_wt_in 1293 rfl (by decide +kernel)
set_option maxRecDepth 100000 in
theorem kn_Mo_nameWord : Cond.instanceMethod (mk_nm n_Mo_nameWord) ∈ mk_wt := mk_wt_in 1295 rfl (by decide +kernel)
set_option maxRecDepth 100000 in
theorem kv_Mo_nameWord : Cond.selects (mk_nm n_Mo_nameWord).cls (mk_nm n_Mo_nameWord) (mk_nm n_Mo_nameWord) ∈ mk_wt := mk_wt_sel 42 rfl (by decide +kernel)
set_option maxRecDepth 100000 in
theorem km_Mo_141 : Cond.methodLink "LostSevensModel" 141 (mk_nm n_Mo_see) ∈ mk_wt := mk_wt_in 1270 rfl (by decide +kernel)
set_option maxRecDepth 100000 in
theorem kn_Mo_see : Cond.instanceMethod (mk_nm n_Mo_see) ∈ mk_wt := mk_wt_in 1272 rfl (by decide +kernel)
set_option maxRecDepth 100000 in
theorem kv_Mo_see : Cond.selects (mk_nm n_Mo_see).cls (mk_nm n_Mo_see) (mk_nm n_Mo_see) ∈ mk_wt := mk_wt_sel 39 rfl (by decide +kernel)
set_option maxRecDepth 100000 in
theorem kf_Mo_145 : Cond.fieldLink "LostSevensModel" 145 RX12 (TX12 17).2.1 (TX12 17).2.2.1 ∈ mk_wt := mk_wt_in 1112 rfl (by decide +kernel)
set_option maxRecDepth 100000 in
theorem km_Mo_148 : Cond.methodLink "LostSevensModel" 148 (mk_nm n_Mo_isLetter) ∈ mk_wt := mk_wt_in 1274 rfl (by decide +kernel)
set_option maxRecDepth 100000 in
theorem ks_Mo_isLetter : Cond.static (mk_nm n_Mo_isLetter) ∈ mk_wt := mk_wt_in 1275 rfl (by decide +kernel)
set_option maxRecDepth 100000 in
theorem km_Mo_151 : Cond.methodLink "LostSevensModel" 151 (mk_nm n_Mo_word) ∈ mk_wt := mk_wt_in 1277 rfl (by decide +kernel)
set_option maxRecDepth 100000 in
theorem kn_Mo_word : Cond.instanceMethod (mk_nm n_Mo_word) ∈ mk_wt := mk_wt_in 1279 rfl (by decide +kernel)
set_option maxRecDepth 100000 in
theorem kv_Mo_word : Cond.selects (mk_nm n_Mo_word).cls (mk_nm n_Mo_word) (mk_nm n_Mo_word) ∈ mk_wt := mk_wt_sel 40 rfl (by decide +kernel)
set_option maxRecDepth 100000 in
theorem km_Mo_154 : Cond.methodLink "LostSevensModel" 154 (mk_nm n_Mo_isDigit) ∈ mk_wt := mk_wt_in 1303 rfl (by decide +kernel)
set_option maxRecDepth 100000 in
theorem ks_Mo_isDigit : Cond.static (mk_nm n_Mo_isDigit) ∈ mk_wt := mk_wt_in 1304 rfl (by decide +kernel)
set_option maxRecDepth 100000 in
theorem kf_Mo_157 : Cond.fieldLink "LostSevensModel" 157 RX12 (TX12 19).2.1 (TX12 19).2.2.1 ∈ mk_wt := mk_wt_in 1114 rfl (by decide +kernel)
set_option maxRecDepth 100000 in
theorem kf_Mo_160 : Cond.fieldLink "LostSevensModel" 160 RX12 (TX12 20).2.1 (TX12 20).2.2.1 ∈ mk_wt := mk_wt_in 1115 rfl (by decide +kernel)
set_option maxRecDepth 100000 in
theorem kf_Mo_163 : Cond.fieldLink "LostSevensModel" 163 RX12 (TX12 21).2.1 (TX12 21).2.2.1 ∈ mk_wt := mk_wt_in 1116 rfl (by decide +kernel)
set_option maxRecDepth 100000 in
theorem km_Mo_166 : Cond.methodLink "LostSevensModel" 166 (mk_nm n_Mo_bad) ∈ mk_wt := mk_wt_in 1310 rfl (by decide +kernel)
set_option maxRecDepth 100000 in
theorem kn_Mo_bad : Cond.instanceMethod (mk_nm n_Mo_bad) ∈ mk_wt := mk_wt_in 1312 rfl (by decide +kernel)
set_option maxRecDepth 100000 in
theorem kv_Mo_bad : Cond.selects (mk_nm n_Mo_bad).cls (mk_nm n_Mo_bad) (mk_nm n_Mo_bad) ∈ mk_wt := mk_wt_sel 44 rfl (by decide +kernel)
set_option maxRecDepth 100000 in
theorem km_Mo_169 : Cond.methodLink "LostSevensModel" 169 (mk_nm n_Mo_next0) ∈ mk_wt := mk_wt_in 1266 rfl (by decide +kernel)
set_option maxRecDepth 100000 in
theorem kn_Mo_next0 : Cond.instanceMethod (mk_nm n_Mo_next0) ∈ mk_wt := mk_wt_in 1268 rfl (by decide +kernel)
set_option maxRecDepth 100000 in
theorem kv_Mo_next0 : Cond.selects (mk_nm n_Mo_next0).cls (mk_nm n_Mo_next0) (mk_nm n_Mo_next0) ∈ mk_wt := mk_wt_sel 38 rfl (by decide +kernel)
set_option maxRecDepth 100000 in
theorem kf_Mo_172 : Cond.fieldLink "LostSevensModel" 172 RX12 (TX12 14).2.1 (TX12 14).2.2.1 ∈ mk_wt := mk_wt_in 1109 rfl (by decide +kernel)
set_option maxRecDepth 100000 in
theorem kf_Mo_175 : Cond.fieldLink "LostSevensModel" 175 RX12 (TX12 23).2.1 (TX12 23).2.2.1 ∈ mk_wt := mk_wt_in 1118 rfl (by decide +kernel)
set_option maxRecDepth 100000 in
theorem km_Mo_178 : Cond.methodLink "LostSevensModel" 178 (mk_nm n_Mo_product) ∈ mk_wt := mk_wt_in 1342 rfl (by decide +kernel)
set_option maxRecDepth 100000 in
theorem kn_Mo_product : Cond.instanceMethod (mk_nm n_Mo_product) ∈ mk_wt := mk_wt_in 1344 rfl (by decide +kernel)
set_option maxRecDepth 100000 in
theorem kv_Mo_product : Cond.selects (mk_nm n_Mo_product).cls (mk_nm n_Mo_product) (mk_nm n_Mo_product) ∈ mk_wt := mk_wt_sel 52 rfl (by decide +kernel)
set_option maxRecDepth 100000 in
theorem km_Mo_182 : Cond.methodLink "LostSevensModel" 182 (mk_nm n_Mo_lay) ∈ mk_wt := mk_wt_in 1330 rfl (by decide +kernel)
set_option maxRecDepth 100000 in
theorem kn_Mo_lay : Cond.instanceMethod (mk_nm n_Mo_lay) ∈ mk_wt := mk_wt_in 1332 rfl (by decide +kernel)
set_option maxRecDepth 100000 in
theorem kv_Mo_lay : Cond.selects (mk_nm n_Mo_lay).cls (mk_nm n_Mo_lay) (mk_nm n_Mo_lay) ∈ mk_wt := mk_wt_sel 49 rfl (by decide +kernel)
set_option maxRecDepth 100000 in
theorem km_Mo_186 : Cond.methodLink "LostSevensModel" 186 (mk_nm n_Mo_unit) ∈ mk_wt := mk_wt_in 1346 rfl (by decide +kernel)
set_option maxRecDepth 100000 in
theorem kn_Mo_unit : Cond.instanceMethod (mk_nm n_Mo_unit) ∈ mk_wt := mk_wt_in 1348 rfl (by decide +kernel)
set_option maxRecDepth 100000 in
theorem kv_Mo_unit : Cond.selects (mk_nm n_Mo_unit).cls (mk_nm n_Mo_unit) (mk_nm n_Mo_unit) ∈ mk_wt := mk_wt_sel 53 rfl (by decide +kernel)
set_option maxRecDepth 100000 in
theorem km_Mo_189 : Cond.methodLink "LostSevensModel" 189 (mk_nm n_Mo_every) ∈ mk_wt := mk_wt_in 1318 rfl (by decide +kernel)
set_option maxRecDepth 100000 in
theorem kn_Mo_every : Cond.instanceMethod (mk_nm n_Mo_every) ∈ mk_wt := mk_wt_in 1320 rfl (by decide +kernel)
set_option maxRecDepth 100000 in
theorem kv_Mo_every : Cond.selects (mk_nm n_Mo_every).cls (mk_nm n_Mo_every) (mk_nm n_Mo_every) ∈ mk_wt := mk_wt_sel 46 rfl (by decide +kernel)
set_option maxRecDepth 100000 in
theorem km_Mo_192 : Cond.methodLink "LostSevensModel" 192 (mk_nm n_Mo_oneTest) ∈ mk_wt := mk_wt_in 1322 rfl (by decide +kernel)
set_option maxRecDepth 100000 in
theorem kn_Mo_oneTest : Cond.instanceMethod (mk_nm n_Mo_oneTest) ∈ mk_wt := mk_wt_in 1324 rfl (by decide +kernel)
set_option maxRecDepth 100000 in
theorem kv_Mo_oneTest : Cond.selects (mk_nm n_Mo_oneTest).cls (mk_nm n_Mo_oneTest) (mk_nm n_Mo_oneTest) ∈ mk_wt := mk_wt_sel 47 rfl (by decide +kernel)
set_option maxRecDepth 100000 in
theorem km_Mo_195 : Cond.methodLink "LostSevensModel" 195 (mk_nm n_Mo_opens) ∈ mk_wt := mk_wt_in 1326 rfl (by decide +kernel)
set_option maxRecDepth 100000 in
theorem kn_Mo_opens : Cond.instanceMethod (mk_nm n_Mo_opens) ∈ mk_wt := mk_wt_in 1328 rfl (by decide +kernel)
set_option maxRecDepth 100000 in
theorem kv_Mo_opens : Cond.selects (mk_nm n_Mo_opens).cls (mk_nm n_Mo_opens) (mk_nm n_Mo_opens) ∈ mk_wt := mk_wt_sel 48 rfl (by decide +kernel)
set_option maxRecDepth 100000 in
theorem km_Mo_198 : Cond.methodLink "LostSevensModel" 198 (mk_nm n_Mo_any) ∈ mk_wt := mk_wt_in 1314 rfl (by decide +kernel)
set_option maxRecDepth 100000 in
theorem kn_Mo_any : Cond.instanceMethod (mk_nm n_Mo_any) ∈ mk_wt := mk_wt_in 1316 rfl (by decide +kernel)
set_option maxRecDepth 100000 in
theorem kv_Mo_any : Cond.selects (mk_nm n_Mo_any).cls (mk_nm n_Mo_any) (mk_nm n_Mo_any) ∈ mk_wt := mk_wt_sel 45 rfl (by decide +kernel)
set_option maxRecDepth 100000 in
theorem km_Mo_201 : Cond.methodLink "LostSevensModel" 201 (mk_nm n_Mo_need) ∈ mk_wt := mk_wt_in 1334 rfl (by decide +kernel)
set_option maxRecDepth 100000 in
theorem kn_Mo_need : Cond.instanceMethod (mk_nm n_Mo_need) ∈ mk_wt := mk_wt_in 1336 rfl (by decide +kernel)
set_option maxRecDepth 100000 in
theorem kv_Mo_need : Cond.selects (mk_nm n_Mo_need).cls (mk_nm n_Mo_need) (mk_nm n_Mo_need) ∈ mk_wt := mk_wt_sel 50 rfl (by decide +kernel)
set_option maxRecDepth 100000 in
theorem km_Mo_204 : Cond.methodLink "LostSevensModel" 204 (mk_nm n_Mo_sumUp) ∈ mk_wt := mk_wt_in 1338 rfl (by decide +kernel)
set_option maxRecDepth 100000 in
theorem kn_Mo_sumUp : Cond.instanceMethod (mk_nm n_Mo_sumUp) ∈ mk_wt := mk_wt_in 1340 rfl (by decide +kernel)
set_option maxRecDepth 100000 in
theorem kv_Mo_sumUp : Cond.selects (mk_nm n_Mo_sumUp).cls (mk_nm n_Mo_sumUp) (mk_nm n_Mo_sumUp) ∈ mk_wt := mk_wt_sel 51 rfl (by decide +kernel)
set_option maxRecDepth 100000 in
theorem kf_Mo_207 : Cond.fieldLink "LostSevensModel" 207 RX12 (TX12 13).2.1 (TX12 13).2.2.1 ∈ mk_wt := mk_wt_in 1108 rfl (by decide +kernel)
set_option maxRecDepth 100000 in
theorem kf_Mo_210 : Cond.fieldLink "LostSevensModel" 210 RX12 (TX12 22).2.1 (TX12 22).2.2.1 ∈ mk_wt := mk_wt_in 1117 rfl (by decide +kernel)
set_option maxRecDepth 100000 in
theorem km_Mo_213 : Cond.methodLink "LostSevensModel" 213 (mk_nm n_Mo_aLine) ∈ mk_wt := mk_wt_in 1306 rfl (by decide +kernel)
set_option maxRecDepth 100000 in
theorem kn_Mo_aLine : Cond.instanceMethod (mk_nm n_Mo_aLine) ∈ mk_wt := mk_wt_in 1308 rfl (by decide +kernel)
set_option maxRecDepth 100000 in
theorem kv_Mo_aLine : Cond.selects (mk_nm n_Mo_aLine).cls (mk_nm n_Mo_aLine) (mk_nm n_Mo_aLine) ∈ mk_wt := mk_wt_sel 43 rfl (by decide +kernel)
set_option maxRecDepth 100000 in
theorem km_Mo_216 : Cond.methodLink "LostSevensModel" 216 (mk_nm n_Mo_both) ∈ mk_wt := mk_wt_in 1394 rfl (by decide +kernel)
set_option maxRecDepth 100000 in
theorem ks_Mo_both : Cond.static (mk_nm n_Mo_both) ∈ mk_wt := mk_wt_in 1395 rfl (by decide +kernel)
set_option maxRecDepth 100000 in
theorem kf_Mo_220 : Cond.fieldLink "LostSevensModel" 220 RX12 (TX12 28).2.1 (TX12 28).2.2.1 ∈ mk_wt := mk_wt_in 1123 rfl (by decide +kernel)
set_option maxRecDepth 100000 in
theorem km_Mo_223 : Cond.methodLink "LostSevensModel" 223 (mk_nm n_Mo_comesTo) ∈ mk_wt := mk_wt_in 1390 rfl (by decide +kernel)
set_option maxRecDepth 100000 in
theorem kn_Mo_comesTo : Cond.instanceMethod (mk_nm n_Mo_comesTo) ∈ mk_wt := mk_wt_in 1392 rfl (by decide +kernel)
set_option maxRecDepth 100000 in
theorem kv_Mo_comesTo : Cond.selects (mk_nm n_Mo_comesTo).cls (mk_nm n_Mo_comesTo) (mk_nm n_Mo_comesTo) ∈ mk_wt := mk_wt_sel 61 rfl (by decide +kernel)
set_option maxRecDepth 100000 in
theorem kf_Mo_226 : Cond.fieldLink "LostSevensModel" 226 RX12 (TX12 27).2.1 (TX12 27).2.2.1 ∈ mk_wt := mk_wt_in 1122 rfl (by decide +kernel)
set_option maxRecDepth 100000 in
theorem km_Mo_229 : Cond.methodLink "LostSevensModel" 229 (mk_nm n_Mo_ruleFor) ∈ mk_wt := mk_wt_in 1386 rfl (by decide +kernel)
set_option maxRecDepth 100000 in
theorem kn_Mo_ruleFor : Cond.instanceMethod (mk_nm n_Mo_ruleFor) ∈ mk_wt := mk_wt_in 1388 rfl (by decide +kernel)
set_option maxRecDepth 100000 in
theorem kv_Mo_ruleFor : Cond.selects (mk_nm n_Mo_ruleFor).cls (mk_nm n_Mo_ruleFor) (mk_nm n_Mo_ruleFor) ∈ mk_wt := mk_wt_sel 60 rfl (by decide +kernel)
set_option maxRecDepth 100000 in
theorem km_Mo_233 : Cond.methodLink "LostSevensModel" 233 (mk_nm n_Mo_puts) ∈ mk_wt := mk_wt_in 1397 rfl (by decide +kernel)
set_option maxRecDepth 100000 in
theorem kn_Mo_puts : Cond.instanceMethod (mk_nm n_Mo_puts) ∈ mk_wt := mk_wt_in 1399 rfl (by decide +kernel)
set_option maxRecDepth 100000 in
theorem kv_Mo_puts : Cond.selects (mk_nm n_Mo_puts).cls (mk_nm n_Mo_puts) (mk_nm n_Mo_puts) ∈ mk_wt := mk_wt_sel 62 rfl (by decide +kernel)
set_option maxRecDepth 100000 in
theorem km_Mo_237 : Cond.methodLink "LostSevensModel" 237 (mk_nm n_Mo_tenTo) ∈ mk_wt := mk_wt_in 1401 rfl (by decide +kernel)
set_option maxRecDepth 100000 in
theorem ks_Mo_tenTo : Cond.static (mk_nm n_Mo_tenTo) ∈ mk_wt := mk_wt_in 1402 rfl (by decide +kernel)
set_option maxRecDepth 100000 in
theorem km_Mo_240 : Cond.methodLink "LostSevensModel" 240 (mk_nm n_Mo_own) ∈ mk_wt := mk_wt_in 1366 rfl (by decide +kernel)
set_option maxRecDepth 100000 in
theorem kn_Mo_own : Cond.instanceMethod (mk_nm n_Mo_own) ∈ mk_wt := mk_wt_in 1368 rfl (by decide +kernel)
set_option maxRecDepth 100000 in
theorem kv_Mo_own : Cond.selects (mk_nm n_Mo_own).cls (mk_nm n_Mo_own) (mk_nm n_Mo_own) ∈ mk_wt := mk_wt_sel 55 rfl (by decide +kernel)
set_option maxRecDepth 100000 in
theorem km_Mo_243 : Cond.methodLink "LostSevensModel" 243 (mk_nm n_Mo_makes) ∈ mk_wt := mk_wt_in 1382 rfl (by decide +kernel)
set_option maxRecDepth 100000 in
theorem kn_Mo_makes : Cond.instanceMethod (mk_nm n_Mo_makes) ∈ mk_wt := mk_wt_in 1384 rfl (by decide +kernel)
set_option maxRecDepth 100000 in
theorem kv_Mo_makes : Cond.selects (mk_nm n_Mo_makes).cls (mk_nm n_Mo_makes) (mk_nm n_Mo_makes) ∈ mk_wt := mk_wt_sel 59 rfl (by decide +kernel)
set_option maxRecDepth 100000 in
theorem km_Mo_246 : Cond.methodLink "LostSevensModel" 246 (mk_nm n_Mo_writes) ∈ mk_wt := mk_wt_in 1404 rfl (by decide +kernel)
set_option maxRecDepth 100000 in
theorem kn_Mo_writes : Cond.instanceMethod (mk_nm n_Mo_writes) ∈ mk_wt := mk_wt_in 1406 rfl (by decide +kernel)
set_option maxRecDepth 100000 in
theorem kv_Mo_writes : Cond.selects (mk_nm n_Mo_writes).cls (mk_nm n_Mo_writes) (mk_nm n_Mo_writes) ∈ mk_wt := mk_wt_sel 63 rfl (by decide +kernel)
set_option maxRecDepth 100000 in
theorem kf_Mo_249 : Cond.fieldLink "LostSevensModel" 249 RX12 (TX12 5).2.1 (TX12 5).2.2.1 ∈ mk_wt := mk_wt_in 1100 rfl (by decide +kernel)
set_option maxRecDepth 100000 in
theorem km_Mo_253 : Cond.methodLink "LostSevensModel" 253 (mk_nm n_Mo_otherEnd) ∈ mk_wt := mk_wt_in 1362 rfl (by decide +kernel)
set_option maxRecDepth 100000 in
theorem kn_Mo_otherEnd : Cond.instanceMethod (mk_nm n_Mo_otherEnd) ∈ mk_wt := mk_wt_in 1364 rfl (by decide +kernel)
set_option maxRecDepth 100000 in
theorem kv_Mo_otherEnd : Cond.selects (mk_nm n_Mo_otherEnd).cls (mk_nm n_Mo_otherEnd) (mk_nm n_Mo_otherEnd) ∈ mk_wt := mk_wt_sel 54 rfl (by decide +kernel)
set_option maxRecDepth 100000 in
theorem km_Mo_256 : Cond.methodLink "LostSevensModel" 256 (mk_nm n_Mo_keeps) ∈ mk_wt := mk_wt_in 1370 rfl (by decide +kernel)
set_option maxRecDepth 100000 in
theorem kn_Mo_keeps : Cond.instanceMethod (mk_nm n_Mo_keeps) ∈ mk_wt := mk_wt_in 1372 rfl (by decide +kernel)
set_option maxRecDepth 100000 in
theorem kv_Mo_keeps : Cond.selects (mk_nm n_Mo_keeps).cls (mk_nm n_Mo_keeps) (mk_nm n_Mo_keeps) ∈ mk_wt := mk_wt_sel 56 rfl (by decide +kernel)
set_option maxRecDepth 100000 in
theorem km_Mo_259 : Cond.methodLink "LostSevensModel" 259 (mk_nm n_Mo_takesPaper) ∈ mk_wt := mk_wt_in 1374 rfl (by decide +kernel)
set_option maxRecDepth 100000 in
theorem kn_Mo_takesPaper : Cond.instanceMethod (mk_nm n_Mo_takesPaper) ∈ mk_wt := mk_wt_in 1376 rfl (by decide +kernel)
set_option maxRecDepth 100000 in
theorem kv_Mo_takesPaper : Cond.selects (mk_nm n_Mo_takesPaper).cls (mk_nm n_Mo_takesPaper) (mk_nm n_Mo_takesPaper) ∈ mk_wt := mk_wt_sel 57 rfl (by decide +kernel)
set_option maxRecDepth 100000 in
theorem km_Mo_262 : Cond.methodLink "LostSevensModel" 262 (mk_nm n_Mo_goesBy) ∈ mk_wt := mk_wt_in 1378 rfl (by decide +kernel)
set_option maxRecDepth 100000 in
theorem kn_Mo_goesBy : Cond.instanceMethod (mk_nm n_Mo_goesBy) ∈ mk_wt := mk_wt_in 1380 rfl (by decide +kernel)
set_option maxRecDepth 100000 in
theorem kv_Mo_goesBy : Cond.selects (mk_nm n_Mo_goesBy).cls (mk_nm n_Mo_goesBy) (mk_nm n_Mo_goesBy) ∈ mk_wt := mk_wt_sel 58 rfl (by decide +kernel)
set_option maxRecDepth 100000 in
theorem km_Mo_266 : Cond.methodLink "LostSevensModel" 266 (mk_nm n_Mo_valueOf) ∈ mk_wt := mk_wt_in 1408 rfl (by decide +kernel)
set_option maxRecDepth 100000 in
theorem kn_Mo_valueOf : Cond.instanceMethod (mk_nm n_Mo_valueOf) ∈ mk_wt := mk_wt_in 1410 rfl (by decide +kernel)
set_option maxRecDepth 100000 in
theorem kv_Mo_valueOf : Cond.selects (mk_nm n_Mo_valueOf).cls (mk_nm n_Mo_valueOf) (mk_nm n_Mo_valueOf) ∈ mk_wt := mk_wt_sel 64 rfl (by decide +kernel)
set_option maxRecDepth 100000 in
theorem km_Mo_269 : Cond.methodLink "LostSevensModel" 269 (mk_nm n_Mo_draw) ∈ mk_wt := mk_wt_in 1416 rfl (by decide +kernel)
set_option maxRecDepth 100000 in
theorem kn_Mo_draw : Cond.instanceMethod (mk_nm n_Mo_draw) ∈ mk_wt := mk_wt_in 1418 rfl (by decide +kernel)
set_option maxRecDepth 100000 in
theorem kv_Mo_draw : Cond.selects (mk_nm n_Mo_draw).cls (mk_nm n_Mo_draw) (mk_nm n_Mo_draw) ∈ mk_wt := mk_wt_sel 65 rfl (by decide +kernel)
set_option maxRecDepth 100000 in
theorem km_Mo_272 : Cond.methodLink "LostSevensModel" 272 (mk_nm n_Mo_isFrost) ∈ mk_wt := mk_wt_in 1438 rfl (by decide +kernel)
set_option maxRecDepth 100000 in
theorem kn_Mo_isFrost : Cond.instanceMethod (mk_nm n_Mo_isFrost) ∈ mk_wt := mk_wt_in 1440 rfl (by decide +kernel)
set_option maxRecDepth 100000 in
theorem kv_Mo_isFrost : Cond.selects (mk_nm n_Mo_isFrost).cls (mk_nm n_Mo_isFrost) (mk_nm n_Mo_isFrost) ∈ mk_wt := mk_wt_sel 66 rfl (by decide +kernel)
set_option maxRecDepth 100000 in
theorem km_Mo_276 : Cond.methodLink "LostSevensModel" 276 (mk_nm n_Mo_powerOf) ∈ mk_wt := mk_wt_in 1446 rfl (by decide +kernel)
set_option maxRecDepth 100000 in
theorem ks_Mo_powerOf : Cond.static (mk_nm n_Mo_powerOf) ∈ mk_wt := mk_wt_in 1447 rfl (by decide +kernel)
set_option maxRecDepth 100000 in
theorem km_Mo_279 : Cond.methodLink "LostSevensModel" 279 (mk_nm n_Mo_takesNumber) ∈ mk_wt := mk_wt_in 1449 rfl (by decide +kernel)
set_option maxRecDepth 100000 in
theorem kn_Mo_takesNumber : Cond.instanceMethod (mk_nm n_Mo_takesNumber) ∈ mk_wt := mk_wt_in 1451 rfl (by decide +kernel)
set_option maxRecDepth 100000 in
theorem kv_Mo_takesNumber : Cond.selects (mk_nm n_Mo_takesNumber).cls (mk_nm n_Mo_takesNumber) (mk_nm n_Mo_takesNumber) ∈ mk_wt := mk_wt_sel 67 rfl (by decide +kernel)
set_option maxRecDepth 100000 in
theorem km_Mo_282 : Cond.methodLink "LostSevensModel" 282 (mk_nm n_Mo_isSeen) ∈ mk_wt := mk_wt_in 1453 rfl (by decide +kernel)
set_option maxRecDepth 100000 in
theorem kn_Mo_isSeen : Cond.instanceMethod (mk_nm n_Mo_isSeen) ∈ mk_wt := mk_wt_in 1455 rfl (by decide +kernel)
set_option maxRecDepth 100000 in
theorem kv_Mo_isSeen : Cond.selects (mk_nm n_Mo_isSeen).cls (mk_nm n_Mo_isSeen) (mk_nm n_Mo_isSeen) ∈ mk_wt := mk_wt_sel 68 rfl (by decide +kernel)
set_option maxRecDepth 100000 in
theorem km_Mo_285 : Cond.methodLink "LostSevensModel" 285 (mk_nm n_Mo_digitOf) ∈ mk_wt := mk_wt_in 1457 rfl (by decide +kernel)
set_option maxRecDepth 100000 in
theorem kn_Mo_digitOf : Cond.instanceMethod (mk_nm n_Mo_digitOf) ∈ mk_wt := mk_wt_in 1459 rfl (by decide +kernel)
set_option maxRecDepth 100000 in
theorem kv_Mo_digitOf : Cond.selects (mk_nm n_Mo_digitOf).cls (mk_nm n_Mo_digitOf) (mk_nm n_Mo_digitOf) ∈ mk_wt := mk_wt_sel 69 rfl (by decide +kernel)
set_option maxRecDepth 100000 in
theorem km_Mo_288 : Cond.methodLink "LostSevensModel" 288 (mk_nm n_Mo_isPaper) ∈ mk_wt := mk_wt_in 1465 rfl (by decide +kernel)
set_option maxRecDepth 100000 in
theorem kn_Mo_isPaper : Cond.instanceMethod (mk_nm n_Mo_isPaper) ∈ mk_wt := mk_wt_in 1467 rfl (by decide +kernel)
set_option maxRecDepth 100000 in
theorem kv_Mo_isPaper : Cond.selects (mk_nm n_Mo_isPaper).cls (mk_nm n_Mo_isPaper) (mk_nm n_Mo_isPaper) ∈ mk_wt := mk_wt_sel 70 rfl (by decide +kernel)
set_option maxRecDepth 100000 in
theorem kf_Mo_291 : Cond.fieldLink "LostSevensModel" 291 RX12 (TX12 33).2.1 (TX12 33).2.2.1 ∈ mk_wt := mk_wt_in 1128 rfl (by decide +kernel)
set_option maxRecDepth 100000 in
theorem km_Mo_294 : Cond.methodLink "LostSevensModel" 294 (mk_nm n_Mo_couldComeOf) ∈ mk_wt := mk_wt_in 1477 rfl (by decide +kernel)
set_option maxRecDepth 100000 in
theorem kn_Mo_couldComeOf : Cond.instanceMethod (mk_nm n_Mo_couldComeOf) ∈ mk_wt := mk_wt_in 1479 rfl (by decide +kernel)
set_option maxRecDepth 100000 in
theorem kv_Mo_couldComeOf : Cond.selects (mk_nm n_Mo_couldComeOf).cls (mk_nm n_Mo_couldComeOf) (mk_nm n_Mo_couldComeOf) ∈ mk_wt := mk_wt_sel 72 rfl (by decide +kernel)
set_option maxRecDepth 100000 in
theorem km_Mo_297 : Cond.methodLink "LostSevensModel" 297 (mk_nm n_Mo_tries) ∈ mk_wt := mk_wt_in 1473 rfl (by decide +kernel)
set_option maxRecDepth 100000 in
theorem kn_Mo_tries : Cond.instanceMethod (mk_nm n_Mo_tries) ∈ mk_wt := mk_wt_in 1475 rfl (by decide +kernel)
set_option maxRecDepth 100000 in
theorem kv_Mo_tries : Cond.selects (mk_nm n_Mo_tries).cls (mk_nm n_Mo_tries) (mk_nm n_Mo_tries) ∈ mk_wt := mk_wt_sel 71 rfl (by decide +kernel)
set_option maxRecDepth 100000 in
theorem kf_Mo_300 : Cond.fieldLink "LostSevensModel" 300 RX12 (TX12 38).2.1 (TX12 38).2.2.1 ∈ mk_wt := mk_wt_in 1133 rfl (by decide +kernel)
set_option maxRecDepth 100000 in
theorem kf_Mo_303 : Cond.fieldLink "LostSevensModel" 303 RX12 (TX12 39).2.1 (TX12 39).2.2.1 ∈ mk_wt := mk_wt_in 1134 rfl (by decide +kernel)
set_option maxRecDepth 100000 in
theorem km_Mo_306 : Cond.methodLink "LostSevensModel" 306 (mk_nm n_Mo_lies) ∈ mk_wt := mk_wt_in 1489 rfl (by decide +kernel)
set_option maxRecDepth 100000 in
theorem kn_Mo_lies : Cond.instanceMethod (mk_nm n_Mo_lies) ∈ mk_wt := mk_wt_in 1491 rfl (by decide +kernel)
set_option maxRecDepth 100000 in
theorem kv_Mo_lies : Cond.selects (mk_nm n_Mo_lies).cls (mk_nm n_Mo_lies) (mk_nm n_Mo_lies) ∈ mk_wt := mk_wt_sel 74 rfl (by decide +kernel)
set_option maxRecDepth 100000 in
theorem km_Mo_309 : Cond.methodLink "LostSevensModel" 309 (mk_nm n_Mo_comesBack) ∈ mk_wt := mk_wt_in 1493 rfl (by decide +kernel)
set_option maxRecDepth 100000 in
theorem kn_Mo_comesBack : Cond.instanceMethod (mk_nm n_Mo_comesBack) ∈ mk_wt := mk_wt_in 1495 rfl (by decide +kernel)
set_option maxRecDepth 100000 in
theorem kv_Mo_comesBack : Cond.selects (mk_nm n_Mo_comesBack).cls (mk_nm n_Mo_comesBack) (mk_nm n_Mo_comesBack) ∈ mk_wt := mk_wt_sel 75 rfl (by decide +kernel)
set_option maxRecDepth 100000 in
theorem km_Mo_312 : Cond.methodLink "LostSevensModel" 312 (mk_nm n_Mo_seeks) ∈ mk_wt := mk_wt_in 1485 rfl (by decide +kernel)
set_option maxRecDepth 100000 in
theorem kn_Mo_seeks : Cond.instanceMethod (mk_nm n_Mo_seeks) ∈ mk_wt := mk_wt_in 1487 rfl (by decide +kernel)
set_option maxRecDepth 100000 in
theorem kv_Mo_seeks : Cond.selects (mk_nm n_Mo_seeks).cls (mk_nm n_Mo_seeks) (mk_nm n_Mo_seeks) ∈ mk_wt := mk_wt_sel 73 rfl (by decide +kernel)
set_option maxRecDepth 100000 in
theorem km_Mo_316 : Cond.methodLink "LostSevensModel" 316 (mk_nm n_Mo_clerksOf) ∈ mk_wt := mk_wt_in 1501 rfl (by decide +kernel)
set_option maxRecDepth 100000 in
theorem kn_Mo_clerksOf : Cond.instanceMethod (mk_nm n_Mo_clerksOf) ∈ mk_wt := mk_wt_in 1503 rfl (by decide +kernel)
set_option maxRecDepth 100000 in
theorem kv_Mo_clerksOf : Cond.selects (mk_nm n_Mo_clerksOf).cls (mk_nm n_Mo_clerksOf) (mk_nm n_Mo_clerksOf) ∈ mk_wt := mk_wt_sel 76 rfl (by decide +kernel)
set_option maxRecDepth 100000 in
theorem km_Mo_319 : Cond.methodLink "LostSevensModel" 319 (mk_nm n_Mo_isSo) ∈ mk_wt := mk_wt_in 1513 rfl (by decide +kernel)
set_option maxRecDepth 100000 in
theorem kn_Mo_isSo : Cond.instanceMethod (mk_nm n_Mo_isSo) ∈ mk_wt := mk_wt_in 1515 rfl (by decide +kernel)
set_option maxRecDepth 100000 in
theorem kv_Mo_isSo : Cond.selects (mk_nm n_Mo_isSo).cls (mk_nm n_Mo_isSo) (mk_nm n_Mo_isSo) ∈ mk_wt := mk_wt_sel 77 rfl (by decide +kernel)
set_option maxRecDepth 100000 in
theorem kf_Mo_322 : Cond.fieldLink "LostSevensModel" 322 RX12 (TX12 7).2.1 (TX12 7).2.2.1 ∈ mk_wt := mk_wt_in 1102 rfl (by decide +kernel)
set_option maxRecDepth 100000 in
theorem kf_Mo_326 : Cond.fieldLink "LostSevensModel" 326 RX12 (TX12 6).2.1 (TX12 6).2.2.1 ∈ mk_wt := mk_wt_in 1101 rfl (by decide +kernel)
set_option maxRecDepth 100000 in
theorem kc_Int_265 : Cond.constant "java/lang/Integer" 265 (1431655765) ∈ mk_wt := mk_wt_in 1055 rfl (by decide +kernel)
set_option maxRecDepth 100000 in
theorem kc_Int_266 : Cond.constant "java/lang/Integer" 266 (858993459) ∈ mk_wt := mk_wt_in 1056 rfl (by decide +kernel)
set_option maxRecDepth 100000 in
theorem kc_Int_267 : Cond.constant "java/lang/Integer" 267 (252645135) ∈ mk_wt := mk_wt_in 1057 rfl (by decide +kernel)
set_option maxRecDepth 100000 in
theorem kf_Str_9 : Cond.fieldLink "java/lang/String" 9 "java/lang/String" "value" "[B" ∈ mk_wt := mk_wt_in 1526 rfl (by decide +kernel)
set_option maxRecDepth 100000 in
theorem km_Str_335 : Cond.methodLink "java/lang/String" 335 (mk_nm n_Str_coder) ∈ mk_wt := mk_wt_in 667 rfl (by decide +kernel)
set_option maxRecDepth 100000 in
theorem kn_Str_coder : Cond.instanceMethod (mk_nm n_Str_coder) ∈ mk_wt := mk_wt_in 668 rfl (by decide +kernel)
set_option maxRecDepth 100000 in
theorem kv_Str_coder : Cond.selects (mk_nm n_Str_coder).cls (mk_nm n_Str_coder) (mk_nm n_Str_coder) ∈ mk_wt := mk_wt_in 669 rfl (by decide +kernel)
set_option maxRecDepth 100000 in
theorem km_Str_492 : Cond.methodLink "java/lang/String" 492 (mk_nm n_Str_isLatin1) ∈ mk_wt := mk_wt_in 611 rfl (by decide +kernel)
set_option maxRecDepth 100000 in
theorem kn_Str_isLatin1 : Cond.instanceMethod (mk_nm n_Str_isLatin1) ∈ mk_wt := mk_wt_in 612 rfl (by decide +kernel)
set_option maxRecDepth 100000 in
theorem kv_Str_isLatin1 : Cond.selects (mk_nm n_Str_isLatin1).cls (mk_nm n_Str_isLatin1) (mk_nm n_Str_isLatin1) ∈ mk_wt := mk_wt_in 613 rfl (by decide +kernel)
set_option maxRecDepth 100000 in
theorem km_Str_495 : Cond.methodLink "java/lang/String" 495 (mk_nm n_L1_charAt) ∈ mk_wt := mk_wt_in 617 rfl (by decide +kernel)
set_option maxRecDepth 100000 in
theorem ks_L1_charAt : Cond.static (mk_nm n_L1_charAt) ∈ mk_wt := mk_wt_in 618 rfl (by decide +kernel)
set_option maxRecDepth 100000 in
theorem km_Str_633 : Cond.methodLink "java/lang/String" 633 (mk_nm n_Str_indexOf2) ∈ mk_wt := mk_wt_in 659 rfl (by decide +kernel)
set_option maxRecDepth 100000 in
theorem kn_Str_indexOf2 : Cond.instanceMethod (mk_nm n_Str_indexOf2) ∈ mk_wt := mk_wt_in 660 rfl (by decide +kernel)
set_option maxRecDepth 100000 in
theorem kv_Str_indexOf2 : Cond.selects (mk_nm n_Str_indexOf2).cls (mk_nm n_Str_indexOf2) (mk_nm n_Str_indexOf2) ∈ mk_wt := mk_wt_in 661 rfl (by decide +kernel)
set_option maxRecDepth 100000 in
theorem km_Str_505 : Cond.methodLink "java/lang/String" 505 (mk_nm n_Str_length) ∈ mk_wt := mk_wt_in 663 rfl (by decide +kernel)
set_option maxRecDepth 100000 in
theorem km_Str_637 : Cond.methodLink "java/lang/String" 637 (mk_nm n_L1_indexOf) ∈ mk_wt := mk_wt_in 671 rfl (by decide +kernel)
set_option maxRecDepth 100000 in
theorem ks_L1_indexOf : Cond.static (mk_nm n_L1_indexOf) ∈ mk_wt := mk_wt_in 672 rfl (by decide +kernel)
set_option maxRecDepth 100000 in
theorem kf_Str_38 : Cond.fieldLink "java/lang/String" 38 "java/lang/String" "COMPACT_STRINGS" "Z" ∈ mk_wt := mk_wt_in 615 rfl (by decide +kernel)
set_option maxRecDepth 100000 in
theorem kf_Str_15 : Cond.fieldLink "java/lang/String" 15 "java/lang/String" "coder" "B" ∈ mk_wt := mk_wt_in 1525 rfl (by decide +kernel)
set_option maxRecDepth 100000 in
theorem kf_Str_1053 : Cond.fieldLink "java/lang/String" 1053 "jdk/internal/util/Preconditions" "SIOOBE_FORMATTER" "Ljava/util/function/BiFunction;" ∈ mk_wt := mk_wt_in 623 rfl (by decide +kernel)
set_option maxRecDepth 100000 in
theorem km_Str_1059 : Cond.methodLink "java/lang/String" 1059 (mk_nm n_Pre_checkIndex) ∈ mk_wt := mk_wt_in 625 rfl (by decide +kernel)
set_option maxRecDepth 100000 in
theorem ks_Pre_checkIndex : Cond.static (mk_nm n_Pre_checkIndex) ∈ mk_wt := mk_wt_in 626 rfl (by decide +kernel)
set_option maxRecDepth 100000 in
theorem km_L1_9 : Cond.methodLink "java/lang/StringLatin1" 9 (mk_nm n_Str_checkIndex) ∈ mk_wt := mk_wt_in 620 rfl (by decide +kernel)
set_option maxRecDepth 100000 in
theorem ks_Str_checkIndex : Cond.static (mk_nm n_Str_checkIndex) ∈ mk_wt := mk_wt_in 621 rfl (by decide +kernel)
set_option maxRecDepth 100000 in
theorem km_L1_88 : Cond.methodLink "java/lang/StringLatin1" 88 (mk_nm n_L1_canEncode) ∈ mk_wt := mk_wt_in 674 rfl (by decide +kernel)
set_option maxRecDepth 100000 in
theorem ks_L1_canEncode : Cond.static (mk_nm n_L1_canEncode) ∈ mk_wt := mk_wt_in 675 rfl (by decide +kernel)
set_option maxRecDepth 100000 in
theorem km_L1_92 : Cond.methodLink "java/lang/StringLatin1" 92 Lib.Math.max.name ∈ mk_wt := mk_wt_in 677 rfl (by decide +kernel)
set_option maxRecDepth 100000 in
theorem km_L1_38 : Cond.methodLink "java/lang/StringLatin1" 38 Lib.Math.min.name ∈ mk_wt := mk_wt_in 680 rfl (by decide +kernel)
set_option maxRecDepth 100000 in
theorem km_L1_95 : Cond.methodLink "java/lang/StringLatin1" 95 (mk_nm n_L1_indexOfChar) ∈ mk_wt := mk_wt_in 683 rfl (by decide +kernel)
set_option maxRecDepth 100000 in
theorem ks_L1_indexOfChar : Cond.static (mk_nm n_L1_indexOfChar) ∈ mk_wt := mk_wt_in 684 rfl (by decide +kernel)
section CONS
variable {p : Program} {l : Launch} {e : Env} {R : Room} {s : State} {m : MethodId} {args : Array Value} {below : List Frame} {meth : Method} {c : Code} {Qs : State → Prop} {nL : Nat} {D : va_G} {cy : Nat → ClassId} {b : Nat} {sk : Nat → Value} {lim : Nat × Nat} {cr : mj_C} {Q : mj_Q}
theorem mk_cons {a : Nat} {t : mj_T} {r : List (Nat × mj_T)} (h : mk_Sn p l e R s m args below meth c Qs nL D cy b sk lim cr Q a t) (hr : ∀ q ∈ r, mk_Sn p l e R s m args below meth c Qs nL D cy b sk lim cr Q q.1 q.2) : ∀ q ∈ (a, t) :: r, mk_Sn p l e R s m args below meth c Qs nL D cy b sk lim cr Q q.1 q.2 := List.forall_mem_cons.mpr ⟨h, hr⟩
theorem mk_nil : ∀ q ∈ ([] : List (Nat × mj_T)), mk_Sn p l e R s m args below meth c Qs nL D cy b sk lim cr Q q.1 q.2 := fun _ h => absurd h List.not_mem_nil
end CONS
