/-! the last method's rows; every method has its contract; the law's own rows (wip/tools) -/
set_option maxRecDepth 100000 in
theorem km_Past_3 : Cond.methodLink "LostSevens$Past" 3 objectInit ∈ mk_wt := mk_wt_in 236 rfl (by decide +kernel)
set_option maxRecDepth 100000 in
theorem kk_Past_9 : Cond.classLink "LostSevens$Past" 9 RX3 ∈ mk_wt := mk_wt_in 237 rfl (by decide +kernel)
set_option maxRecDepth 100000 in
theorem kk_Past_17 : Cond.classLink "LostSevens$Past" 17 "[[I" ∈ mk_wt := mk_wt_in 239 rfl (by decide +kernel)
set_option maxRecDepth 100000 in
theorem km_Past_40 : Cond.methodLink "LostSevens$Past" 40 (mk_nm n_Message_init) ∈ mk_wt := mk_wt_in 241 rfl (by decide +kernel)
set_option maxRecDepth 100000 in
theorem kk_Law_7 : Cond.classLink "LostSevensLaw" 7 RX11 ∈ mk_wt := mk_wt_in 22 rfl (by decide +kernel)
set_option maxRecDepth 100000 in
theorem ki_LS : Cond.instantiable RX11 11 ∈ mk_wt := mk_wt_in 23 rfl (by decide +kernel)
set_option maxRecDepth 100000 in
theorem kz_LS : Cond.initialized RX11 ∈ mk_wt := mk_wt_in 1 rfl (by decide +kernel)
set_option maxRecDepth 100000 in
theorem km_Law_9 : Cond.methodLink "LostSevensLaw" 9 (mk_nm n_LS_init) ∈ mk_wt := mk_wt_in 24 rfl (by decide +kernel)
set_option maxRecDepth 100000 in
theorem kn_LS_init : Cond.instanceMethod (mk_nm n_LS_init) ∈ mk_wt := mk_wt_in 25 rfl (by decide +kernel)
set_option maxRecDepth 100000 in
theorem kk_Law_10 : Cond.classLink "LostSevensLaw" 10 RX12 ∈ mk_wt := mk_wt_in 1089 rfl (by decide +kernel)
set_option maxRecDepth 100000 in
theorem ki_Mo : Cond.instantiable RX12 40 ∈ mk_wt := mk_wt_in 1090 rfl (by decide +kernel)
set_option maxRecDepth 100000 in
theorem kz_Mo : Cond.initialized RX12 ∈ mk_wt := mk_wt_in 13 rfl (by decide +kernel)
set_option maxRecDepth 100000 in
theorem km_Law_12 : Cond.methodLink "LostSevensLaw" 12 (mk_nm n_Mo_init) ∈ mk_wt := mk_wt_in 1091 rfl (by decide +kernel)
set_option maxRecDepth 100000 in
theorem kn_Mo_init : Cond.instanceMethod (mk_nm n_Mo_init) ∈ mk_wt := mk_wt_in 1092 rfl (by decide +kernel)
set_option maxRecDepth 100000 in
theorem km_Law_13 : Cond.methodLink "LostSevensLaw" 13 (mk_nm n_LS_state) ∈ mk_wt := mk_wt_in 480 rfl (by decide +kernel)
set_option maxRecDepth 100000 in
theorem kn_LS_state : Cond.instanceMethod (mk_nm n_LS_state) ∈ mk_wt := mk_wt_in 481 rfl (by decide +kernel)
set_option maxRecDepth 100000 in
theorem kv_LS_state : Cond.selects (mk_nm n_LS_state).cls (mk_nm n_LS_state) (mk_nm n_LS_state) ∈ mk_wt := mk_wt_in 482 rfl (by decide +kernel)
set_option maxRecDepth 100000 in
theorem km_Law_17 : Cond.methodLink "LostSevensLaw" 17 (mk_nm n_Mo_state) ∈ mk_wt := mk_wt_in 1216 rfl (by decide +kernel)
set_option maxRecDepth 100000 in
theorem kn_Mo_state : Cond.instanceMethod (mk_nm n_Mo_state) ∈ mk_wt := mk_wt_in 1217 rfl (by decide +kernel)
set_option maxRecDepth 100000 in
theorem kv_Mo_state : Cond.selects (mk_nm n_Mo_state).cls (mk_nm n_Mo_state) (mk_nm n_Mo_state) ∈ mk_wt := mk_wt_in 1218 rfl (by decide +kernel)
set_option maxRecDepth 100000 in
theorem km_Law_18 : Cond.methodLink "LostSevensLaw" 18 (mk_nm n_LS_line) ∈ mk_wt := mk_wt_in 484 rfl (by decide +kernel)
set_option maxRecDepth 100000 in
theorem kn_LS_line : Cond.instanceMethod (mk_nm n_LS_line) ∈ mk_wt := mk_wt_in 485 rfl (by decide +kernel)
set_option maxRecDepth 100000 in
theorem kv_LS_line : Cond.selects (mk_nm n_LS_line).cls (mk_nm n_LS_line) (mk_nm n_LS_line) ∈ mk_wt := mk_wt_in 486 rfl (by decide +kernel)
set_option maxRecDepth 100000 in
theorem km_Law_22 : Cond.methodLink "LostSevensLaw" 22 (mk_nm n_Mo_line) ∈ mk_wt := mk_wt_in 1220 rfl (by decide +kernel)
set_option maxRecDepth 100000 in
theorem kn_Mo_line : Cond.instanceMethod (mk_nm n_Mo_line) ∈ mk_wt := mk_wt_in 1221 rfl (by decide +kernel)
set_option maxRecDepth 100000 in
theorem kv_Mo_line : Cond.selects (mk_nm n_Mo_line).cls (mk_nm n_Mo_line) (mk_nm n_Mo_line) ∈ mk_wt := mk_wt_in 1222 rfl (by decide +kernel)
set_option maxRecDepth 100000 in
theorem km_Law_23 : Cond.methodLink "LostSevensLaw" 23 (mk_nm n_LS_set) ∈ mk_wt := mk_wt_in 504 rfl (by decide +kernel)
set_option maxRecDepth 100000 in
theorem kn_LS_set : Cond.instanceMethod (mk_nm n_LS_set) ∈ mk_wt := mk_wt_in 505 rfl (by decide +kernel)
set_option maxRecDepth 100000 in
theorem kv_LS_set : Cond.selects (mk_nm n_LS_set).cls (mk_nm n_LS_set) (mk_nm n_LS_set) ∈ mk_wt := mk_wt_in 506 rfl (by decide +kernel)
set_option maxRecDepth 100000 in
theorem km_Law_27 : Cond.methodLink "LostSevensLaw" 27 (mk_nm n_Mo_set) ∈ mk_wt := mk_wt_in 1234 rfl (by decide +kernel)
set_option maxRecDepth 100000 in
theorem kn_Mo_set : Cond.instanceMethod (mk_nm n_Mo_set) ∈ mk_wt := mk_wt_in 1235 rfl (by decide +kernel)
set_option maxRecDepth 100000 in
theorem kv_Mo_set : Cond.selects (mk_nm n_Mo_set).cls (mk_nm n_Mo_set) (mk_nm n_Mo_set) ∈ mk_wt := mk_wt_in 1236 rfl (by decide +kernel)
set_option maxRecDepth 100000 in
theorem km_Law_28 : Cond.methodLink "LostSevensLaw" 28 (mk_nm n_LS_write) ∈ mk_wt := mk_wt_in 518 rfl (by decide +kernel)
set_option maxRecDepth 100000 in
theorem kn_LS_write : Cond.instanceMethod (mk_nm n_LS_write) ∈ mk_wt := mk_wt_in 519 rfl (by decide +kernel)
set_option maxRecDepth 100000 in
theorem kv_LS_write : Cond.selects (mk_nm n_LS_write).cls (mk_nm n_LS_write) (mk_nm n_LS_write) ∈ mk_wt := mk_wt_in 520 rfl (by decide +kernel)
set_option maxRecDepth 100000 in
theorem km_Law_32 : Cond.methodLink "LostSevensLaw" 32 (mk_nm n_Mo_write) ∈ mk_wt := mk_wt_in 1242 rfl (by decide +kernel)
set_option maxRecDepth 100000 in
theorem kn_Mo_write : Cond.instanceMethod (mk_nm n_Mo_write) ∈ mk_wt := mk_wt_in 1243 rfl (by decide +kernel)
set_option maxRecDepth 100000 in
theorem kv_Mo_write : Cond.selects (mk_nm n_Mo_write).cls (mk_nm n_Mo_write) (mk_nm n_Mo_write) ∈ mk_wt := mk_wt_in 1244 rfl (by decide +kernel)
set_option maxRecDepth 100000 in
theorem km_Law_33 : Cond.methodLink "LostSevensLaw" 33 (mk_nm n_LS_blank) ∈ mk_wt := mk_wt_in 533 rfl (by decide +kernel)
set_option maxRecDepth 100000 in
theorem kn_LS_blank : Cond.instanceMethod (mk_nm n_LS_blank) ∈ mk_wt := mk_wt_in 534 rfl (by decide +kernel)
set_option maxRecDepth 100000 in
theorem kv_LS_blank : Cond.selects (mk_nm n_LS_blank).cls (mk_nm n_LS_blank) (mk_nm n_LS_blank) ∈ mk_wt := mk_wt_in 535 rfl (by decide +kernel)
set_option maxRecDepth 100000 in
theorem km_Law_36 : Cond.methodLink "LostSevensLaw" 36 (mk_nm n_Mo_blank) ∈ mk_wt := mk_wt_in 1246 rfl (by decide +kernel)
set_option maxRecDepth 100000 in
theorem kn_Mo_blank : Cond.instanceMethod (mk_nm n_Mo_blank) ∈ mk_wt := mk_wt_in 1247 rfl (by decide +kernel)
set_option maxRecDepth 100000 in
theorem kv_Mo_blank : Cond.selects (mk_nm n_Mo_blank).cls (mk_nm n_Mo_blank) (mk_nm n_Mo_blank) ∈ mk_wt := mk_wt_in 1248 rfl (by decide +kernel)
set_option maxRecDepth 100000 in
theorem km_Law_37 : Cond.methodLink "LostSevensLaw" 37 (mk_nm n_LS_read) ∈ mk_wt := mk_wt_in 541 rfl (by decide +kernel)
set_option maxRecDepth 100000 in
theorem kn_LS_read : Cond.instanceMethod (mk_nm n_LS_read) ∈ mk_wt := mk_wt_in 542 rfl (by decide +kernel)
set_option maxRecDepth 100000 in
theorem kv_LS_read : Cond.selects (mk_nm n_LS_read).cls (mk_nm n_LS_read) (mk_nm n_LS_read) ∈ mk_wt := mk_wt_in 543 rfl (by decide +kernel)
set_option maxRecDepth 100000 in
theorem km_Law_40 : Cond.methodLink "LostSevensLaw" 40 (mk_nm n_Mo_read) ∈ mk_wt := mk_wt_in 1250 rfl (by decide +kernel)
set_option maxRecDepth 100000 in
theorem kn_Mo_read : Cond.instanceMethod (mk_nm n_Mo_read) ∈ mk_wt := mk_wt_in 1251 rfl (by decide +kernel)
set_option maxRecDepth 100000 in
theorem kv_Mo_read : Cond.selects (mk_nm n_Mo_read).cls (mk_nm n_Mo_read) (mk_nm n_Mo_read) ∈ mk_wt := mk_wt_in 1252 rfl (by decide +kernel)
set_option maxRecDepth 100000 in
theorem km_Law_41 : Cond.methodLink "LostSevensLaw" 41 (mk_nm n_LS_feed) ∈ mk_wt := mk_wt_in 552 rfl (by decide +kernel)
set_option maxRecDepth 100000 in
theorem kn_LS_feed : Cond.instanceMethod (mk_nm n_LS_feed) ∈ mk_wt := mk_wt_in 553 rfl (by decide +kernel)
set_option maxRecDepth 100000 in
theorem kv_LS_feed : Cond.selects (mk_nm n_LS_feed).cls (mk_nm n_LS_feed) (mk_nm n_LS_feed) ∈ mk_wt := mk_wt_in 554 rfl (by decide +kernel)
set_option maxRecDepth 100000 in
theorem km_Law_45 : Cond.methodLink "LostSevensLaw" 45 (mk_nm n_Mo_feed) ∈ mk_wt := mk_wt_in 1254 rfl (by decide +kernel)
set_option maxRecDepth 100000 in
theorem kn_Mo_feed : Cond.instanceMethod (mk_nm n_Mo_feed) ∈ mk_wt := mk_wt_in 1255 rfl (by decide +kernel)
set_option maxRecDepth 100000 in
theorem kv_Mo_feed : Cond.selects (mk_nm n_Mo_feed).cls (mk_nm n_Mo_feed) (mk_nm n_Mo_feed) ∈ mk_wt := mk_wt_in 1256 rfl (by decide +kernel)
set_option maxRecDepth 100000 in
theorem km_Law_46 : Cond.methodLink "LostSevensLaw" 46 (mk_nm n_LS_end) ∈ mk_wt := mk_wt_in 560 rfl (by decide +kernel)
set_option maxRecDepth 100000 in
theorem kn_LS_end : Cond.instanceMethod (mk_nm n_LS_end) ∈ mk_wt := mk_wt_in 561 rfl (by decide +kernel)
set_option maxRecDepth 100000 in
theorem kv_LS_end : Cond.selects (mk_nm n_LS_end).cls (mk_nm n_LS_end) (mk_nm n_LS_end) ∈ mk_wt := mk_wt_in 562 rfl (by decide +kernel)
set_option maxRecDepth 100000 in
theorem km_Law_50 : Cond.methodLink "LostSevensLaw" 50 (mk_nm n_Mo_end) ∈ mk_wt := mk_wt_in 1258 rfl (by decide +kernel)
set_option maxRecDepth 100000 in
theorem kn_Mo_end : Cond.instanceMethod (mk_nm n_Mo_end) ∈ mk_wt := mk_wt_in 1259 rfl (by decide +kernel)
set_option maxRecDepth 100000 in
theorem kv_Mo_end : Cond.selects (mk_nm n_Mo_end).cls (mk_nm n_Mo_end) (mk_nm n_Mo_end) ∈ mk_wt := mk_wt_in 1260 rfl (by decide +kernel)
set_option maxRecDepth 100000 in
theorem km_Law_51 : Cond.methodLink "LostSevensLaw" 51 (mk_nm n_LS_text) ∈ mk_wt := mk_wt_in 564 rfl (by decide +kernel)
set_option maxRecDepth 100000 in
theorem kn_LS_text : Cond.instanceMethod (mk_nm n_LS_text) ∈ mk_wt := mk_wt_in 565 rfl (by decide +kernel)
set_option maxRecDepth 100000 in
theorem kv_LS_text : Cond.selects (mk_nm n_LS_text).cls (mk_nm n_LS_text) (mk_nm n_LS_text) ∈ mk_wt := mk_wt_in 566 rfl (by decide +kernel)
set_option maxRecDepth 100000 in
theorem km_Law_54 : Cond.methodLink "LostSevensLaw" 54 (mk_nm n_Mo_text) ∈ mk_wt := mk_wt_in 1262 rfl (by decide +kernel)
set_option maxRecDepth 100000 in
theorem kn_Mo_text : Cond.instanceMethod (mk_nm n_Mo_text) ∈ mk_wt := mk_wt_in 1263 rfl (by decide +kernel)
set_option maxRecDepth 100000 in
theorem kv_Mo_text : Cond.selects (mk_nm n_Mo_text).cls (mk_nm n_Mo_text) (mk_nm n_Mo_text) ∈ mk_wt := mk_wt_in 1264 rfl (by decide +kernel)
set_option maxRecDepth 100000 in
theorem km_Law_55 : Cond.methodLink "LostSevensLaw" 55 (mk_nm n_LS_fault) ∈ mk_wt := mk_wt_in 806 rfl (by decide +kernel)
set_option maxRecDepth 100000 in
theorem kn_LS_fault : Cond.instanceMethod (mk_nm n_LS_fault) ∈ mk_wt := mk_wt_in 807 rfl (by decide +kernel)
set_option maxRecDepth 100000 in
theorem kv_LS_fault : Cond.selects (mk_nm n_LS_fault).cls (mk_nm n_LS_fault) (mk_nm n_LS_fault) ∈ mk_wt := mk_wt_in 808 rfl (by decide +kernel)
set_option maxRecDepth 100000 in
theorem km_Law_58 : Cond.methodLink "LostSevensLaw" 58 (mk_nm n_Mo_fault) ∈ mk_wt := mk_wt_in 1350 rfl (by decide +kernel)
set_option maxRecDepth 100000 in
theorem kn_Mo_fault : Cond.instanceMethod (mk_nm n_Mo_fault) ∈ mk_wt := mk_wt_in 1351 rfl (by decide +kernel)
set_option maxRecDepth 100000 in
theorem kv_Mo_fault : Cond.selects (mk_nm n_Mo_fault).cls (mk_nm n_Mo_fault) (mk_nm n_Mo_fault) ∈ mk_wt := mk_wt_in 1352 rfl (by decide +kernel)
set_option maxRecDepth 100000 in
theorem km_Law_59 : Cond.methodLink "LostSevensLaw" 59 (mk_nm n_LS_send) ∈ mk_wt := mk_wt_in 810 rfl (by decide +kernel)
set_option maxRecDepth 100000 in
theorem kn_LS_send : Cond.instanceMethod (mk_nm n_LS_send) ∈ mk_wt := mk_wt_in 811 rfl (by decide +kernel)
set_option maxRecDepth 100000 in
theorem kv_LS_send : Cond.selects (mk_nm n_LS_send).cls (mk_nm n_LS_send) (mk_nm n_LS_send) ∈ mk_wt := mk_wt_in 812 rfl (by decide +kernel)
set_option maxRecDepth 100000 in
theorem km_Law_62 : Cond.methodLink "LostSevensLaw" 62 (mk_nm n_Mo_send) ∈ mk_wt := mk_wt_in 1358 rfl (by decide +kernel)
set_option maxRecDepth 100000 in
theorem kn_Mo_send : Cond.instanceMethod (mk_nm n_Mo_send) ∈ mk_wt := mk_wt_in 1359 rfl (by decide +kernel)
set_option maxRecDepth 100000 in
theorem kv_Mo_send : Cond.selects (mk_nm n_Mo_send).cls (mk_nm n_Mo_send) (mk_nm n_Mo_send) ∈ mk_wt := mk_wt_in 1360 rfl (by decide +kernel)
set_option maxRecDepth 100000 in
theorem km_Law_63 : Cond.methodLink "LostSevensLaw" 63 (mk_nm n_LS_day) ∈ mk_wt := mk_wt_in 889 rfl (by decide +kernel)
set_option maxRecDepth 100000 in
theorem kn_LS_day : Cond.instanceMethod (mk_nm n_LS_day) ∈ mk_wt := mk_wt_in 890 rfl (by decide +kernel)
set_option maxRecDepth 100000 in
theorem kv_LS_day : Cond.selects (mk_nm n_LS_day).cls (mk_nm n_LS_day) (mk_nm n_LS_day) ∈ mk_wt := mk_wt_in 891 rfl (by decide +kernel)
set_option maxRecDepth 100000 in
theorem km_Law_67 : Cond.methodLink "LostSevensLaw" 67 (mk_nm n_Mo_day) ∈ mk_wt := mk_wt_in 1412 rfl (by decide +kernel)
set_option maxRecDepth 100000 in
theorem kn_Mo_day : Cond.instanceMethod (mk_nm n_Mo_day) ∈ mk_wt := mk_wt_in 1413 rfl (by decide +kernel)
set_option maxRecDepth 100000 in
theorem kv_Mo_day : Cond.selects (mk_nm n_Mo_day).cls (mk_nm n_Mo_day) (mk_nm n_Mo_day) ∈ mk_wt := mk_wt_in 1414 rfl (by decide +kernel)
set_option maxRecDepth 100000 in
theorem km_Law_68 : Cond.methodLink "LostSevensLaw" 68 (mk_nm n_LS_of) ∈ mk_wt := mk_wt_in 899 rfl (by decide +kernel)
set_option maxRecDepth 100000 in
theorem kn_LS_of : Cond.instanceMethod (mk_nm n_LS_of) ∈ mk_wt := mk_wt_in 900 rfl (by decide +kernel)
set_option maxRecDepth 100000 in
theorem kv_LS_of : Cond.selects (mk_nm n_LS_of).cls (mk_nm n_LS_of) (mk_nm n_LS_of) ∈ mk_wt := mk_wt_in 901 rfl (by decide +kernel)
set_option maxRecDepth 100000 in
theorem km_Law_71 : Cond.methodLink "LostSevensLaw" 71 (mk_nm n_Mo_of) ∈ mk_wt := mk_wt_in 1422 rfl (by decide +kernel)
set_option maxRecDepth 100000 in
theorem kn_Mo_of : Cond.instanceMethod (mk_nm n_Mo_of) ∈ mk_wt := mk_wt_in 1423 rfl (by decide +kernel)
set_option maxRecDepth 100000 in
theorem kv_Mo_of : Cond.selects (mk_nm n_Mo_of).cls (mk_nm n_Mo_of) (mk_nm n_Mo_of) ∈ mk_wt := mk_wt_in 1424 rfl (by decide +kernel)
set_option maxRecDepth 100000 in
theorem km_Law_72 : Cond.methodLink "LostSevensLaw" 72 (mk_nm n_LS_book) ∈ mk_wt := mk_wt_in 903 rfl (by decide +kernel)
set_option maxRecDepth 100000 in
theorem kn_LS_book : Cond.instanceMethod (mk_nm n_LS_book) ∈ mk_wt := mk_wt_in 904 rfl (by decide +kernel)
set_option maxRecDepth 100000 in
theorem kv_LS_book : Cond.selects (mk_nm n_LS_book).cls (mk_nm n_LS_book) (mk_nm n_LS_book) ∈ mk_wt := mk_wt_in 905 rfl (by decide +kernel)
set_option maxRecDepth 100000 in
theorem km_Law_75 : Cond.methodLink "LostSevensLaw" 75 (mk_nm n_Mo_book) ∈ mk_wt := mk_wt_in 1426 rfl (by decide +kernel)
set_option maxRecDepth 100000 in
theorem kn_Mo_book : Cond.instanceMethod (mk_nm n_Mo_book) ∈ mk_wt := mk_wt_in 1427 rfl (by decide +kernel)
set_option maxRecDepth 100000 in
theorem kv_Mo_book : Cond.selects (mk_nm n_Mo_book).cls (mk_nm n_Mo_book) (mk_nm n_Mo_book) ∈ mk_wt := mk_wt_in 1428 rfl (by decide +kernel)
set_option maxRecDepth 100000 in
theorem km_Law_76 : Cond.methodLink "LostSevensLaw" 76 (mk_nm n_LS_creep) ∈ mk_wt := mk_wt_in 907 rfl (by decide +kernel)
set_option maxRecDepth 100000 in
theorem kn_LS_creep : Cond.instanceMethod (mk_nm n_LS_creep) ∈ mk_wt := mk_wt_in 908 rfl (by decide +kernel)
set_option maxRecDepth 100000 in
theorem kv_LS_creep : Cond.selects (mk_nm n_LS_creep).cls (mk_nm n_LS_creep) (mk_nm n_LS_creep) ∈ mk_wt := mk_wt_in 909 rfl (by decide +kernel)
set_option maxRecDepth 100000 in
theorem km_Law_80 : Cond.methodLink "LostSevensLaw" 80 (mk_nm n_Mo_creep) ∈ mk_wt := mk_wt_in 1430 rfl (by decide +kernel)
set_option maxRecDepth 100000 in
theorem kn_Mo_creep : Cond.instanceMethod (mk_nm n_Mo_creep) ∈ mk_wt := mk_wt_in 1431 rfl (by decide +kernel)
set_option maxRecDepth 100000 in
theorem kv_Mo_creep : Cond.selects (mk_nm n_Mo_creep).cls (mk_nm n_Mo_creep) (mk_nm n_Mo_creep) ∈ mk_wt := mk_wt_in 1432 rfl (by decide +kernel)
set_option maxRecDepth 100000 in
theorem km_Law_81 : Cond.methodLink "LostSevensLaw" 81 (mk_nm n_LS_comes) ∈ mk_wt := mk_wt_in 911 rfl (by decide +kernel)
set_option maxRecDepth 100000 in
theorem kn_LS_comes : Cond.instanceMethod (mk_nm n_LS_comes) ∈ mk_wt := mk_wt_in 912 rfl (by decide +kernel)
set_option maxRecDepth 100000 in
theorem kv_LS_comes : Cond.selects (mk_nm n_LS_comes).cls (mk_nm n_LS_comes) (mk_nm n_LS_comes) ∈ mk_wt := mk_wt_in 913 rfl (by decide +kernel)
set_option maxRecDepth 100000 in
theorem km_Law_85 : Cond.methodLink "LostSevensLaw" 85 (mk_nm n_Mo_comes) ∈ mk_wt := mk_wt_in 1434 rfl (by decide +kernel)
set_option maxRecDepth 100000 in
theorem kn_Mo_comes : Cond.instanceMethod (mk_nm n_Mo_comes) ∈ mk_wt := mk_wt_in 1435 rfl (by decide +kernel)
set_option maxRecDepth 100000 in
theorem kv_Mo_comes : Cond.selects (mk_nm n_Mo_comes).cls (mk_nm n_Mo_comes) (mk_nm n_Mo_comes) ∈ mk_wt := mk_wt_in 1436 rfl (by decide +kernel)
set_option maxRecDepth 100000 in
theorem km_Law_86 : Cond.methodLink "LostSevensLaw" 86 (mk_nm n_LS_meant) ∈ mk_wt := mk_wt_in 915 rfl (by decide +kernel)
set_option maxRecDepth 100000 in
theorem kn_LS_meant : Cond.instanceMethod (mk_nm n_LS_meant) ∈ mk_wt := mk_wt_in 916 rfl (by decide +kernel)
set_option maxRecDepth 100000 in
theorem kv_LS_meant : Cond.selects (mk_nm n_LS_meant).cls (mk_nm n_LS_meant) (mk_nm n_LS_meant) ∈ mk_wt := mk_wt_in 917 rfl (by decide +kernel)
set_option maxRecDepth 100000 in
theorem km_Law_90 : Cond.methodLink "LostSevensLaw" 90 (mk_nm n_Mo_meant) ∈ mk_wt := mk_wt_in 1442 rfl (by decide +kernel)
set_option maxRecDepth 100000 in
theorem kn_Mo_meant : Cond.instanceMethod (mk_nm n_Mo_meant) ∈ mk_wt := mk_wt_in 1443 rfl (by decide +kernel)
set_option maxRecDepth 100000 in
theorem kv_Mo_meant : Cond.selects (mk_nm n_Mo_meant).cls (mk_nm n_Mo_meant) (mk_nm n_Mo_meant) ∈ mk_wt := mk_wt_in 1444 rfl (by decide +kernel)
set_option maxRecDepth 100000 in
theorem km_Law_91 : Cond.methodLink "LostSevensLaw" 91 (mk_nm n_LS_twin) ∈ mk_wt := mk_wt_in 963 rfl (by decide +kernel)
set_option maxRecDepth 100000 in
theorem kn_LS_twin : Cond.instanceMethod (mk_nm n_LS_twin) ∈ mk_wt := mk_wt_in 964 rfl (by decide +kernel)
set_option maxRecDepth 100000 in
theorem kv_LS_twin : Cond.selects (mk_nm n_LS_twin).cls (mk_nm n_LS_twin) (mk_nm n_LS_twin) ∈ mk_wt := mk_wt_in 965 rfl (by decide +kernel)
set_option maxRecDepth 100000 in
theorem km_Law_94 : Cond.methodLink "LostSevensLaw" 94 (mk_nm n_Mo_twin) ∈ mk_wt := mk_wt_in 1461 rfl (by decide +kernel)
set_option maxRecDepth 100000 in
theorem kn_Mo_twin : Cond.instanceMethod (mk_nm n_Mo_twin) ∈ mk_wt := mk_wt_in 1462 rfl (by decide +kernel)
set_option maxRecDepth 100000 in
theorem kv_Mo_twin : Cond.selects (mk_nm n_Mo_twin).cls (mk_nm n_Mo_twin) (mk_nm n_Mo_twin) ∈ mk_wt := mk_wt_in 1463 rfl (by decide +kernel)
set_option maxRecDepth 100000 in
theorem km_Law_95 : Cond.methodLink "LostSevensLaw" 95 (mk_nm n_LS_code) ∈ mk_wt := mk_wt_in 972 rfl (by decide +kernel)
set_option maxRecDepth 100000 in
theorem kn_LS_code : Cond.instanceMethod (mk_nm n_LS_code) ∈ mk_wt := mk_wt_in 973 rfl (by decide +kernel)
set_option maxRecDepth 100000 in
theorem kv_LS_code : Cond.selects (mk_nm n_LS_code).cls (mk_nm n_LS_code) (mk_nm n_LS_code) ∈ mk_wt := mk_wt_in 974 rfl (by decide +kernel)
set_option maxRecDepth 100000 in
theorem km_Law_98 : Cond.methodLink "LostSevensLaw" 98 (mk_nm n_Mo_code) ∈ mk_wt := mk_wt_in 1469 rfl (by decide +kernel)
set_option maxRecDepth 100000 in
theorem kn_Mo_code : Cond.instanceMethod (mk_nm n_Mo_code) ∈ mk_wt := mk_wt_in 1470 rfl (by decide +kernel)
set_option maxRecDepth 100000 in
theorem kv_Mo_code : Cond.selects (mk_nm n_Mo_code).cls (mk_nm n_Mo_code) (mk_nm n_Mo_code) ∈ mk_wt := mk_wt_in 1471 rfl (by decide +kernel)
set_option maxRecDepth 100000 in
theorem km_Law_99 : Cond.methodLink "LostSevensLaw" 99 (mk_nm n_LS_best) ∈ mk_wt := mk_wt_in 999 rfl (by decide +kernel)
set_option maxRecDepth 100000 in
theorem kn_LS_best : Cond.instanceMethod (mk_nm n_LS_best) ∈ mk_wt := mk_wt_in 1000 rfl (by decide +kernel)
set_option maxRecDepth 100000 in
theorem kv_LS_best : Cond.selects (mk_nm n_LS_best).cls (mk_nm n_LS_best) (mk_nm n_LS_best) ∈ mk_wt := mk_wt_in 1001 rfl (by decide +kernel)
set_option maxRecDepth 100000 in
theorem km_Law_102 : Cond.methodLink "LostSevensLaw" 102 (mk_nm n_Mo_best) ∈ mk_wt := mk_wt_in 1481 rfl (by decide +kernel)
set_option maxRecDepth 100000 in
theorem kn_Mo_best : Cond.instanceMethod (mk_nm n_Mo_best) ∈ mk_wt := mk_wt_in 1482 rfl (by decide +kernel)
set_option maxRecDepth 100000 in
theorem kv_Mo_best : Cond.selects (mk_nm n_Mo_best).cls (mk_nm n_Mo_best) (mk_nm n_Mo_best) ∈ mk_wt := mk_wt_in 1483 rfl (by decide +kernel)
set_option maxRecDepth 100000 in
theorem km_Law_103 : Cond.methodLink "LostSevensLaw" 103 (mk_nm n_LS_clerks) ∈ mk_wt := mk_wt_in 1025 rfl (by decide +kernel)
set_option maxRecDepth 100000 in
theorem kn_LS_clerks : Cond.instanceMethod (mk_nm n_LS_clerks) ∈ mk_wt := mk_wt_in 1026 rfl (by decide +kernel)
set_option maxRecDepth 100000 in
theorem kv_LS_clerks : Cond.selects (mk_nm n_LS_clerks).cls (mk_nm n_LS_clerks) (mk_nm n_LS_clerks) ∈ mk_wt := mk_wt_in 1027 rfl (by decide +kernel)
set_option maxRecDepth 100000 in
theorem km_Law_106 : Cond.methodLink "LostSevensLaw" 106 (mk_nm n_Mo_clerks) ∈ mk_wt := mk_wt_in 1497 rfl (by decide +kernel)
set_option maxRecDepth 100000 in
theorem kn_Mo_clerks : Cond.instanceMethod (mk_nm n_Mo_clerks) ∈ mk_wt := mk_wt_in 1498 rfl (by decide +kernel)
set_option maxRecDepth 100000 in
theorem kv_Mo_clerks : Cond.selects (mk_nm n_Mo_clerks).cls (mk_nm n_Mo_clerks) (mk_nm n_Mo_clerks) ∈ mk_wt := mk_wt_in 1499 rfl (by decide +kernel)
set_option maxRecDepth 100000 in
theorem km_Law_107 : Cond.methodLink "LostSevensLaw" 107 (mk_nm n_LS_look) ∈ mk_wt := mk_wt_in 1031 rfl (by decide +kernel)
set_option maxRecDepth 100000 in
theorem kn_LS_look : Cond.instanceMethod (mk_nm n_LS_look) ∈ mk_wt := mk_wt_in 1032 rfl (by decide +kernel)
set_option maxRecDepth 100000 in
theorem kv_LS_look : Cond.selects (mk_nm n_LS_look).cls (mk_nm n_LS_look) (mk_nm n_LS_look) ∈ mk_wt := mk_wt_in 1033 rfl (by decide +kernel)
set_option maxRecDepth 100000 in
theorem km_Law_110 : Cond.methodLink "LostSevensLaw" 110 (mk_nm n_Mo_look) ∈ mk_wt := mk_wt_in 1505 rfl (by decide +kernel)
set_option maxRecDepth 100000 in
theorem kn_Mo_look : Cond.instanceMethod (mk_nm n_Mo_look) ∈ mk_wt := mk_wt_in 1506 rfl (by decide +kernel)
set_option maxRecDepth 100000 in
theorem kv_Mo_look : Cond.selects (mk_nm n_Mo_look).cls (mk_nm n_Mo_look) (mk_nm n_Mo_look) ∈ mk_wt := mk_wt_in 1507 rfl (by decide +kernel)
set_option maxRecDepth 100000 in
theorem km_Law_111 : Cond.methodLink "LostSevensLaw" 111 (mk_nm n_LS_cure) ∈ mk_wt := mk_wt_in 1048 rfl (by decide +kernel)
set_option maxRecDepth 100000 in
theorem kn_LS_cure : Cond.instanceMethod (mk_nm n_LS_cure) ∈ mk_wt := mk_wt_in 1049 rfl (by decide +kernel)
set_option maxRecDepth 100000 in
theorem kv_LS_cure : Cond.selects (mk_nm n_LS_cure).cls (mk_nm n_LS_cure) (mk_nm n_LS_cure) ∈ mk_wt := mk_wt_in 1050 rfl (by decide +kernel)
set_option maxRecDepth 100000 in
theorem km_Law_114 : Cond.methodLink "LostSevensLaw" 114 (mk_nm n_Mo_cure) ∈ mk_wt := mk_wt_in 1509 rfl (by decide +kernel)
set_option maxRecDepth 100000 in
theorem kn_Mo_cure : Cond.instanceMethod (mk_nm n_Mo_cure) ∈ mk_wt := mk_wt_in 1510 rfl (by decide +kernel)
set_option maxRecDepth 100000 in
theorem kv_Mo_cure : Cond.selects (mk_nm n_Mo_cure).cls (mk_nm n_Mo_cure) (mk_nm n_Mo_cure) ∈ mk_wt := mk_wt_in 1511 rfl (by decide +kernel)
set_option maxRecDepth 100000 in
theorem km_Law_115 : Cond.methodLink "LostSevensLaw" 115 (mk_nm n_LS_undo) ∈ mk_wt := mk_wt_in 1058 rfl (by decide +kernel)
set_option maxRecDepth 100000 in
theorem kn_LS_undo : Cond.instanceMethod (mk_nm n_LS_undo) ∈ mk_wt := mk_wt_in 1059 rfl (by decide +kernel)
set_option maxRecDepth 100000 in
theorem kv_LS_undo : Cond.selects (mk_nm n_LS_undo).cls (mk_nm n_LS_undo) (mk_nm n_LS_undo) ∈ mk_wt := mk_wt_in 1060 rfl (by decide +kernel)
set_option maxRecDepth 100000 in
theorem km_Law_119 : Cond.methodLink "LostSevensLaw" 119 (mk_nm n_Mo_undo) ∈ mk_wt := mk_wt_in 1354 rfl (by decide +kernel)
set_option maxRecDepth 100000 in
theorem kn_Mo_undo : Cond.instanceMethod (mk_nm n_Mo_undo) ∈ mk_wt := mk_wt_in 1355 rfl (by decide +kernel)
set_option maxRecDepth 100000 in
theorem kv_Mo_undo : Cond.selects (mk_nm n_Mo_undo).cls (mk_nm n_Mo_undo) (mk_nm n_Mo_undo) ∈ mk_wt := mk_wt_in 1356 rfl (by decide +kernel)
set_option maxRecDepth 100000 in
theorem km_Law_120 : Cond.methodLink "LostSevensLaw" 120 (mk_nm n_LS_image) ∈ mk_wt := mk_wt_in 1066 rfl (by decide +kernel)
set_option maxRecDepth 100000 in
theorem kn_LS_image : Cond.instanceMethod (mk_nm n_LS_image) ∈ mk_wt := mk_wt_in 1067 rfl (by decide +kernel)
set_option maxRecDepth 100000 in
theorem kv_LS_image : Cond.selects (mk_nm n_LS_image).cls (mk_nm n_LS_image) (mk_nm n_LS_image) ∈ mk_wt := mk_wt_in 1068 rfl (by decide +kernel)
set_option maxRecDepth 100000 in
theorem km_Law_124 : Cond.methodLink "LostSevensLaw" 124 (mk_nm n_Mo_image) ∈ mk_wt := mk_wt_in 1517 rfl (by decide +kernel)
set_option maxRecDepth 100000 in
theorem kn_Mo_image : Cond.instanceMethod (mk_nm n_Mo_image) ∈ mk_wt := mk_wt_in 1518 rfl (by decide +kernel)
set_option maxRecDepth 100000 in
theorem kv_Mo_image : Cond.selects (mk_nm n_Mo_image).cls (mk_nm n_Mo_image) (mk_nm n_Mo_image) ∈ mk_wt := mk_wt_in 1519 rfl (by decide +kernel)
set_option maxRecDepth 100000 in
theorem km_Law_125 : Cond.methodLink "LostSevensLaw" 125 (mk_nm n_LS_tells) ∈ mk_wt := mk_wt_in 1085 rfl (by decide +kernel)
set_option maxRecDepth 100000 in
theorem kn_LS_tells : Cond.instanceMethod (mk_nm n_LS_tells) ∈ mk_wt := mk_wt_in 1086 rfl (by decide +kernel)
set_option maxRecDepth 100000 in
theorem kv_LS_tells : Cond.selects (mk_nm n_LS_tells).cls (mk_nm n_LS_tells) (mk_nm n_LS_tells) ∈ mk_wt := mk_wt_in 1087 rfl (by decide +kernel)
set_option maxRecDepth 100000 in
theorem km_Law_128 : Cond.methodLink "LostSevensLaw" 128 (mk_nm n_Mo_tells) ∈ mk_wt := mk_wt_in 1521 rfl (by decide +kernel)
set_option maxRecDepth 100000 in
theorem kn_Mo_tells : Cond.instanceMethod (mk_nm n_Mo_tells) ∈ mk_wt := mk_wt_in 1522 rfl (by decide +kernel)
set_option maxRecDepth 100000 in
theorem kv_Mo_tells : Cond.selects (mk_nm n_Mo_tells).cls (mk_nm n_Mo_tells) (mk_nm n_Mo_tells) ∈ mk_wt := mk_wt_in 1523 rfl (by decide +kernel)
set_option maxRecDepth 100000 in
set_option maxHeartbeats 4000000 in
theorem rw_Past_init : mk_Rows n_Past_init := by
  intro p l e R s m args below meth c D cy b sk lim cr Q n0 d E
  show ∀ q ∈ t_Past_init, _
  refine mk_cons (sn_aload_n (k := 0) E.1 E.2.2.2.1 (by decide +kernel) rfl) ?_
  refine mk_cons (sn_oini (i := 3) E.1 km_Past_3 kn_oini kd_oini (by decide +kernel)) ?_
  refine mk_cons (sn_aload_n (k := 0) E.1 E.2.2.2.1 (by decide +kernel) rfl) ?_
  refine mk_cons (sn_bipush (n := 8) E.1 (by decide +kernel) (by decide +kernel)) ?_
  refine mk_cons (sn_newR (i := 9) (C := RX3) E.1 ⟨by decide, rfl⟩ kk_Past_9 E.2.2.2.2.1.2.2.1 (by decide +kernel)) ?_
  refine mk_cons (sn_putRF (i := 11) E.1 E.2.2.1 cls_5 (by decide) rfl (Or.inr ⟨_, rfl⟩) rfl rfl kf_Past_11 (by decide +kernel)) ?_
  refine mk_cons (sn_aload_n (k := 0) E.1 E.2.2.2.1 (by decide +kernel) rfl) ?_
  refine mk_cons (sn_bipush (n := 8) E.1 (by decide +kernel) (by decide +kernel)) ?_
  refine mk_cons (sn_bipush (n := 120) E.1 (by decide +kernel) (by decide +kernel)) ?_
  refine mk_cons (sn_mna (i := 17) E.1 kk_Past_17 E.2.2.2.2.1.2.2.2.2 ka_int (by decide +kernel)) ?_
  refine mk_cons (sn_putRF (i := 19) E.1 E.2.2.1 cls_5 (by decide) rfl (Or.inr ⟨_, rfl⟩) rfl rfl kf_Past_19 (by decide +kernel)) ?_
  refine mk_cons (sn_aload_n (k := 0) E.1 E.2.2.2.1 (by decide +kernel) rfl) ?_
  refine mk_cons (sn_bipush (n := 8) E.1 (by decide +kernel) (by decide +kernel)) ?_
  refine mk_cons (sn_newI E.1 ka_int (by decide +kernel)) ?_
  refine mk_cons (sn_putRF (i := 22) E.1 E.2.2.1 cls_5 (by decide) rfl (Or.inr ⟨_, rfl⟩) rfl rfl kf_Past_22 (by decide +kernel)) ?_
  refine mk_cons (sn_aload_n (k := 0) E.1 E.2.2.2.1 (by decide +kernel) rfl) ?_
  refine mk_cons (sn_bipush (n := 8) E.1 (by decide +kernel) (by decide +kernel)) ?_
  refine mk_cons (sn_newI E.1 ka_int (by decide +kernel)) ?_
  refine mk_cons (sn_putRF (i := 26) E.1 E.2.2.1 cls_5 (by decide) rfl (Or.inr ⟨_, rfl⟩) rfl rfl kf_Past_26 (by decide +kernel)) ?_
  refine mk_cons (sn_aload_n (k := 0) E.1 E.2.2.2.1 (by decide +kernel) rfl) ?_
  refine mk_cons (sn_bipush (n := 8) E.1 (by decide +kernel) (by decide +kernel)) ?_
  refine mk_cons (sn_newJ E.1 ka_long (by decide +kernel)) ?_
  refine mk_cons (sn_putRF (i := 29) E.1 E.2.2.1 cls_5 (by decide) rfl (Or.inr ⟨_, rfl⟩) rfl rfl kf_Past_29 (by decide +kernel)) ?_
  refine mk_cons (sn_aload_n (k := 0) E.1 E.2.2.2.1 (by decide +kernel) rfl) ?_
  refine mk_cons (sn_iconst (n := 0) E.1 (by decide +kernel) (by decide +kernel)) ?_
  refine mk_cons (sn_putI (i := 33) E.1 cls_5 (by decide) rfl rfl rfl kf_Past_33 (by decide +kernel)) ?_
  refine mk_cons (sn_aload_n (k := 0) E.1 E.2.2.2.1 (by decide +kernel) rfl) ?_
  refine mk_cons (sn_iconst (n := 0) E.1 (by decide +kernel) (by decide +kernel)) ?_
  refine mk_cons (sn_putI (i := 37) E.1 cls_5 (by decide) rfl rfl rfl kf_Past_37 (by decide +kernel)) ?_
  refine mk_cons (sn_iconst (n := 0) E.1 (by decide +kernel) (by decide +kernel)) ?_
  refine mk_cons (sn_istore_n (k := 1) E.1 (by decide +kernel) rfl (by decide +kernel)) ?_
  refine mk_cons (sn_iload_n (k := 1) E.1 (by decide +kernel) rfl) ?_
  refine mk_cons (sn_bipush (n := 8) E.1 (by decide +kernel) (by decide +kernel)) ?_
  refine mk_cons (sn_cge (off := 22) E.1 (by decide +kernel) (by decide +kernel)) ?_
  refine mk_cons (sn_aload_n (k := 0) E.1 E.2.2.2.1 (by decide +kernel) rfl) ?_
  refine mk_cons (sn_getR (i := 11) E.1 cls_5 (by decide) rfl kf_Past_11 (by decide +kernel)) ?_
  refine mk_cons (sn_iload_n (k := 1) E.1 (by decide +kernel) rfl) ?_
  refine mk_cons (sn_new (i := 9) E.1 cls_3 rfl kk_Past_9 ki_Message kz_Message (by decide +kernel)) ?_
  refine mk_cons (sn_dup E.1 (by decide +kernel)) ?_
  refine mk_cons (sn_callI (i := 40) E.1 E.2.2.2.1 E.2.2.2.2.1 E.2.2.2.2.2.1 (E.2.2.2.2.2.2.2 n_Message_init) ok_Message_init rfl rfl km_Past_40 kn_Message_init (by decide +kernel)) ?_
  refine mk_cons (sn_aast E.1 (by decide +kernel)) ?_
  refine mk_cons (sn_iinc (n := 1) E.1 (by decide +kernel) (by decide +kernel) (by decide +kernel)) ?_
  refine mk_cons (sn_goto (off := (-22)) E.1 (by decide +kernel) (by decide +kernel)) ?_
  refine mk_cons (sn_ret E.1 E.2.1 E.2.2.2.2.2.2.1 (by decide +kernel)) ?_
  exact mk_nil
def mk_Pz (z : Nat) : Prop := (∃ n, mk_ok z n ∧ mk_Rows z) ∨ (mj_pr z).2 = []
theorem pz_20 : ∀ z, z < 20 → mk_Pz z := lt_s (lt_s (lt_s (lt_s (lt_s (lt_s (lt_s (lt_s (lt_s (lt_s (lt_s (lt_s (lt_s (lt_s (lt_s (lt_s (lt_s (lt_s (lt_s (lt_s (lt_0) (Or.inl ⟨_, ok_Clerk_init, rw_Clerk_init⟩)) (Or.inl ⟨_, ok_Clerk_carry, rw_Clerk_carry⟩)) (Or.inl ⟨_, ok_Clerk_translate, rw_Clerk_translate⟩)) (Or.inl ⟨_, ok_Clerk_begin, rw_Clerk_begin⟩)) (Or.inl ⟨_, ok_Clerk_ruleAt, rw_Clerk_ruleAt⟩)) (Or.inl ⟨_, ok_Clerk_holds, rw_Clerk_holds⟩)) (Or.inl ⟨_, ok_Clerk_isOperand, rw_Clerk_isOperand⟩)) (Or.inl ⟨_, ok_Clerk_join, rw_Clerk_join⟩)) (Or.inl ⟨_, ok_Coder_init, rw_Coder_init⟩)) (Or.inl ⟨_, ok_Coder_findLength, rw_Coder_findLength⟩)) (Or.inl ⟨_, ok_Coder_takes, rw_Coder_takes⟩)) (Or.inl ⟨_, ok_Coder_spell, rw_Coder_spell⟩)) (Or.inl ⟨_, ok_Coder_whatComes, rw_Coder_whatComes⟩)) (Or.inl ⟨_, ok_Coder_isNew, rw_Coder_isNew⟩)) (Or.inl ⟨_, ok_Line_init, rw_Line_init⟩)) (Or.inl ⟨_, ok_Line_otherEnd, rw_Line_otherEnd⟩)) (Or.inl ⟨_, ok_Line_lostDigits, rw_Line_lostDigits⟩)) (Or.inl ⟨_, ok_Line_copyFrom, rw_Line_copyFrom⟩)) (Or.inl ⟨_, ok_Message_init, rw_Message_init⟩)) (Or.inl ⟨_, ok_Message_clear, rw_Message_clear⟩)
theorem pz_40 : ∀ z, z < 40 → mk_Pz z := lt_s (lt_s (lt_s (lt_s (lt_s (lt_s (lt_s (lt_s (lt_s (lt_s (lt_s (lt_s (lt_s (lt_s (lt_s (lt_s (lt_s (lt_s (lt_s (lt_s (pz_20) (Or.inl ⟨_, ok_Message_append, rw_Message_append⟩)) (Or.inl ⟨_, ok_Message_digitAt, rw_Message_digitAt⟩)) (Or.inl ⟨_, ok_Message_copyFrom, rw_Message_copyFrom⟩)) (Or.inl ⟨_, ok_Message_sameAs, rw_Message_sameAs⟩)) (Or.inl ⟨_, ok_Message_value, rw_Message_value⟩)) (Or.inl ⟨_, ok_Message_digitSet, rw_Message_digitSet⟩)) (Or.inl ⟨_, ok_Message_keepFrom, rw_Message_keepFrom⟩)) (Or.inl ⟨_, ok_Parser_init, rw_Parser_init⟩)) (Or.inl ⟨_, ok_Parser_clearFault, rw_Parser_clearFault⟩)) (Or.inl ⟨_, ok_Parser_readTape, rw_Parser_readTape⟩)) (Or.inl ⟨_, ok_Parser_exchange, rw_Parser_exchange⟩)) (Or.inl ⟨_, ok_Parser_refuse, rw_Parser_refuse⟩)) (Or.inl ⟨_, ok_Parser_pass, rw_Parser_pass⟩)) (Or.inl ⟨_, ok_Parser_passRule, rw_Parser_passRule⟩)) (Or.inl ⟨_, ok_Parser_passReplacement, rw_Parser_passReplacement⟩)) (Or.inl ⟨_, ok_Parser_passCondition, rw_Parser_passCondition⟩)) (Or.inl ⟨_, ok_Parser_takeToken, rw_Parser_takeToken⟩)) (Or.inl ⟨_, ok_Parser_takeClaim, rw_Parser_takeClaim⟩)) (Or.inl ⟨_, ok_Parser_takeOperand, rw_Parser_takeOperand⟩)) (Or.inl ⟨_, ok_Parser_takeDivisor, rw_Parser_takeDivisor⟩)
theorem pz_60 : ∀ z, z < 60 → mk_Pz z := lt_s (lt_s (lt_s (lt_s (lt_s (lt_s (lt_s (lt_s (lt_s (lt_s (lt_s (lt_s (lt_s (lt_s (lt_s (lt_s (lt_s (lt_s (lt_s (lt_s (pz_40) (Or.inl ⟨_, ok_Parser_takeJoint, rw_Parser_takeJoint⟩)) (Or.inl ⟨_, ok_Parser_canJoin, rw_Parser_canJoin⟩)) (Or.inl ⟨_, ok_Parser_takeEnd, rw_Parser_takeEnd⟩)) (Or.inl ⟨_, ok_Parser_await, rw_Parser_await⟩)) (Or.inl ⟨_, ok_Parser_settle, rw_Parser_settle⟩)) (Or.inl ⟨_, ok_Parser_strengthOf, rw_Parser_strengthOf⟩)) (Or.inl ⟨_, ok_Past_init, rw_Past_init⟩)) (Or.inl ⟨_, ok_Past_forget, rw_Past_forget⟩)) (Or.inl ⟨_, ok_Past_remember, rw_Past_remember⟩)) (Or.inl ⟨_, ok_Past_goBack, rw_Past_goBack⟩)) (Or.inl ⟨_, ok_Router_init, rw_Router_init⟩)) (Or.inl ⟨_, ok_Router_search, rw_Router_search⟩)) (Or.inl ⟨_, ok_Router_goOn, rw_Router_goOn⟩)) (Or.inl ⟨_, ok_Router_goTo, rw_Router_goTo⟩)) (Or.inl ⟨_, ok_Router_isBetter, rw_Router_isBetter⟩)) (Or.inl ⟨_, ok_Rules_init, rw_Rules_init⟩)) (Or.inl ⟨_, ok_Rules_clear, rw_Rules_clear⟩)) (Or.inl ⟨_, ok_Rules_begin, rw_Rules_begin⟩)) (Or.inl ⟨_, ok_Rules_spell, rw_Rules_spell⟩)) (Or.inl ⟨_, ok_Rules_addStep, rw_Rules_addStep⟩)
theorem pz_80 : ∀ z, z < 80 → mk_Pz z := lt_s (lt_s (lt_s (lt_s (lt_s (lt_s (lt_s (lt_s (lt_s (lt_s (lt_s (lt_s (lt_s (lt_s (lt_s (lt_s (lt_s (lt_s (lt_s (lt_s (pz_60) (Or.inl ⟨_, ok_Rules_copyFrom, rw_Rules_copyFrom⟩)) (Or.inl ⟨_, ok_Seeker_init, rw_Seeker_init⟩)) (Or.inl ⟨_, ok_Seeker_wantSeen, rw_Seeker_wantSeen⟩)) (Or.inl ⟨_, ok_Seeker_wantTwin, rw_Seeker_wantTwin⟩)) (Or.inl ⟨_, ok_Seeker_seek, rw_Seeker_seek⟩)) (Or.inl ⟨_, ok_Seeker_isOver, rw_Seeker_isOver⟩)) (Or.inl ⟨_, ok_Seeker_chooseAt, rw_Seeker_chooseAt⟩)) (Or.inl ⟨_, ok_Seeker_goOnFrom, rw_Seeker_goOnFrom⟩)) (Or.inl ⟨_, ok_Seeker_follow, rw_Seeker_follow⟩)) (Or.inl ⟨_, ok_Seeker_meet, rw_Seeker_meet⟩)) (Or.inl ⟨_, ok_Seeker_judge, rw_Seeker_judge⟩)) (Or.inl ⟨_, ok_Tape_init, rw_Tape_init⟩)) (Or.inl ⟨_, ok_Tape_append, rw_Tape_append⟩)) (Or.inl ⟨_, ok_Tape_rewind, rw_Tape_rewind⟩)) (Or.inl ⟨_, ok_Tape_advance, rw_Tape_advance⟩)) (Or.inl ⟨_, ok_Tape_numeralHere, rw_Tape_numeralHere⟩)) (Or.inl ⟨_, ok_Tape_numberHere, rw_Tape_numberHere⟩)) (Or.inl ⟨_, ok_Tape_lettersFrom, rw_Tape_lettersFrom⟩)) (Or.inl ⟨_, ok_Tape_numeralsFrom, rw_Tape_numeralsFrom⟩)) (Or.inl ⟨_, ok_Tape_keywordHere, rw_Tape_keywordHere⟩)
theorem pz_100 : ∀ z, z < 100 → mk_Pz z := lt_s (lt_s (lt_s (lt_s (lt_s (lt_s (lt_s (lt_s (lt_s (lt_s (lt_s (lt_s (lt_s (lt_s (lt_s (lt_s (lt_s (lt_s (lt_s (lt_s (pz_80) (Or.inl ⟨_, ok_Tape_spells, rw_Tape_spells⟩)) (Or.inl ⟨_, ok_Tape_isBlank, rw_Tape_isBlank⟩)) (Or.inl ⟨_, ok_Tape_isLetter, rw_Tape_isLetter⟩)) (Or.inl ⟨_, ok_Tape_isNumeral, rw_Tape_isNumeral⟩)) (Or.inl ⟨_, ok_World_init, rw_World_init⟩)) (Or.inl ⟨_, ok_World_hasLine, rw_World_hasLine⟩)) (Or.inl ⟨_, ok_World_drawThousand, rw_World_drawThousand⟩)) (Or.inl ⟨_, ok_World_keepLoss, rw_World_keepLoss⟩)) (Or.inl ⟨_, ok_World_keepLook, rw_World_keepLook⟩)) (Or.inl ⟨_, ok_World_showsWithout, rw_World_showsWithout⟩)) (Or.inl ⟨_, ok_World_copyFrom, rw_World_copyFrom⟩)) (Or.inl ⟨_, ok_LS_init, rw_LS_init⟩)) (Or.inl ⟨_, ok_LS_state, rw_LS_state⟩)) (Or.inl ⟨_, ok_LS_line, rw_LS_line⟩)) (Or.inl ⟨_, ok_LS_set, rw_LS_set⟩)) (Or.inl ⟨_, ok_LS_write, rw_LS_write⟩)) (Or.inl ⟨_, ok_LS_blank, rw_LS_blank⟩)) (Or.inl ⟨_, ok_LS_read, rw_LS_read⟩)) (Or.inl ⟨_, ok_LS_feed, rw_LS_feed⟩)) (Or.inl ⟨_, ok_LS_end, rw_LS_end⟩)
theorem pz_120 : ∀ z, z < 120 → mk_Pz z := lt_s (lt_s (lt_s (lt_s (lt_s (lt_s (lt_s (lt_s (lt_s (lt_s (lt_s (lt_s (lt_s (lt_s (lt_s (lt_s (lt_s (lt_s (lt_s (lt_s (pz_100) (Or.inl ⟨_, ok_LS_text, rw_LS_text⟩)) (Or.inl ⟨_, ok_LS_fault, rw_LS_fault⟩)) (Or.inl ⟨_, ok_LS_send, rw_LS_send⟩)) (Or.inl ⟨_, ok_LS_day, rw_LS_day⟩)) (Or.inl ⟨_, ok_LS_of, rw_LS_of⟩)) (Or.inl ⟨_, ok_LS_book, rw_LS_book⟩)) (Or.inl ⟨_, ok_LS_creep, rw_LS_creep⟩)) (Or.inl ⟨_, ok_LS_comes, rw_LS_comes⟩)) (Or.inl ⟨_, ok_LS_meant, rw_LS_meant⟩)) (Or.inl ⟨_, ok_LS_twin, rw_LS_twin⟩)) (Or.inl ⟨_, ok_LS_code, rw_LS_code⟩)) (Or.inl ⟨_, ok_LS_best, rw_LS_best⟩)) (Or.inl ⟨_, ok_LS_clerks, rw_LS_clerks⟩)) (Or.inl ⟨_, ok_LS_look, rw_LS_look⟩)) (Or.inl ⟨_, ok_LS_cure, rw_LS_cure⟩)) (Or.inl ⟨_, ok_LS_undo, rw_LS_undo⟩)) (Or.inl ⟨_, ok_LS_image, rw_LS_image⟩)) (Or.inl ⟨_, ok_LS_tells, rw_LS_tells⟩)) (Or.inl ⟨_, ok_LS_isStation, rw_LS_isStation⟩)) (Or.inl ⟨_, ok_LS_isKind, rw_LS_isKind⟩)
theorem pz_140 : ∀ z, z < 140 → mk_Pz z := lt_s (lt_s (lt_s (lt_s (lt_s (lt_s (lt_s (lt_s (lt_s (lt_s (lt_s (lt_s (lt_s (lt_s (lt_s (lt_s (lt_s (lt_s (lt_s (lt_s (pz_120) (Or.inl ⟨_, ok_LS_isSet, rw_LS_isSet⟩)) (Or.inl ⟨_, ok_LS_isOdds, rw_LS_isOdds⟩)) (Or.inl ⟨_, ok_LS_isFlag, rw_LS_isFlag⟩)) (Or.inl ⟨_, ok_LS_isDigit, rw_LS_isDigit⟩)) (Or.inl ⟨_, ok_LS_canBeSet, rw_LS_canBeSet⟩)) (Or.inl ⟨_, ok_LS_messageOf, rw_LS_messageOf⟩)) (Or.inl ⟨_, ok_LS_lengthOrDigit, rw_LS_lengthOrDigit⟩)) (Or.inl ⟨_, ok_LS_digitOfRow, rw_LS_digitOfRow⟩)) (Or.inl ⟨_, ok_LS_linesOfRoute, rw_LS_linesOfRoute⟩)) (Or.inl ⟨_, ok_LS_carryForGood, rw_LS_carryForGood⟩)) (Or.inl ⟨_, ok_Mo_init, rw_Mo_init⟩)) (Or.inl ⟨_, ok_Mo_isIn, rw_Mo_isIn⟩)) (Or.inl ⟨_, ok_Mo_isLine, rw_Mo_isLine⟩)) (Or.inl ⟨_, ok_Mo_own, rw_Mo_own⟩)) (Or.inl ⟨_, ok_Mo_gives, rw_Mo_gives⟩)) (Or.inl ⟨_, ok_Mo_isStation, rw_Mo_isStation⟩)) (Or.inl ⟨_, ok_Mo_state, rw_Mo_state⟩)) (Or.inl ⟨_, ok_Mo_draw, rw_Mo_draw⟩)) (Or.inl ⟨_, ok_Mo_line, rw_Mo_line⟩)) (Or.inl ⟨_, ok_Mo_set, rw_Mo_set⟩)
theorem pz_160 : ∀ z, z < 160 → mk_Pz z := lt_s (lt_s (lt_s (lt_s (lt_s (lt_s (lt_s (lt_s (lt_s (lt_s (lt_s (lt_s (lt_s (lt_s (lt_s (lt_s (lt_s (lt_s (lt_s (lt_s (pz_140) (Or.inl ⟨_, ok_Mo_write, rw_Mo_write⟩)) (Or.inl ⟨_, ok_Mo_blank, rw_Mo_blank⟩)) (Or.inl ⟨_, ok_Mo_read, rw_Mo_read⟩)) (Or.inl ⟨_, ok_Mo_feed, rw_Mo_feed⟩)) (Or.inl ⟨_, ok_Mo_end, rw_Mo_end⟩)) (Or.inl ⟨_, ok_Mo_see, rw_Mo_see⟩)) (Or.inl ⟨_, ok_Mo_isLetter, rw_Mo_isLetter⟩)) (Or.inl ⟨_, ok_Mo_isDigit, rw_Mo_isDigit⟩)) (Or.inl ⟨_, ok_Mo_is, rw_Mo_is⟩)) (Or.inl ⟨_, ok_Mo_nameWord, rw_Mo_nameWord⟩)) (Or.inl ⟨_, ok_Mo_word, rw_Mo_word⟩)) (Or.inl ⟨_, ok_Mo_next0, rw_Mo_next0⟩)) (Or.inl ⟨_, ok_Mo_bad, rw_Mo_bad⟩)) (Or.inl ⟨_, ok_Mo_need, rw_Mo_need⟩)) (Or.inl ⟨_, ok_Mo_lay, rw_Mo_lay⟩)) (Or.inl ⟨_, ok_Mo_opens, rw_Mo_opens⟩)) (Or.inl ⟨_, ok_Mo_sumUp, rw_Mo_sumUp⟩)) (Or.inl ⟨_, ok_Mo_product, rw_Mo_product⟩)) (Or.inl ⟨_, ok_Mo_unit, rw_Mo_unit⟩)) (Or.inl ⟨_, ok_Mo_any, rw_Mo_any⟩)
theorem pz_180 : ∀ z, z < 180 → mk_Pz z := lt_s (lt_s (lt_s (lt_s (lt_s (lt_s (lt_s (lt_s (lt_s (lt_s (lt_s (lt_s (lt_s (lt_s (lt_s (lt_s (lt_s (lt_s (lt_s (lt_s (pz_160) (Or.inl ⟨_, ok_Mo_every, rw_Mo_every⟩)) (Or.inl ⟨_, ok_Mo_oneTest, rw_Mo_oneTest⟩)) (Or.inl ⟨_, ok_Mo_aLine, rw_Mo_aLine⟩)) (Or.inl ⟨_, ok_Mo_text, rw_Mo_text⟩)) (Or.inl ⟨_, ok_Mo_fault, rw_Mo_fault⟩)) (Or.inl ⟨_, ok_Mo_both, rw_Mo_both⟩)) (Or.inl ⟨_, ok_Mo_comesTo, rw_Mo_comesTo⟩)) (Or.inl ⟨_, ok_Mo_puts, rw_Mo_puts⟩)) (Or.inl ⟨_, ok_Mo_ruleFor, rw_Mo_ruleFor⟩)) (Or.inl ⟨_, ok_Mo_tenTo, rw_Mo_tenTo⟩)) (Or.inl ⟨_, ok_Mo_makes, rw_Mo_makes⟩)) (Or.inl ⟨_, ok_Mo_writes, rw_Mo_writes⟩)) (Or.inl ⟨_, ok_Mo_goesBy, rw_Mo_goesBy⟩)) (Or.inl ⟨_, ok_Mo_takesPaper, rw_Mo_takesPaper⟩)) (Or.inl ⟨_, ok_Mo_otherEnd, rw_Mo_otherEnd⟩)) (Or.inl ⟨_, ok_Mo_keeps, rw_Mo_keeps⟩)) (Or.inl ⟨_, ok_Mo_undo, rw_Mo_undo⟩)) (Or.inl ⟨_, ok_Mo_valueOf, rw_Mo_valueOf⟩)) (Or.inl ⟨_, ok_Mo_send, rw_Mo_send⟩)) (Or.inl ⟨_, ok_Mo_day, rw_Mo_day⟩)
theorem pz_200 : ∀ z, z < 200 → mk_Pz z := lt_s (lt_s (lt_s (lt_s (lt_s (lt_s (lt_s (lt_s (lt_s (lt_s (lt_s (lt_s (lt_s (lt_s (lt_s (lt_s (lt_s (lt_s (lt_s (lt_s (pz_180) (Or.inl ⟨_, ok_Mo_of, rw_Mo_of⟩)) (Or.inl ⟨_, ok_Mo_book, rw_Mo_book⟩)) (Or.inl ⟨_, ok_Mo_creep, rw_Mo_creep⟩)) (Or.inl ⟨_, ok_Mo_isFrost, rw_Mo_isFrost⟩)) (Or.inl ⟨_, ok_Mo_comes, rw_Mo_comes⟩)) (Or.inl ⟨_, ok_Mo_takesNumber, rw_Mo_takesNumber⟩)) (Or.inl ⟨_, ok_Mo_powerOf, rw_Mo_powerOf⟩)) (Or.inl ⟨_, ok_Mo_isSeen, rw_Mo_isSeen⟩)) (Or.inl ⟨_, ok_Mo_digitOf, rw_Mo_digitOf⟩)) (Or.inl ⟨_, ok_Mo_meant, rw_Mo_meant⟩)) (Or.inl ⟨_, ok_Mo_isPaper, rw_Mo_isPaper⟩)) (Or.inl ⟨_, ok_Mo_twin, rw_Mo_twin⟩)) (Or.inl ⟨_, ok_Mo_couldComeOf, rw_Mo_couldComeOf⟩)) (Or.inl ⟨_, ok_Mo_tries, rw_Mo_tries⟩)) (Or.inl ⟨_, ok_Mo_code, rw_Mo_code⟩)) (Or.inl ⟨_, ok_Mo_lies, rw_Mo_lies⟩)) (Or.inl ⟨_, ok_Mo_comesBack, rw_Mo_comesBack⟩)) (Or.inl ⟨_, ok_Mo_seeks, rw_Mo_seeks⟩)) (Or.inl ⟨_, ok_Mo_best, rw_Mo_best⟩)) (Or.inl ⟨_, ok_Mo_clerks, rw_Mo_clerks⟩)
theorem pz_220 : ∀ z, z < 220 → mk_Pz z := lt_s (lt_s (lt_s (lt_s (lt_s (lt_s (lt_s (lt_s (lt_s (lt_s (lt_s (lt_s (lt_s (lt_s (lt_s (lt_s (lt_s (lt_s (lt_s (lt_s (pz_200) (Or.inl ⟨_, ok_Mo_clerksOf, rw_Mo_clerksOf⟩)) (Or.inl ⟨_, ok_Mo_look, rw_Mo_look⟩)) (Or.inl ⟨_, ok_Mo_isSo, rw_Mo_isSo⟩)) (Or.inl ⟨_, ok_Mo_cure, rw_Mo_cure⟩)) (Or.inl ⟨_, ok_Mo_image, rw_Mo_image⟩)) (Or.inl ⟨_, ok_Mo_tells, rw_Mo_tells⟩)) (Or.inl ⟨_, ok_Int_bitCount, rw_Int_bitCount⟩)) (Or.inl ⟨_, ok_Str_length, rw_Str_length⟩)) (Or.inl ⟨_, ok_Str_charAt, rw_Str_charAt⟩)) (Or.inl ⟨_, ok_Str_indexOf, rw_Str_indexOf⟩)) (Or.inl ⟨_, ok_Str_indexOf2, rw_Str_indexOf2⟩)) (Or.inl ⟨_, ok_Str_coder, rw_Str_coder⟩)) (Or.inl ⟨_, ok_Str_isLatin1, rw_Str_isLatin1⟩)) (Or.inl ⟨_, ok_Str_checkIndex, rw_Str_checkIndex⟩)) (Or.inl ⟨_, ok_L1_charAt, rw_L1_charAt⟩)) (Or.inl ⟨_, ok_L1_canEncode, rw_L1_canEncode⟩)) (Or.inl ⟨_, ok_L1_indexOf, rw_L1_indexOf⟩)) (Or.inl ⟨_, ok_L1_indexOfChar, rw_L1_indexOfChar⟩)) (Or.inl ⟨_, ok_Pre_checkIndex, rw_Pre_checkIndex⟩)) (Or.inr rfl)
theorem pz_out (z : Nat) (h : 220 ≤ z) : (mj_pr z).2 = [] := by
  unfold mj_pr
  rcases (show z / 16 = 13 ∨ 14 ≤ z / 16 by omega) with e | e
  · rw [e]
    show (mj_pr13 (z % 16)).2 = []
    rcases (show z % 16 = 12 ∨ z % 16 = 13 ∨ z % 16 = 14 ∨ z % 16 = 15 by omega) with e | e | e | e
    · rw [e]; rfl
    · rw [e]; rfl
    · rw [e]; rfl
    · rw [e]; rfl
  · obtain ⟨k, hk⟩ : ∃ k, z / 16 = k + 14 := ⟨z / 16 - 14, by omega⟩
    rw [hk]
    rfl
theorem mk_all (l : Launch) : ∀ (d z : Nat) (as : List Value) (lim : Nat × Nat) (sh : mj_S) (P : mj_P) (I : mj_I) (J : mj_J) (Q : mj_Q), mj_ret mj_pr d z as lim sh P I J Q → mk_Met l d z as lim sh P I J Q := by
  intro d
  induction d with
  | zero => intro z as lim sh P I J Q h; exact h.elim
  | succ d ih =>
    intro z as lim sh P I J Q h
    have hz : mk_Pz z := by
      rcases Nat.lt_or_ge z 220 with q | q
      · exact pz_220 z q
      · exact Or.inr (pz_out z q)
    rcases hz with ⟨n, ok, rows⟩ | e
    · exact mk_met ok rows ih h
    · obtain ⟨-, h⟩ := h
      rw [e] at h
      exact (h (fun _ _ _ _ _ _ _ _ => False) (fun _ _ _ _ _ _ _ _ q => q)).elim
/-- the law's own end -/
def pi_lwr : mj_T := fun _ _ _ _ _ st _ _ _ _ _ => match st with
  | [.int v] => v = 1
  | _ => False
def t_Lw (n : Nat) (xs : Nat → Int32) : List (Nat × mj_T) := [(0, pi_new 11 11 3), (3, pi_dup 4), (4, pi_callI n_LS_init 1 (138, 6367) 7), (7, pi_astore 1 8), (8, pi_new 12 40 11), (11, pi_dup 12), (12, pi_callI n_Mo_init 1 (19, 15524) 15), (15, pi_astore 2 16), (16, pi_int 0 17), (17, pi_istore 3 18), (18, pi_iload 3 19), (19, pi_aload 0 20), (20, pi_slen n 21), (21, pi_int 7 23), (23, pi_isub 24), (24, pi_cgt 1045 27), (27, pi_aload 0 28), (28, pi_iload 3 29), (29, pi_sld n xs 30), (30, pi_int 31 32), (32, pi_iand 33), (33, pi_sw [(0, 152), (1, 175), (2, 250), (3, 293), (4, 326), (5, 349), (6, 382), (7, 445), (8, 468), (9, 491), (10, 514), (11, 577), (12, 590), (13, 623), (14, 656), (15, 670), (16, 713), (17, 766), (18, 809), (19, 852), (20, 895), (21, 908), (22, 931), (23, 964), (24, 977), (25, 1016)] 1039), (152, pi_aload 1 153), (153, pi_aload 0 154), (154, pi_iload 3 155), (155, pi_int 1 156), (156, pi_iadd 157), (157, pi_sld n xs 158), (158, pi_callV n_LS_state 2 11 161), (161, pi_aload 2 162), (162, pi_aload 0 163), (163, pi_iload 3 164), (164, pi_int 1 165), (165, pi_iadd 166), (166, pi_sld n xs 167), (167, pi_callV n_Mo_state 2 12 170), (170, pi_ceq 1039 173), (173, pi_int 0 174), (174, pi_lwr), (175, pi_aload 1 176), (176, pi_aload 0 177), (177, pi_iload 3 178), (178, pi_int 1 179), (179, pi_iadd 180), (180, pi_sld n xs 181), (181, pi_aload 0 182), (182, pi_iload 3 183), (183, pi_int 2 184), (184, pi_iadd 185), (185, pi_sld n xs 186), (186, pi_aload 0 187), (187, pi_iload 3 188), (188, pi_int 3 189), (189, pi_iadd 190), (190, pi_sld n xs 191), (191, pi_aload 0 192), (192, pi_iload 3 193), (193, pi_int 4 194), (194, pi_iadd 195), (195, pi_sld n xs 196), (196, pi_aload 0 197), (197, pi_iload 3 198), (198, pi_int 5 199), (199, pi_iadd 200), (200, pi_sld n xs 201), (201, pi_aload 0 202), (202, pi_iload 3 203), (203, pi_int 6 205), (205, pi_iadd 206), (206, pi_sld n xs 207), (207, pi_callV n_LS_line 7 11 210), (210, pi_aload 2 211), (211, pi_aload 0 212), (212, pi_iload 3 213), (213, pi_int 1 214), (214, pi_iadd 215), (215, pi_sld n xs 216), (216, pi_aload 0 217), (217, pi_iload 3 218), (218, pi_int 2 219), (219, pi_iadd 220), (220, pi_sld n xs 221), (221, pi_aload 0 222), (222, pi_iload 3 223), (223, pi_int 3 224), (224, pi_iadd 225), (225, pi_sld n xs 226), (226, pi_aload 0 227), (227, pi_iload 3 228), (228, pi_int 4 229), (229, pi_iadd 230), (230, pi_sld n xs 231), (231, pi_aload 0 232), (232, pi_iload 3 233), (233, pi_int 5 234), (234, pi_iadd 235), (235, pi_sld n xs 236), (236, pi_aload 0 237), (237, pi_iload 3 238), (238, pi_int 6 240), (240, pi_iadd 241), (241, pi_sld n xs 242), (242, pi_callV n_Mo_line 7 12 245), (245, pi_ceq 1039 248), (248, pi_int 0 249), (249, pi_lwr), (250, pi_aload 1 251), (251, pi_aload 0 252), (252, pi_iload 3 253), (253, pi_int 1 254), (254, pi_iadd 255), (255, pi_sld n xs 256), (256, pi_aload 0 257), (257, pi_iload 3 258), (258, pi_int 2 259), (259, pi_iadd 260), (260, pi_sld n xs 261), (261, pi_aload 0 262), (262, pi_iload 3 263), (263, pi_int 3 264), (264, pi_iadd 265), (265, pi_sld n xs 266), (266, pi_callV n_LS_set 4 11 269), (269, pi_aload 2 270), (270, pi_aload 0 271), (271, pi_iload 3 272), (272, pi_int 1 273), (273, pi_iadd 274), (274, pi_sld n xs 275), (275, pi_aload 0 276), (276, pi_iload 3 277), (277, pi_int 2 278), (278, pi_iadd 279), (279, pi_sld n xs 280), (280, pi_aload 0 281), (281, pi_iload 3 282), (282, pi_int 3 283), (283, pi_iadd 284), (284, pi_sld n xs 285), (285, pi_callV n_Mo_set 4 12 288), (288, pi_ceq 1039 291), (291, pi_int 0 292), (292, pi_lwr), (293, pi_aload 1 294), (294, pi_aload 0 295), (295, pi_iload 3 296), (296, pi_int 1 297), (297, pi_iadd 298), (298, pi_sld n xs 299), (299, pi_aload 0 300), (300, pi_iload 3 301), (301, pi_int 2 302), (302, pi_iadd 303), (303, pi_sld n xs 304), (304, pi_callV n_LS_write 3 11 307), (307, pi_aload 2 308), (308, pi_aload 0 309), (309, pi_iload 3 310), (310, pi_int 1 311), (311, pi_iadd 312), (312, pi_sld n xs 313), (313, pi_aload 0 314), (314, pi_iload 3 315), (315, pi_int 2 316), (316, pi_iadd 317), (317, pi_sld n xs 318), (318, pi_callV n_Mo_write 3 12 321), (321, pi_ceq 1039 324), (324, pi_int 0 325), (325, pi_lwr), (326, pi_aload 1 327), (327, pi_aload 0 328), (328, pi_iload 3 329), (329, pi_int 1 330), (330, pi_iadd 331), (331, pi_sld n xs 332), (332, pi_callV n_LS_blank 2 11 335), (335, pi_aload 2 336), (336, pi_aload 0 337), (337, pi_iload 3 338), (338, pi_int 1 339), (339, pi_iadd 340), (340, pi_sld n xs 341), (341, pi_callV n_Mo_blank 2 12 344), (344, pi_ceq 1039 347), (347, pi_int 0 348), (348, pi_lwr), (349, pi_aload 1 350), (350, pi_aload 0 351), (351, pi_iload 3 352), (352, pi_int 1 353), (353, pi_iadd 354), (354, pi_sld n xs 355), (355, pi_aload 0 356), (356, pi_iload 3 357), (357, pi_int 2 358), (358, pi_iadd 359), (359, pi_sld n xs 360), (360, pi_callV n_LS_read 3 11 363), (363, pi_aload 2 364), (364, pi_aload 0 365), (365, pi_iload 3 366), (366, pi_int 1 367), (367, pi_iadd 368), (368, pi_sld n xs 369), (369, pi_aload 0 370), (370, pi_iload 3 371), (371, pi_int 2 372), (372, pi_iadd 373), (373, pi_sld n xs 374), (374, pi_callV n_Mo_read 3 12 377), (377, pi_ceq 1039 380), (380, pi_int 0 381), (381, pi_lwr), (382, pi_aload 1 383), (383, pi_aload 0 384), (384, pi_iload 3 385), (385, pi_int 1 386), (386, pi_iadd 387), (387, pi_sld n xs 388), (388, pi_aload 0 389), (389, pi_iload 3 390), (390, pi_int 2 391), (391, pi_iadd 392), (392, pi_sld n xs 393), (393, pi_aload 0 394), (394, pi_iload 3 395), (395, pi_int 3 396), (396, pi_iadd 397), (397, pi_sld n xs 398), (398, pi_aload 0 399), (399, pi_iload 3 400), (400, pi_int 4 401), (401, pi_iadd 402), (402, pi_sld n xs 403), (403, pi_aload 0 404), (404, pi_iload 3 405), (405, pi_int 5 406), (406, pi_iadd 407), (407, pi_sld n xs 408), (408, pi_callV n_LS_feed 6 11 411), (411, pi_aload 2 412), (412, pi_aload 0 413), (413, pi_iload 3 414), (414, pi_int 1 415), (415, pi_iadd 416), (416, pi_sld n xs 417), (417, pi_aload 0 418), (418, pi_iload 3 419), (419, pi_int 2 420), (420, pi_iadd 421), (421, pi_sld n xs 422), (422, pi_aload 0 423), (423, pi_iload 3 424), (424, pi_int 3 425), (425, pi_iadd 426), (426, pi_sld n xs 427), (427, pi_aload 0 428), (428, pi_iload 3 429), (429, pi_int 4 430), (430, pi_iadd 431), (431, pi_sld n xs 432), (432, pi_aload 0 433), (433, pi_iload 3 434), (434, pi_int 5 435), (435, pi_iadd 436), (436, pi_sld n xs 437), (437, pi_callV n_Mo_feed 6 12 440), (440, pi_ceq 1039 443), (443, pi_int 0 444), (444, pi_lwr), (445, pi_aload 1 446), (446, pi_aload 0 447), (447, pi_iload 3 448), (448, pi_int 1 449), (449, pi_iadd 450), (450, pi_sld n xs 451), (451, pi_callV n_LS_end 2 11 454), (454, pi_aload 2 455), (455, pi_aload 0 456), (456, pi_iload 3 457), (457, pi_int 1 458), (458, pi_iadd 459), (459, pi_sld n xs 460), (460, pi_callV n_Mo_end 2 12 463), (463, pi_ceq 1039 466), (466, pi_int 0 467), (467, pi_lwr), (468, pi_aload 1 469), (469, pi_aload 0 470), (470, pi_iload 3 471), (471, pi_int 1 472), (472, pi_iadd 473), (473, pi_sld n xs 474), (474, pi_callV n_LS_text 2 11 477), (477, pi_aload 2 478), (478, pi_aload 0 479), (479, pi_iload 3 480), (480, pi_int 1 481), (481, pi_iadd 482), (482, pi_sld n xs 483), (483, pi_callV n_Mo_text 2 12 486), (486, pi_ceq 1039 489), (489, pi_int 0 490), (490, pi_lwr), (491, pi_aload 1 492), (492, pi_aload 0 493), (493, pi_iload 3 494), (494, pi_int 1 495), (495, pi_iadd 496), (496, pi_sld n xs 497), (497, pi_callV n_LS_fault 2 11 500), (500, pi_aload 2 501), (501, pi_aload 0 502), (502, pi_iload 3 503), (503, pi_int 1 504), (504, pi_iadd 505), (505, pi_sld n xs 506), (506, pi_callV n_Mo_fault 2 12 509), (509, pi_ceq 1039 512), (512, pi_int 0 513), (513, pi_lwr), (514, pi_aload 1 515), (515, pi_aload 0 516), (516, pi_iload 3 517), (517, pi_int 1 518), (518, pi_iadd 519), (519, pi_sld n xs 520), (520, pi_aload 0 521), (521, pi_iload 3 522), (522, pi_int 2 523), (523, pi_iadd 524), (524, pi_sld n xs 525), (525, pi_aload 0 526), (526, pi_iload 3 527), (527, pi_int 3 528), (528, pi_iadd 529), (529, pi_sld n xs 530), (530, pi_aload 0 531), (531, pi_iload 3 532), (532, pi_int 4 533), (533, pi_iadd 534), (534, pi_sld n xs 535), (535, pi_aload 0 536), (536, pi_iload 3 537), (537, pi_int 5 538), (538, pi_iadd 539), (539, pi_sld n xs 540), (540, pi_callV n_LS_send 6 11 543), (543, pi_aload 2 544), (544, pi_aload 0 545), (545, pi_iload 3 546), (546, pi_int 1 547), (547, pi_iadd 548), (548, pi_sld n xs 549), (549, pi_aload 0 550), (550, pi_iload 3 551), (551, pi_int 2 552), (552, pi_iadd 553), (553, pi_sld n xs 554), (554, pi_aload 0 555), (555, pi_iload 3 556), (556, pi_int 3 557), (557, pi_iadd 558), (558, pi_sld n xs 559), (559, pi_aload 0 560), (560, pi_iload 3 561), (561, pi_int 4 562), (562, pi_iadd 563), (563, pi_sld n xs 564), (564, pi_aload 0 565), (565, pi_iload 3 566), (566, pi_int 5 567), (567, pi_iadd 568), (568, pi_sld n xs 569), (569, pi_callV n_Mo_send 6 12 572), (572, pi_ceq 1039 575), (575, pi_int 0 576), (576, pi_lwr), (577, pi_aload 1 578), (578, pi_callV n_LS_day 1 11 581), (581, pi_aload 2 582), (582, pi_callV n_Mo_day 1 12 585), (585, pi_ceq 1039 588), (588, pi_int 0 589), (589, pi_lwr), (590, pi_aload 1 591), (591, pi_aload 0 592), (592, pi_iload 3 593), (593, pi_int 1 594), (594, pi_iadd 595), (595, pi_sld n xs 596), (596, pi_aload 0 597), (597, pi_iload 3 598), (598, pi_int 2 599), (599, pi_iadd 600), (600, pi_sld n xs 601), (601, pi_callV n_LS_of 3 11 604), (604, pi_aload 2 605), (605, pi_aload 0 606), (606, pi_iload 3 607), (607, pi_int 1 608), (608, pi_iadd 609), (609, pi_sld n xs 610), (610, pi_aload 0 611), (611, pi_iload 3 612), (612, pi_int 2 613), (613, pi_iadd 614), (614, pi_sld n xs 615), (615, pi_callV n_Mo_of 3 12 618), (618, pi_ceq 1039 621), (621, pi_int 0 622), (622, pi_lwr), (623, pi_aload 1 624), (624, pi_aload 0 625), (625, pi_iload 3 626), (626, pi_int 1 627), (627, pi_iadd 628), (628, pi_sld n xs 629), (629, pi_aload 0 630), (630, pi_iload 3 631), (631, pi_int 2 632), (632, pi_iadd 633), (633, pi_sld n xs 634), (634, pi_callV n_LS_book 3 11 637), (637, pi_aload 2 638), (638, pi_aload 0 639), (639, pi_iload 3 640), (640, pi_int 1 641), (641, pi_iadd 642), (642, pi_sld n xs 643), (643, pi_aload 0 644), (644, pi_iload 3 645), (645, pi_int 2 646), (646, pi_iadd 647), (647, pi_sld n xs 648), (648, pi_callV n_Mo_book 3 12 651), (651, pi_ceq 1039 654), (654, pi_int 0 655), (655, pi_lwr), (656, pi_aload 1 657), (657, pi_callV n_LS_creep 1 11 660), (660, pi_aload 2 661), (661, pi_callV n_Mo_creep 1 12 664), (664, pi_lcmp 665), (665, pi_ifeq 1039 668), (668, pi_int 0 669), (669, pi_lwr), (670, pi_aload 1 671), (671, pi_aload 0 672), (672, pi_iload 3 673), (673, pi_int 1 674), (674, pi_iadd 675), (675, pi_sld n xs 676), (676, pi_aload 0 677), (677, pi_iload 3 678), (678, pi_int 2 679), (679, pi_iadd 680), (680, pi_sld n xs 681), (681, pi_aload 0 682), (682, pi_iload 3 683), (683, pi_int 3 684), (684, pi_iadd 685), (685, pi_sld n xs 686), (686, pi_callV n_LS_comes 4 11 689), (689, pi_aload 2 690), (690, pi_aload 0 691), (691, pi_iload 3 692), (692, pi_int 1 693), (693, pi_iadd 694), (694, pi_sld n xs 695), (695, pi_aload 0 696), (696, pi_iload 3 697), (697, pi_int 2 698), (698, pi_iadd 699), (699, pi_sld n xs 700), (700, pi_aload 0 701), (701, pi_iload 3 702), (702, pi_int 3 703), (703, pi_iadd 704), (704, pi_sld n xs 705), (705, pi_callV n_Mo_comes 4 12 708), (708, pi_ceq 1039 711), (711, pi_int 0 712), (712, pi_lwr), (713, pi_aload 1 714), (714, pi_aload 0 715), (715, pi_iload 3 716), (716, pi_int 1 717), (717, pi_iadd 718), (718, pi_sld n xs 719), (719, pi_aload 0 720), (720, pi_iload 3 721), (721, pi_int 2 722), (722, pi_iadd 723), (723, pi_sld n xs 724), (724, pi_aload 0 725), (725, pi_iload 3 726), (726, pi_int 3 727), (727, pi_iadd 728), (728, pi_sld n xs 729), (729, pi_aload 0 730), (730, pi_iload 3 731), (731, pi_int 4 732), (732, pi_iadd 733), (733, pi_sld n xs 734), (734, pi_callV n_LS_meant 5 11 737), (737, pi_aload 2 738), (738, pi_aload 0 739), (739, pi_iload 3 740), (740, pi_int 1 741), (741, pi_iadd 742), (742, pi_sld n xs 743), (743, pi_aload 0 744), (744, pi_iload 3 745), (745, pi_int 2 746), (746, pi_iadd 747), (747, pi_sld n xs 748), (748, pi_aload 0 749), (749, pi_iload 3 750), (750, pi_int 3 751), (751, pi_iadd 752), (752, pi_sld n xs 753), (753, pi_aload 0 754), (754, pi_iload 3 755), (755, pi_int 4 756), (756, pi_iadd 757), (757, pi_sld n xs 758), (758, pi_callV n_Mo_meant 5 12 761), (761, pi_ceq 1039 764), (764, pi_int 0 765), (765, pi_lwr), (766, pi_aload 1 767), (767, pi_aload 0 768), (768, pi_iload 3 769), (769, pi_int 1 770), (770, pi_iadd 771), (771, pi_sld n xs 772), (772, pi_aload 0 773), (773, pi_iload 3 774), (774, pi_int 2 775), (775, pi_iadd 776), (776, pi_sld n xs 777), (777, pi_aload 0 778), (778, pi_iload 3 779), (779, pi_int 3 780), (780, pi_iadd 781), (781, pi_sld n xs 782), (782, pi_callV n_LS_twin 4 11 785), (785, pi_aload 2 786), (786, pi_aload 0 787), (787, pi_iload 3 788), (788, pi_int 1 789), (789, pi_iadd 790), (790, pi_sld n xs 791), (791, pi_aload 0 792), (792, pi_iload 3 793), (793, pi_int 2 794), (794, pi_iadd 795), (795, pi_sld n xs 796), (796, pi_aload 0 797), (797, pi_iload 3 798), (798, pi_int 3 799), (799, pi_iadd 800), (800, pi_sld n xs 801), (801, pi_callV n_Mo_twin 4 12 804), (804, pi_ceq 1039 807), (807, pi_int 0 808), (808, pi_lwr), (809, pi_aload 1 810), (810, pi_aload 0 811), (811, pi_iload 3 812), (812, pi_int 1 813), (813, pi_iadd 814), (814, pi_sld n xs 815), (815, pi_aload 0 816), (816, pi_iload 3 817), (817, pi_int 2 818), (818, pi_iadd 819), (819, pi_sld n xs 820), (820, pi_aload 0 821), (821, pi_iload 3 822), (822, pi_int 3 823), (823, pi_iadd 824), (824, pi_sld n xs 825), (825, pi_callV n_LS_code 4 11 828), (828, pi_aload 2 829), (829, pi_aload 0 830), (830, pi_iload 3 831), (831, pi_int 1 832), (832, pi_iadd 833), (833, pi_sld n xs 834), (834, pi_aload 0 835), (835, pi_iload 3 836), (836, pi_int 2 837), (837, pi_iadd 838), (838, pi_sld n xs 839), (839, pi_aload 0 840), (840, pi_iload 3 841), (841, pi_int 3 842), (842, pi_iadd 843), (843, pi_sld n xs 844), (844, pi_callV n_Mo_code 4 12 847), (847, pi_ceq 1039 850), (850, pi_int 0 851), (851, pi_lwr), (852, pi_aload 1 853), (853, pi_aload 0 854), (854, pi_iload 3 855), (855, pi_int 1 856), (856, pi_iadd 857), (857, pi_sld n xs 858), (858, pi_aload 0 859), (859, pi_iload 3 860), (860, pi_int 2 861), (861, pi_iadd 862), (862, pi_sld n xs 863), (863, pi_aload 0 864), (864, pi_iload 3 865), (865, pi_int 3 866), (866, pi_iadd 867), (867, pi_sld n xs 868), (868, pi_callV n_LS_best 4 11 871), (871, pi_aload 2 872), (872, pi_aload 0 873), (873, pi_iload 3 874), (874, pi_int 1 875), (875, pi_iadd 876), (876, pi_sld n xs 877), (877, pi_aload 0 878), (878, pi_iload 3 879), (879, pi_int 2 880), (880, pi_iadd 881), (881, pi_sld n xs 882), (882, pi_aload 0 883), (883, pi_iload 3 884), (884, pi_int 3 885), (885, pi_iadd 886), (886, pi_sld n xs 887), (887, pi_callV n_Mo_best 4 12 890), (890, pi_ceq 1039 893), (893, pi_int 0 894), (894, pi_lwr), (895, pi_aload 1 896), (896, pi_callV n_LS_clerks 1 11 899), (899, pi_aload 2 900), (900, pi_callV n_Mo_clerks 1 12 903), (903, pi_ceq 1039 906), (906, pi_int 0 907), (907, pi_lwr), (908, pi_aload 1 909), (909, pi_aload 0 910), (910, pi_iload 3 911), (911, pi_int 1 912), (912, pi_iadd 913), (913, pi_sld n xs 914), (914, pi_callV n_LS_look 2 11 917), (917, pi_aload 2 918), (918, pi_aload 0 919), (919, pi_iload 3 920), (920, pi_int 1 921), (921, pi_iadd 922), (922, pi_sld n xs 923), (923, pi_callV n_Mo_look 2 12 926), (926, pi_ceq 1039 929), (929, pi_int 0 930), (930, pi_lwr), (931, pi_aload 1 932), (932, pi_aload 0 933), (933, pi_iload 3 934), (934, pi_int 1 935), (935, pi_iadd 936), (936, pi_sld n xs 937), (937, pi_aload 0 938), (938, pi_iload 3 939), (939, pi_int 2 940), (940, pi_iadd 941), (941, pi_sld n xs 942), (942, pi_callV n_LS_cure 3 11 945), (945, pi_aload 2 946), (946, pi_aload 0 947), (947, pi_iload 3 948), (948, pi_int 1 949), (949, pi_iadd 950), (950, pi_sld n xs 951), (951, pi_aload 0 952), (952, pi_iload 3 953), (953, pi_int 2 954), (954, pi_iadd 955), (955, pi_sld n xs 956), (956, pi_callV n_Mo_cure 3 12 959), (959, pi_ceq 1039 962), (962, pi_int 0 963), (963, pi_lwr), (964, pi_aload 1 965), (965, pi_callV n_LS_undo 1 11 968), (968, pi_aload 2 969), (969, pi_callV n_Mo_undo 1 12 972), (972, pi_ceq 1039 975), (975, pi_int 0 976), (976, pi_lwr), (977, pi_aload 1 978), (978, pi_aload 0 979), (979, pi_iload 3 980), (980, pi_int 1 981), (981, pi_iadd 982), (982, pi_sld n xs 983), (983, pi_ifeq 990 986), (986, pi_int 1 987), (987, pi_goto 991), (990, pi_int 0 991), (991, pi_callE n_LS_image 2 11 994), (994, pi_aload 2 995), (995, pi_aload 0 996), (996, pi_iload 3 997), (997, pi_int 1 998), (998, pi_iadd 999), (999, pi_sld n xs 1000), (1000, pi_ifeq 1007 1003), (1003, pi_int 1 1004), (1004, pi_goto 1008), (1007, pi_int 0 1008), (1008, pi_callV n_Mo_image 2 12 1011), (1011, pi_ceq 1039 1014), (1014, pi_int 0 1015), (1015, pi_lwr), (1016, pi_aload 1 1017), (1017, pi_aload 0 1018), (1018, pi_iload 3 1019), (1019, pi_int 1 1020), (1020, pi_iadd 1021), (1021, pi_sld n xs 1022), (1022, pi_callV n_LS_tells 2 11 1025), (1025, pi_aload 2 1026), (1026, pi_aload 0 1027), (1027, pi_iload 3 1028), (1028, pi_int 1 1029), (1029, pi_iadd 1030), (1030, pi_sld n xs 1031), (1031, pi_callV n_Mo_tells 2 12 1034), (1034, pi_ceq 1039 1037), (1037, pi_int 0 1038), (1038, pi_lwr), (1039, pi_iinc 3 7 1042), (1042, pi_goto 18), (1045, pi_int 1 1046), (1046, pi_lwr)]
