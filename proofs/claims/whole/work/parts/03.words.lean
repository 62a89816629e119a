/-- the words that a contract may ask: those of the tables that every state keeps -/
def WS : List Cond := lw_tbl.filter goodWord
theorem ws_of {w : Cond} (h : w ∈ lw_tbl) (g : goodWord w = true) : w ∈ WS := List.mem_filter.mpr ⟨h, g⟩
theorem ws_good : GoodIn lw_tbl WS := fun w h => ⟨(List.mem_filter.mp h).1, good_of_word (List.mem_filter.mp h).2⟩
theorem ws_all {c d : Cond} (h : d ∈ WS) : GoodIn (c :: WS) (d :: WS) := fun w hw => by
  rcases List.mem_cons.mp hw with rfl | hw
  · exact ⟨List.mem_cons_of_mem _ h, (ws_good _ h).2⟩
  · exact ⟨List.mem_cons_of_mem _ hw, (ws_good _ hw).2⟩
theorem lt_1 {w : Cond} (h : w ∈ tables_1_1) : w ∈ lw_tbl := List.mem_append_right (k2_sels lw_privs) (show w ∈ tables_1 from List.mem_append_left _ h)
theorem lp_1 {q : MethodName × Nat} (h : q ∈ lw_privs_1) : Cond.selects q.1.cls q.1 q.1 ∈ lw_tbl := List.mem_append_left _ (List.mem_map.mpr ⟨q, (show q ∈ lw_privs from List.mem_append_left _ h), rfl⟩)
theorem lt_2 {w : Cond} (h : w ∈ tables_1_2) : w ∈ lw_tbl := List.mem_append_right (k2_sels lw_privs) (show w ∈ tables_1 from List.mem_append_right _ (List.mem_append_left _ h))
theorem lp_2 {q : MethodName × Nat} (h : q ∈ lw_privs_2) : Cond.selects q.1.cls q.1 q.1 ∈ lw_tbl := List.mem_append_left _ (List.mem_map.mpr ⟨q, (show q ∈ lw_privs from List.mem_append_right _ (List.mem_append_left _ h)), rfl⟩)
theorem lt_3 {w : Cond} (h : w ∈ tables_1_3) : w ∈ lw_tbl := List.mem_append_right (k2_sels lw_privs) (show w ∈ tables_1 from List.mem_append_right _ (List.mem_append_right _ (List.mem_append_left _ h)))
theorem lp_3 {q : MethodName × Nat} (h : q ∈ lw_privs_3) : Cond.selects q.1.cls q.1 q.1 ∈ lw_tbl := List.mem_append_left _ (List.mem_map.mpr ⟨q, (show q ∈ lw_privs from List.mem_append_right _ (List.mem_append_right _ (List.mem_append_left _ h))), rfl⟩)
theorem lt_4 {w : Cond} (h : w ∈ tables_1_4) : w ∈ lw_tbl := List.mem_append_right (k2_sels lw_privs) (show w ∈ tables_1 from List.mem_append_right _ (List.mem_append_right _ (List.mem_append_right _ (List.mem_append_left _ h))))
theorem lp_4 {q : MethodName × Nat} (h : q ∈ lw_privs_4) : Cond.selects q.1.cls q.1 q.1 ∈ lw_tbl := List.mem_append_left _ (List.mem_map.mpr ⟨q, (show q ∈ lw_privs from List.mem_append_right _ (List.mem_append_right _ (List.mem_append_right _ (List.mem_append_left _ h)))), rfl⟩)
theorem lt_5 {w : Cond} (h : w ∈ tables_1_5) : w ∈ lw_tbl := List.mem_append_right (k2_sels lw_privs) (show w ∈ tables_1 from List.mem_append_right _ (List.mem_append_right _ (List.mem_append_right _ (List.mem_append_right _ (List.mem_append_left _ h)))))
theorem lp_5 {q : MethodName × Nat} (h : q ∈ lw_privs_5) : Cond.selects q.1.cls q.1 q.1 ∈ lw_tbl := List.mem_append_left _ (List.mem_map.mpr ⟨q, (show q ∈ lw_privs from List.mem_append_right _ (List.mem_append_right _ (List.mem_append_right _ (List.mem_append_right _ (List.mem_append_left _ h))))), rfl⟩)
theorem lt_6 {w : Cond} (h : w ∈ tables_1_6) : w ∈ lw_tbl := List.mem_append_right (k2_sels lw_privs) (show w ∈ tables_1 from List.mem_append_right _ (List.mem_append_right _ (List.mem_append_right _ (List.mem_append_right _ (List.mem_append_right _ (List.mem_append_left _ h))))))
theorem lp_6 {q : MethodName × Nat} (h : q ∈ lw_privs_6) : Cond.selects q.1.cls q.1 q.1 ∈ lw_tbl := List.mem_append_left _ (List.mem_map.mpr ⟨q, (show q ∈ lw_privs from List.mem_append_right _ (List.mem_append_right _ (List.mem_append_right _ (List.mem_append_right _ (List.mem_append_right _ (List.mem_append_left _ h)))))), rfl⟩)
theorem lt_7 {w : Cond} (h : w ∈ tables_1_7) : w ∈ lw_tbl := List.mem_append_right (k2_sels lw_privs) (show w ∈ tables_1 from List.mem_append_right _ (List.mem_append_right _ (List.mem_append_right _ (List.mem_append_right _ (List.mem_append_right _ (List.mem_append_right _ (List.mem_append_left _ h)))))))
theorem lp_7 {q : MethodName × Nat} (h : q ∈ lw_privs_7) : Cond.selects q.1.cls q.1 q.1 ∈ lw_tbl := List.mem_append_left _ (List.mem_map.mpr ⟨q, (show q ∈ lw_privs from List.mem_append_right _ (List.mem_append_right _ (List.mem_append_right _ (List.mem_append_right _ (List.mem_append_right _ (List.mem_append_right _ (List.mem_append_left _ h))))))), rfl⟩)
theorem lt_8 {w : Cond} (h : w ∈ tables_1_8) : w ∈ lw_tbl := List.mem_append_right (k2_sels lw_privs) (show w ∈ tables_1 from List.mem_append_right _ (List.mem_append_right _ (List.mem_append_right _ (List.mem_append_right _ (List.mem_append_right _ (List.mem_append_right _ (List.mem_append_right _ (List.mem_append_left _ h))))))))
theorem lp_8 {q : MethodName × Nat} (h : q ∈ lw_privs_8) : Cond.selects q.1.cls q.1 q.1 ∈ lw_tbl := List.mem_append_left _ (List.mem_map.mpr ⟨q, (show q ∈ lw_privs from List.mem_append_right _ (List.mem_append_right _ (List.mem_append_right _ (List.mem_append_right _ (List.mem_append_right _ (List.mem_append_right _ (List.mem_append_right _ (List.mem_append_left _ h)))))))), rfl⟩)
theorem lt_9 {w : Cond} (h : w ∈ tables_1_9) : w ∈ lw_tbl := List.mem_append_right (k2_sels lw_privs) (show w ∈ tables_1 from List.mem_append_right _ (List.mem_append_right _ (List.mem_append_right _ (List.mem_append_right _ (List.mem_append_right _ (List.mem_append_right _ (List.mem_append_right _ (List.mem_append_right _ (h)))))))))
theorem lp_9 {q : MethodName × Nat} (h : q ∈ lw_privs_9) : Cond.selects q.1.cls q.1 q.1 ∈ lw_tbl := List.mem_append_left _ (List.mem_map.mpr ⟨q, (show q ∈ lw_privs from List.mem_append_right _ (List.mem_append_right _ (List.mem_append_right _ (List.mem_append_right _ (List.mem_append_right _ (List.mem_append_right _ (List.mem_append_right _ (List.mem_append_right _ (h))))))))), rfl⟩)
theorem wini_RL : Cond.initialized RL ∈ WS := ws_of (lt_1 (List.mem_of_getElem? (i := 0) rfl)) rfl
theorem wini_RX11 : Cond.initialized RX11 ∈ WS := ws_of (lt_1 (List.mem_of_getElem? (i := 1) rfl)) rfl
theorem wini_RX7 : Cond.initialized RX7 ∈ WS := ws_of (lt_1 (List.mem_of_getElem? (i := 2) rfl)) rfl
theorem wini_RX2 : Cond.initialized RX2 ∈ WS := ws_of (lt_1 (List.mem_of_getElem? (i := 3) rfl)) rfl
theorem wini_RJ7 : Cond.initialized RJ7 ∈ WS := ws_of (lt_1 (List.mem_of_getElem? (i := 4) rfl)) rfl
theorem wini_RX4 : Cond.initialized RX4 ∈ WS := ws_of (lt_1 (List.mem_of_getElem? (i := 5) rfl)) rfl
theorem wini_RX8 : Cond.initialized RX8 ∈ WS := ws_of (lt_1 (List.mem_of_getElem? (i := 6) rfl)) rfl
theorem wini_RX3 : Cond.initialized RX3 ∈ WS := ws_of (lt_1 (List.mem_of_getElem? (i := 7) rfl)) rfl
theorem wini_RX5 : Cond.initialized RX5 ∈ WS := ws_of (lt_1 (List.mem_of_getElem? (i := 8) rfl)) rfl
theorem wini_RX9 : Cond.initialized RX9 ∈ WS := ws_of (lt_1 (List.mem_of_getElem? (i := 9) rfl)) rfl
theorem wini_RX1 : Cond.initialized RX1 ∈ WS := ws_of (lt_1 (List.mem_of_getElem? (i := 10) rfl)) rfl
theorem wini_RX6 : Cond.initialized RX6 ∈ WS := ws_of (lt_1 (List.mem_of_getElem? (i := 11) rfl)) rfl
theorem wini_RX0 : Cond.initialized RX0 ∈ WS := ws_of (lt_1 (List.mem_of_getElem? (i := 12) rfl)) rfl
theorem wini_RX10 : Cond.initialized RX10 ∈ WS := ws_of (lt_1 (List.mem_of_getElem? (i := 13) rfl)) rfl
theorem wini_RX12 : Cond.initialized RX12 ∈ WS := ws_of (lt_1 (List.mem_of_getElem? (i := 14) rfl)) rfl
theorem wini_RJ10 : Cond.initialized RJ10 ∈ WS := ws_of (lt_1 (List.mem_of_getElem? (i := 15) rfl)) rfl
theorem wini_RJ0 : Cond.initialized RJ0 ∈ WS := ws_of (lt_1 (List.mem_of_getElem? (i := 16) rfl)) rfl
theorem wini_RJ1 : Cond.initialized RJ1 ∈ WS := ws_of (lt_1 (List.mem_of_getElem? (i := 17) rfl)) rfl
theorem wini_RJ3 : Cond.initialized RJ3 ∈ WS := ws_of (lt_1 (List.mem_of_getElem? (i := 18) rfl)) rfl
theorem wini_RJ2 : Cond.initialized RJ2 ∈ WS := ws_of (lt_1 (List.mem_of_getElem? (i := 19) rfl)) rfl
theorem wini_RJ9 : Cond.initialized RJ9 ∈ WS := ws_of (lt_1 (List.mem_of_getElem? (i := 20) rfl)) rfl
theorem wini_RJ6 : Cond.initialized RJ6 ∈ WS := ws_of (lt_1 (List.mem_of_getElem? (i := 21) rfl)) rfl
theorem wcl_RL_7 : Cond.classLink RL 7 RX11 ∈ WS := ws_of (lt_1 (List.mem_of_getElem? (i := 22) rfl)) rfl
theorem wnew_RX11 : Cond.instantiable RX11 19 ∈ WS := ws_of (lt_1 (List.mem_of_getElem? (i := 23) rfl)) rfl
theorem wml_RL_9 : Cond.methodLink RL 9 yX11_init ∈ WS := ws_of (lt_1 (List.mem_of_getElem? (i := 24) rfl)) rfl
theorem wi_yX11_init : Cond.instanceMethod yX11_init ∈ WS := ws_of (lt_1 (List.mem_of_getElem? (i := 25) rfl)) rfl
theorem wc_yX11_init : Cond.code yX11_init cX11_init 2 none ∈ WS := ws_of (lt_1 (List.mem_of_getElem? (i := 26) rfl)) rfl
theorem wml_RX11_1 : Cond.methodLink RX11 1 Lib.objectInit ∈ WS := ws_of (lt_1 (List.mem_of_getElem? (i := 27) rfl)) rfl
theorem wi_Lib_objectInit : Cond.instanceMethod Lib.objectInit ∈ WS := ws_of (lt_1 (List.mem_of_getElem? (i := 28) rfl)) rfl
theorem wc_Lib_objectInit : Cond.code Lib.objectInit object_method_1_code 1 none ∈ WS := ws_of (lt_1 (List.mem_of_getElem? (i := 29) rfl)) rfl
theorem wcl_RX11_9 : Cond.classLink RX11 9 RX10 ∈ WS := ws_of (lt_1 (List.mem_of_getElem? (i := 30) rfl)) rfl
theorem wao_FieldType_object__PoleRiver_Tray_ : Cond.arrayOver (FieldType.object "PoleRiver$Tray") ∈ lw_tbl := lt_1 (List.mem_of_getElem? (i := 31) rfl)
theorem wcl_RX11_15 : Cond.classLink RX11 15 RX7 ∈ WS := ws_of (lt_1 (List.mem_of_getElem? (i := 32) rfl)) rfl
theorem wnew_RX7 : Cond.instantiable RX7 5 ∈ WS := ws_of (lt_1 (List.mem_of_getElem? (i := 33) rfl)) rfl
theorem wnl_RX11_17 : Cond.methodLinkNest RX11 17 yX7_init "PoleRiver" ∈ lw_tbl := lt_1 (List.mem_of_getElem? (i := 34) rfl)
theorem wi_yX7_init : Cond.instanceMethod yX7_init ∈ WS := ws_of (lt_1 (List.mem_of_getElem? (i := 35) rfl)) rfl
theorem wc_yX7_init : Cond.code yX7_init cX7_init 1 none ∈ WS := ws_of (lt_1 (List.mem_of_getElem? (i := 36) rfl)) rfl
theorem wml_RX7_3 : Cond.methodLink RX7 3 Lib.objectInit ∈ WS := ws_of (lt_1 (List.mem_of_getElem? (i := 37) rfl)) rfl
theorem wcl_RX7_9 : Cond.classLink RX7 9 RX2 ∈ WS := ws_of (lt_1 (List.mem_of_getElem? (i := 38) rfl)) rfl
theorem wnew_RX2 : Cond.instantiable RX2 20 ∈ WS := ws_of (lt_1 (List.mem_of_getElem? (i := 39) rfl)) rfl
theorem wml_RX7_11 : Cond.methodLink RX7 11 yX2_init ∈ WS := ws_of (lt_1 (List.mem_of_getElem? (i := 40) rfl)) rfl
theorem wi_yX2_init : Cond.instanceMethod yX2_init ∈ WS := ws_of (lt_1 (List.mem_of_getElem? (i := 41) rfl)) rfl
theorem wc_yX2_init : Cond.code yX2_init cX2_init 1 none ∈ WS := ws_of (lt_1 (List.mem_of_getElem? (i := 42) rfl)) rfl
theorem wml_RX2_3 : Cond.methodLink RX2 3 Lib.objectInit ∈ WS := ws_of (lt_1 (List.mem_of_getElem? (i := 43) rfl)) rfl
theorem wml_RX2_40 : Cond.methodLink RX2 40 yX2_clear ∈ WS := ws_of (lt_1 (List.mem_of_getElem? (i := 44) rfl)) rfl
theorem wi_yX2_clear : Cond.instanceMethod yX2_clear ∈ WS := ws_of (lt_1 (List.mem_of_getElem? (i := 45) rfl)) rfl
theorem wsel_yX2_clear : Cond.selects RX2 yX2_clear yX2_clear ∈ WS := ws_of (lt_1 (List.mem_of_getElem? (i := 46) rfl)) rfl
theorem wc_yX2_clear : Cond.code yX2_clear cX2_clear 1 none ∈ WS := ws_of (lt_1 (List.mem_of_getElem? (i := 47) rfl)) rfl
theorem wml_RX2_77 : Cond.methodLink RX2 77 yJ7_fill_53178 ∈ WS := ws_of (lt_1 (List.mem_of_getElem? (i := 48) rfl)) rfl
theorem wst_yJ7_fill_53178 : Cond.static yJ7_fill_53178 ∈ WS := ws_of (lt_1 (List.mem_of_getElem? (i := 49) rfl)) rfl
theorem wc_yJ7_fill_53178 : Cond.code yJ7_fill_53178 cJ7_fill_53178 4 none ∈ WS := ws_of (lt_1 (List.mem_of_getElem? (i := 50) rfl)) rfl
theorem wf_RX2_43 : Cond.fieldLink RX2 43 "PoleRiver$River" "width" "I" ∈ WS := ws_of (lt_1 (List.mem_of_getElem? (i := 51) rfl)) rfl
theorem wf_RX1_102 : Cond.fieldLink RX1 102 "PoleRiver$River" "width" "I" ∈ WS := ws_of (lt_1 (List.mem_of_getElem? (i := 52) rfl)) rfl
theorem wf_RX3_66 : Cond.fieldLink RX3 66 "PoleRiver$River" "width" "I" ∈ WS := ws_of (lt_1 (List.mem_of_getElem? (i := 53) rfl)) rfl
theorem wf_RX11_218 : Cond.fieldLink RX11 218 "PoleRiver$River" "width" "I" ∈ WS := ws_of (lt_1 (List.mem_of_getElem? (i := 54) rfl)) rfl
theorem wf_RX2_47 : Cond.fieldLink RX2 47 "PoleRiver$River" "height" "I" ∈ WS := ws_of (lt_1 (List.mem_of_getElem? (i := 55) rfl)) rfl
theorem wf_RX1_99 : Cond.fieldLink RX1 99 "PoleRiver$River" "height" "I" ∈ WS := ws_of (lt_1 (List.mem_of_getElem? (i := 56) rfl)) rfl
theorem wf_RX3_73 : Cond.fieldLink RX3 73 "PoleRiver$River" "height" "I" ∈ WS := ws_of (lt_1 (List.mem_of_getElem? (i := 57) rfl)) rfl
theorem wf_RX11_221 : Cond.fieldLink RX11 221 "PoleRiver$River" "height" "I" ∈ WS := ws_of (lt_1 (List.mem_of_getElem? (i := 58) rfl)) rfl
theorem wf_RX2_50 : Cond.fieldLink RX2 50 "PoleRiver$River" "bars" "I" ∈ WS := ws_of (lt_1 (List.mem_of_getElem? (i := 59) rfl)) rfl
theorem wf_RX9_27 : Cond.fieldLink RX9 27 "PoleRiver$River" "bars" "I" ∈ WS := ws_of (lt_1 (List.mem_of_getElem? (i := 60) rfl)) rfl
theorem wf_RX6_52 : Cond.fieldLink RX6 52 "PoleRiver$River" "bars" "I" ∈ WS := ws_of (lt_1 (List.mem_of_getElem? (i := 61) rfl)) rfl
theorem wf_RX3_138 : Cond.fieldLink RX3 138 "PoleRiver$River" "bars" "I" ∈ WS := ws_of (lt_1 (List.mem_of_getElem? (i := 62) rfl)) rfl
theorem wf_RX1_124 : Cond.fieldLink RX1 124 "PoleRiver$River" "bars" "I" ∈ WS := ws_of (lt_1 (List.mem_of_getElem? (i := 63) rfl)) rfl
theorem wf_RX0_143 : Cond.fieldLink RX0 143 "PoleRiver$River" "bars" "I" ∈ WS := ws_of (lt_1 (List.mem_of_getElem? (i := 64) rfl)) rfl
theorem wf_RX11_224 : Cond.fieldLink RX11 224 "PoleRiver$River" "bars" "I" ∈ WS := ws_of (lt_1 (List.mem_of_getElem? (i := 65) rfl)) rfl
theorem wf_RX2_53 : Cond.fieldLink RX2 53 "PoleRiver$River" "draft" "I" ∈ WS := ws_of (lt_1 (List.mem_of_getElem? (i := 66) rfl)) rfl
theorem wf_RX1_80 : Cond.fieldLink RX1 80 "PoleRiver$River" "draft" "I" ∈ WS := ws_of (lt_1 (List.mem_of_getElem? (i := 67) rfl)) rfl
theorem wf_RX3_192 : Cond.fieldLink RX3 192 "PoleRiver$River" "draft" "I" ∈ WS := ws_of (lt_1 (List.mem_of_getElem? (i := 68) rfl)) rfl
theorem wf_RX11_233 : Cond.fieldLink RX11 233 "PoleRiver$River" "draft" "I" ∈ WS := ws_of (lt_1 (List.mem_of_getElem? (i := 69) rfl)) rfl
theorem wf_RX2_56 : Cond.fieldLink RX2 56 "PoleRiver$River" "load" "I" ∈ WS := ws_of (lt_1 (List.mem_of_getElem? (i := 70) rfl)) rfl
theorem wf_RX0_130 : Cond.fieldLink RX0 130 "PoleRiver$River" "load" "I" ∈ WS := ws_of (lt_1 (List.mem_of_getElem? (i := 71) rfl)) rfl
theorem wf_RX3_202 : Cond.fieldLink RX3 202 "PoleRiver$River" "load" "I" ∈ WS := ws_of (lt_1 (List.mem_of_getElem? (i := 72) rfl)) rfl
theorem wf_RX11_236 : Cond.fieldLink RX11 236 "PoleRiver$River" "load" "I" ∈ WS := ws_of (lt_1 (List.mem_of_getElem? (i := 73) rfl)) rfl
theorem wf_RX2_59 : Cond.fieldLink RX2 59 "PoleRiver$River" "straight" "I" ∈ WS := ws_of (lt_1 (List.mem_of_getElem? (i := 74) rfl)) rfl
theorem wf_RX3_206 : Cond.fieldLink RX3 206 "PoleRiver$River" "straight" "I" ∈ WS := ws_of (lt_1 (List.mem_of_getElem? (i := 75) rfl)) rfl
theorem wf_RX11_239 : Cond.fieldLink RX11 239 "PoleRiver$River" "straight" "I" ∈ WS := ws_of (lt_1 (List.mem_of_getElem? (i := 76) rfl)) rfl
theorem wf_RX2_62 : Cond.fieldLink RX2 62 "PoleRiver$River" "slant" "I" ∈ WS := ws_of (lt_1 (List.mem_of_getElem? (i := 77) rfl)) rfl
theorem wf_RX3_210 : Cond.fieldLink RX3 210 "PoleRiver$River" "slant" "I" ∈ WS := ws_of (lt_1 (List.mem_of_getElem? (i := 78) rfl)) rfl
theorem wf_RX11_242 : Cond.fieldLink RX11 242 "PoleRiver$River" "slant" "I" ∈ WS := ws_of (lt_1 (List.mem_of_getElem? (i := 79) rfl)) rfl
theorem wf_RX2_65 : Cond.fieldLink RX2 65 "PoleRiver$River" "turn" "I" ∈ WS := ws_of (lt_1 (List.mem_of_getElem? (i := 80) rfl)) rfl
theorem wf_RX3_214 : Cond.fieldLink RX3 214 "PoleRiver$River" "turn" "I" ∈ WS := ws_of (lt_1 (List.mem_of_getElem? (i := 81) rfl)) rfl
theorem wf_RX11_245 : Cond.fieldLink RX11 245 "PoleRiver$River" "turn" "I" ∈ WS := ws_of (lt_1 (List.mem_of_getElem? (i := 82) rfl)) rfl
theorem wf_RX2_68 : Cond.fieldLink RX2 68 "PoleRiver$River" "lost" "I" ∈ WS := ws_of (lt_1 (List.mem_of_getElem? (i := 83) rfl)) rfl
theorem wf_RX3_218 : Cond.fieldLink RX3 218 "PoleRiver$River" "lost" "I" ∈ WS := ws_of (lt_1 (List.mem_of_getElem? (i := 84) rfl)) rfl
theorem wf_RX11_248 : Cond.fieldLink RX11 248 "PoleRiver$River" "lost" "I" ∈ WS := ws_of (lt_1 (List.mem_of_getElem? (i := 85) rfl)) rfl
theorem wf_RX1_160 : Cond.fieldLink RX1 160 "PoleRiver$River" "lost" "I" ∈ WS := ws_of (lt_1 (List.mem_of_getElem? (i := 86) rfl)) rfl
theorem wf_RX0_216 : Cond.fieldLink RX0 216 "PoleRiver$River" "lost" "I" ∈ WS := ws_of (lt_1 (List.mem_of_getElem? (i := 87) rfl)) rfl
theorem wf_RX2_71 : Cond.fieldLink RX2 71 "PoleRiver$River" "pole" "I" ∈ WS := ws_of (lt_1 (List.mem_of_getElem? (i := 88) rfl)) rfl
theorem wf_RX0_158 : Cond.fieldLink RX0 158 "PoleRiver$River" "pole" "I" ∈ WS := ws_of (lt_1 (List.mem_of_getElem? (i := 89) rfl)) rfl
theorem wf_RX3_220 : Cond.fieldLink RX3 220 "PoleRiver$River" "pole" "I" ∈ WS := ws_of (lt_1 (List.mem_of_getElem? (i := 90) rfl)) rfl
theorem wf_RX11_251 : Cond.fieldLink RX11 251 "PoleRiver$River" "pole" "I" ∈ WS := ws_of (lt_1 (List.mem_of_getElem? (i := 91) rfl)) rfl
theorem wf_RX2_74 : Cond.fieldLink RX2 74 "PoleRiver$River" "water" "I" ∈ WS := ws_of (lt_1 (List.mem_of_getElem? (i := 92) rfl)) rfl
theorem wf_RX9_69 : Cond.fieldLink RX9 69 "PoleRiver$River" "water" "I" ∈ WS := ws_of (lt_1 (List.mem_of_getElem? (i := 93) rfl)) rfl
theorem wf_RX0_167 : Cond.fieldLink RX0 167 "PoleRiver$River" "water" "I" ∈ WS := ws_of (lt_1 (List.mem_of_getElem? (i := 94) rfl)) rfl
theorem wf_RX3_222 : Cond.fieldLink RX3 222 "PoleRiver$River" "water" "I" ∈ WS := ws_of (lt_1 (List.mem_of_getElem? (i := 95) rfl)) rfl
theorem wf_RX11_254 : Cond.fieldLink RX11 254 "PoleRiver$River" "water" "I" ∈ WS := ws_of (lt_1 (List.mem_of_getElem? (i := 96) rfl)) rfl
theorem wf_RX2_9 : Cond.fieldLink RX2 9 "PoleRiver$River" "depths" "[I" ∈ WS := ws_of (lt_1 (List.mem_of_getElem? (i := 97) rfl)) rfl
theorem wf_RX3_131 : Cond.fieldLink RX3 131 "PoleRiver$River" "depths" "[I" ∈ WS := ws_of (lt_1 (List.mem_of_getElem? (i := 98) rfl)) rfl
theorem wf_RX2_15 : Cond.fieldLink RX2 15 "PoleRiver$River" "owners" "[I" ∈ WS := ws_of (lt_1 (List.mem_of_getElem? (i := 99) rfl)) rfl
theorem wf_RX1_96 : Cond.fieldLink RX1 96 "PoleRiver$River" "owners" "[I" ∈ WS := ws_of (lt_1 (List.mem_of_getElem? (i := 100) rfl)) rfl
theorem wf_RX9_66 : Cond.fieldLink RX9 66 "PoleRiver$River" "owners" "[I" ∈ WS := ws_of (lt_1 (List.mem_of_getElem? (i := 101) rfl)) rfl
theorem wf_RX3_182 : Cond.fieldLink RX3 182 "PoleRiver$River" "owners" "[I" ∈ WS := ws_of (lt_1 (List.mem_of_getElem? (i := 102) rfl)) rfl
theorem wf_RX11_281 : Cond.fieldLink RX11 281 "PoleRiver$River" "owners" "[I" ∈ WS := ws_of (lt_1 (List.mem_of_getElem? (i := 103) rfl)) rfl
theorem wf_RX2_18 : Cond.fieldLink RX2 18 "PoleRiver$River" "stages" "[I" ∈ WS := ws_of (lt_1 (List.mem_of_getElem? (i := 104) rfl)) rfl
theorem wf_RX3_187 : Cond.fieldLink RX3 187 "PoleRiver$River" "stages" "[I" ∈ WS := ws_of (lt_1 (List.mem_of_getElem? (i := 105) rfl)) rfl
theorem wf_RX2_21 : Cond.fieldLink RX2 21 "PoleRiver$River" "names" "[J" ∈ WS := ws_of (lt_1 (List.mem_of_getElem? (i := 106) rfl)) rfl
theorem wf_RX3_152 : Cond.fieldLink RX3 152 "PoleRiver$River" "names" "[J" ∈ WS := ws_of (lt_1 (List.mem_of_getElem? (i := 107) rfl)) rfl
theorem wf_RX2_25 : Cond.fieldLink RX2 25 "PoleRiver$River" "takes" "[I" ∈ WS := ws_of (lt_1 (List.mem_of_getElem? (i := 108) rfl)) rfl
theorem wf_RX6_84 : Cond.fieldLink RX6 84 "PoleRiver$River" "takes" "[I" ∈ WS := ws_of (lt_1 (List.mem_of_getElem? (i := 109) rfl)) rfl
theorem wf_RX3_161 : Cond.fieldLink RX3 161 "PoleRiver$River" "takes" "[I" ∈ WS := ws_of (lt_1 (List.mem_of_getElem? (i := 110) rfl)) rfl
theorem wf_RX11_260 : Cond.fieldLink RX11 260 "PoleRiver$River" "takes" "[I" ∈ WS := ws_of (lt_1 (List.mem_of_getElem? (i := 111) rfl)) rfl
theorem wf_RX2_28 : Cond.fieldLink RX2 28 "PoleRiver$River" "chances" "[I" ∈ WS := ws_of (lt_1 (List.mem_of_getElem? (i := 112) rfl)) rfl
theorem wf_RX9_31 : Cond.fieldLink RX9 31 "PoleRiver$River" "chances" "[I" ∈ WS := ws_of (lt_1 (List.mem_of_getElem? (i := 113) rfl)) rfl
theorem wf_RX3_165 : Cond.fieldLink RX3 165 "PoleRiver$River" "chances" "[I" ∈ WS := ws_of (lt_1 (List.mem_of_getElem? (i := 114) rfl)) rfl
theorem wf_RX11_263 : Cond.fieldLink RX11 263 "PoleRiver$River" "chances" "[I" ∈ WS := ws_of (lt_1 (List.mem_of_getElem? (i := 115) rfl)) rfl
theorem wf_RX2_31 : Cond.fieldLink RX2 31 "PoleRiver$River" "goes" "[I" ∈ WS := ws_of (lt_1 (List.mem_of_getElem? (i := 116) rfl)) rfl
theorem wf_RX9_43 : Cond.fieldLink RX9 43 "PoleRiver$River" "goes" "[I" ∈ WS := ws_of (lt_1 (List.mem_of_getElem? (i := 117) rfl)) rfl
theorem wf_RX3_170 : Cond.fieldLink RX3 170 "PoleRiver$River" "goes" "[I" ∈ WS := ws_of (lt_1 (List.mem_of_getElem? (i := 118) rfl)) rfl
theorem wf_RX0_174 : Cond.fieldLink RX0 174 "PoleRiver$River" "goes" "[I" ∈ WS := ws_of (lt_1 (List.mem_of_getElem? (i := 119) rfl)) rfl
theorem wf_RX11_266 : Cond.fieldLink RX11 266 "PoleRiver$River" "goes" "[I" ∈ WS := ws_of (lt_1 (List.mem_of_getElem? (i := 120) rfl)) rfl
theorem wf_RX2_34 : Cond.fieldLink RX2 34 "PoleRiver$River" "comes" "[I" ∈ WS := ws_of (lt_1 (List.mem_of_getElem? (i := 121) rfl)) rfl
theorem wf_RX9_52 : Cond.fieldLink RX9 52 "PoleRiver$River" "comes" "[I" ∈ WS := ws_of (lt_1 (List.mem_of_getElem? (i := 122) rfl)) rfl
theorem wf_RX3_174 : Cond.fieldLink RX3 174 "PoleRiver$River" "comes" "[I" ∈ WS := ws_of (lt_1 (List.mem_of_getElem? (i := 123) rfl)) rfl
theorem wf_RX0_177 : Cond.fieldLink RX0 177 "PoleRiver$River" "comes" "[I" ∈ WS := ws_of (lt_1 (List.mem_of_getElem? (i := 124) rfl)) rfl
theorem wf_RX11_269 : Cond.fieldLink RX11 269 "PoleRiver$River" "comes" "[I" ∈ WS := ws_of (lt_1 (List.mem_of_getElem? (i := 125) rfl)) rfl
theorem wf_RX2_37 : Cond.fieldLink RX2 37 "PoleRiver$River" "least" "[I" ∈ WS := ws_of (lt_1 (List.mem_of_getElem? (i := 126) rfl)) rfl
theorem wf_RX6_55 : Cond.fieldLink RX6 55 "PoleRiver$River" "least" "[I" ∈ WS := ws_of (lt_1 (List.mem_of_getElem? (i := 127) rfl)) rfl
theorem wf_RX3_156 : Cond.fieldLink RX3 156 "PoleRiver$River" "least" "[I" ∈ WS := ws_of (lt_1 (List.mem_of_getElem? (i := 128) rfl)) rfl
theorem wf_RX0_145 : Cond.fieldLink RX0 145 "PoleRiver$River" "least" "[I" ∈ WS := ws_of (lt_1 (List.mem_of_getElem? (i := 129) rfl)) rfl
theorem wf_RX11_275 : Cond.fieldLink RX11 275 "PoleRiver$River" "least" "[I" ∈ WS := ws_of (lt_1 (List.mem_of_getElem? (i := 130) rfl)) rfl
theorem wly_RX2_width : Cond.lays RX2 "PoleRiver$River" "width" "I" ∈ WS := ws_of (lt_1 (List.mem_of_getElem? (i := 131) rfl)) rfl
theorem wly_RX2_height : Cond.lays RX2 "PoleRiver$River" "height" "I" ∈ WS := ws_of (lt_1 (List.mem_of_getElem? (i := 133) rfl)) rfl
theorem wly_RX2_bars : Cond.lays RX2 "PoleRiver$River" "bars" "I" ∈ WS := ws_of (lt_1 (List.mem_of_getElem? (i := 135) rfl)) rfl
theorem wly_RX2_draft : Cond.lays RX2 "PoleRiver$River" "draft" "I" ∈ WS := ws_of (lt_1 (List.mem_of_getElem? (i := 137) rfl)) rfl
theorem wly_RX2_load : Cond.lays RX2 "PoleRiver$River" "load" "I" ∈ WS := ws_of (lt_1 (List.mem_of_getElem? (i := 139) rfl)) rfl
theorem wly_RX2_straight : Cond.lays RX2 "PoleRiver$River" "straight" "I" ∈ WS := ws_of (lt_1 (List.mem_of_getElem? (i := 141) rfl)) rfl
theorem wly_RX2_slant : Cond.lays RX2 "PoleRiver$River" "slant" "I" ∈ WS := ws_of (lt_1 (List.mem_of_getElem? (i := 143) rfl)) rfl
theorem wly_RX2_turn : Cond.lays RX2 "PoleRiver$River" "turn" "I" ∈ WS := ws_of (lt_1 (List.mem_of_getElem? (i := 145) rfl)) rfl
theorem wly_RX2_lost : Cond.lays RX2 "PoleRiver$River" "lost" "I" ∈ WS := ws_of (lt_1 (List.mem_of_getElem? (i := 147) rfl)) rfl
theorem wly_RX2_pole : Cond.lays RX2 "PoleRiver$River" "pole" "I" ∈ WS := ws_of (lt_1 (List.mem_of_getElem? (i := 149) rfl)) rfl
theorem wly_RX2_water : Cond.lays RX2 "PoleRiver$River" "water" "I" ∈ WS := ws_of (lt_1 (List.mem_of_getElem? (i := 151) rfl)) rfl
theorem wly_RX2_depths : Cond.laysFinal RX2 "PoleRiver$River" "depths" "[I" ∈ WS := ws_of (lt_1 (List.mem_of_getElem? (i := 153) rfl)) rfl
theorem wly_RX2_owners : Cond.laysFinal RX2 "PoleRiver$River" "owners" "[I" ∈ WS := ws_of (lt_1 (List.mem_of_getElem? (i := 155) rfl)) rfl
theorem wly_RX2_stages : Cond.laysFinal RX2 "PoleRiver$River" "stages" "[I" ∈ WS := ws_of (lt_1 (List.mem_of_getElem? (i := 157) rfl)) rfl
theorem wly_RX2_names : Cond.laysFinal RX2 "PoleRiver$River" "names" "[J" ∈ WS := ws_of (lt_1 (List.mem_of_getElem? (i := 159) rfl)) rfl
theorem wly_RX2_takes : Cond.laysFinal RX2 "PoleRiver$River" "takes" "[I" ∈ WS := ws_of (lt_1 (List.mem_of_getElem? (i := 161) rfl)) rfl
theorem wly_RX2_chances : Cond.laysFinal RX2 "PoleRiver$River" "chances" "[I" ∈ WS := ws_of (lt_1 (List.mem_of_getElem? (i := 163) rfl)) rfl
theorem wly_RX2_goes : Cond.laysFinal RX2 "PoleRiver$River" "goes" "[I" ∈ WS := ws_of (lt_1 (List.mem_of_getElem? (i := 165) rfl)) rfl
theorem wly_RX2_comes : Cond.laysFinal RX2 "PoleRiver$River" "comes" "[I" ∈ WS := ws_of (lt_1 (List.mem_of_getElem? (i := 167) rfl)) rfl
theorem wly_RX2_least : Cond.laysFinal RX2 "PoleRiver$River" "least" "[I" ∈ WS := ws_of (lt_1 (List.mem_of_getElem? (i := 169) rfl)) rfl
theorem war_FieldType_int : Cond.arrayClass FieldType.int ∈ WS := ws_of (lt_1 (List.mem_of_getElem? (i := 172) rfl)) rfl
theorem war_FieldType_long : Cond.arrayClass FieldType.long ∈ WS := ws_of (lt_1 (List.mem_of_getElem? (i := 173) rfl)) rfl
theorem wcl_RX7_18 : Cond.classLink RX7 18 RX4 ∈ WS := ws_of (lt_1 (List.mem_of_getElem? (i := 174) rfl)) rfl
theorem wnew_RX4 : Cond.instantiable RX4 6 ∈ WS := ws_of (lt_1 (List.mem_of_getElem? (i := 175) rfl)) rfl
theorem wnl_RX7_20 : Cond.methodLinkNest RX7 20 yX4_init "PoleRiver" ∈ lw_tbl := lt_1 (List.mem_of_getElem? (i := 176) rfl)
theorem wi_yX4_init : Cond.instanceMethod yX4_init ∈ WS := ws_of (lt_1 (List.mem_of_getElem? (i := 177) rfl)) rfl
theorem wc_yX4_init : Cond.code yX4_init cX4_init 1 none ∈ WS := ws_of (lt_1 (List.mem_of_getElem? (i := 178) rfl)) rfl
theorem wml_RX4_3 : Cond.methodLink RX4 3 Lib.objectInit ∈ WS := ws_of (lt_1 (List.mem_of_getElem? (i := 179) rfl)) rfl
theorem wf_RX4_9 : Cond.fieldLink RX4 9 "PoleRiver$Rule" "lines" "I" ∈ WS := ws_of (lt_1 (List.mem_of_getElem? (i := 180) rfl)) rfl
theorem wf_RX5_31 : Cond.fieldLink RX5 31 "PoleRiver$Rule" "lines" "I" ∈ WS := ws_of (lt_1 (List.mem_of_getElem? (i := 181) rfl)) rfl
theorem wf_RX0_94 : Cond.fieldLink RX0 94 "PoleRiver$Rule" "lines" "I" ∈ WS := ws_of (lt_1 (List.mem_of_getElem? (i := 182) rfl)) rfl
theorem wf_RX4_15 : Cond.fieldLink RX4 15 "PoleRiver$Rule" "steps" "I" ∈ WS := ws_of (lt_1 (List.mem_of_getElem? (i := 183) rfl)) rfl
theorem wf_RX5_36 : Cond.fieldLink RX5 36 "PoleRiver$Rule" "steps" "I" ∈ WS := ws_of (lt_1 (List.mem_of_getElem? (i := 184) rfl)) rfl
theorem wf_RX11_209 : Cond.fieldLink RX11 209 "PoleRiver$Rule" "steps" "I" ∈ WS := ws_of (lt_1 (List.mem_of_getElem? (i := 185) rfl)) rfl
theorem wf_RX4_18 : Cond.fieldLink RX4 18 "PoleRiver$Rule" "does" "[I" ∈ WS := ws_of (lt_1 (List.mem_of_getElem? (i := 186) rfl)) rfl
theorem wf_RX0_99 : Cond.fieldLink RX0 99 "PoleRiver$Rule" "does" "[I" ∈ WS := ws_of (lt_1 (List.mem_of_getElem? (i := 187) rfl)) rfl
theorem wf_RX5_117 : Cond.fieldLink RX5 117 "PoleRiver$Rule" "does" "[I" ∈ WS := ws_of (lt_1 (List.mem_of_getElem? (i := 188) rfl)) rfl
theorem wf_RX4_22 : Cond.fieldLink RX4 22 "PoleRiver$Rule" "bars" "[I" ∈ WS := ws_of (lt_1 (List.mem_of_getElem? (i := 189) rfl)) rfl
theorem wf_RX0_114 : Cond.fieldLink RX0 114 "PoleRiver$Rule" "bars" "[I" ∈ WS := ws_of (lt_1 (List.mem_of_getElem? (i := 190) rfl)) rfl
theorem wf_RX5_137 : Cond.fieldLink RX5 137 "PoleRiver$Rule" "bars" "[I" ∈ WS := ws_of (lt_1 (List.mem_of_getElem? (i := 191) rfl)) rfl
theorem wf_RX4_25 : Cond.fieldLink RX4 25 "PoleRiver$Rule" "numbers" "[I" ∈ WS := ws_of (lt_1 (List.mem_of_getElem? (i := 192) rfl)) rfl
theorem wf_RX0_117 : Cond.fieldLink RX0 117 "PoleRiver$Rule" "numbers" "[I" ∈ WS := ws_of (lt_1 (List.mem_of_getElem? (i := 193) rfl)) rfl
theorem wf_RX5_143 : Cond.fieldLink RX5 143 "PoleRiver$Rule" "numbers" "[I" ∈ WS := ws_of (lt_1 (List.mem_of_getElem? (i := 194) rfl)) rfl
theorem wf_RX4_28 : Cond.fieldLink RX4 28 "PoleRiver$Rule" "partners" "[I" ∈ WS := ws_of (lt_1 (List.mem_of_getElem? (i := 195) rfl)) rfl
theorem wf_RX5_68 : Cond.fieldLink RX5 68 "PoleRiver$Rule" "partners" "[I" ∈ WS := ws_of (lt_1 (List.mem_of_getElem? (i := 196) rfl)) rfl
theorem wf_RX0_111 : Cond.fieldLink RX0 111 "PoleRiver$Rule" "partners" "[I" ∈ WS := ws_of (lt_1 (List.mem_of_getElem? (i := 197) rfl)) rfl
theorem wly_RX4_lines : Cond.lays RX4 "PoleRiver$Rule" "lines" "I" ∈ WS := ws_of (lt_1 (List.mem_of_getElem? (i := 198) rfl)) rfl
theorem wly_RX4_steps : Cond.lays RX4 "PoleRiver$Rule" "steps" "I" ∈ WS := ws_of (lt_1 (List.mem_of_getElem? (i := 200) rfl)) rfl
theorem wly_RX4_does : Cond.laysFinal RX4 "PoleRiver$Rule" "does" "[I" ∈ WS := ws_of (lt_1 (List.mem_of_getElem? (i := 202) rfl)) rfl
theorem wly_RX4_bars : Cond.laysFinal RX4 "PoleRiver$Rule" "bars" "[I" ∈ WS := ws_of (lt_1 (List.mem_of_getElem? (i := 204) rfl)) rfl
theorem wly_RX4_numbers : Cond.laysFinal RX4 "PoleRiver$Rule" "numbers" "[I" ∈ WS := ws_of (lt_1 (List.mem_of_getElem? (i := 206) rfl)) rfl
theorem wly_RX4_partners : Cond.laysFinal RX4 "PoleRiver$Rule" "partners" "[I" ∈ WS := ws_of (lt_1 (List.mem_of_getElem? (i := 208) rfl)) rfl
theorem wf_RX7_12 : Cond.fieldLink RX7 12 "PoleRiver$State" "river" "LPoleRiver$River;" ∈ WS := ws_of (lt_1 (List.mem_of_getElem? (i := 211) rfl)) rfl
theorem wf_RX0_46 : Cond.fieldLink RX0 46 "PoleRiver$State" "river" "LPoleRiver$River;" ∈ WS := ws_of (lt_1 (List.mem_of_getElem? (i := 212) rfl)) rfl
theorem wf_RX11_58 : Cond.fieldLink RX11 58 "PoleRiver$State" "river" "LPoleRiver$River;" ∈ WS := ws_of (lt_1 (List.mem_of_getElem? (i := 213) rfl)) rfl
theorem wf_RX6_32 : Cond.fieldLink RX6 32 "PoleRiver$State" "river" "LPoleRiver$River;" ∈ WS := ws_of (lt_1 (List.mem_of_getElem? (i := 214) rfl)) rfl
theorem wf_RX7_21 : Cond.fieldLink RX7 21 "PoleRiver$State" "rule" "LPoleRiver$Rule;" ∈ WS := ws_of (lt_1 (List.mem_of_getElem? (i := 215) rfl)) rfl
theorem wf_RX0_53 : Cond.fieldLink RX0 53 "PoleRiver$State" "rule" "LPoleRiver$Rule;" ∈ WS := ws_of (lt_1 (List.mem_of_getElem? (i := 216) rfl)) rfl
theorem wf_RX11_206 : Cond.fieldLink RX11 206 "PoleRiver$State" "rule" "LPoleRiver$Rule;" ∈ WS := ws_of (lt_1 (List.mem_of_getElem? (i := 217) rfl)) rfl
theorem wf_RX7_25 : Cond.fieldLink RX7 25 "PoleRiver$State" "parts" "[J" ∈ WS := ws_of (lt_1 (List.mem_of_getElem? (i := 218) rfl)) rfl
theorem wf_RX11_129 : Cond.fieldLink RX11 129 "PoleRiver$State" "parts" "[J" ∈ WS := ws_of (lt_1 (List.mem_of_getElem? (i := 219) rfl)) rfl
theorem wf_RX6_44 : Cond.fieldLink RX6 44 "PoleRiver$State" "parts" "[J" ∈ WS := ws_of (lt_1 (List.mem_of_getElem? (i := 220) rfl)) rfl
theorem wf_RX0_60 : Cond.fieldLink RX0 60 "PoleRiver$State" "parts" "[J" ∈ WS := ws_of (lt_1 (List.mem_of_getElem? (i := 221) rfl)) rfl
theorem wf_RX7_29 : Cond.fieldLink RX7 29 "PoleRiver$State" "day" "I" ∈ WS := ws_of (lt_1 (List.mem_of_getElem? (i := 222) rfl)) rfl
theorem wf_RX6_35 : Cond.fieldLink RX6 35 "PoleRiver$State" "day" "I" ∈ WS := ws_of (lt_1 (List.mem_of_getElem? (i := 223) rfl)) rfl
theorem wf_RX0_58 : Cond.fieldLink RX0 58 "PoleRiver$State" "day" "I" ∈ WS := ws_of (lt_1 (List.mem_of_getElem? (i := 224) rfl)) rfl
theorem wf_RX11_227 : Cond.fieldLink RX11 227 "PoleRiver$State" "day" "I" ∈ WS := ws_of (lt_1 (List.mem_of_getElem? (i := 225) rfl)) rfl
theorem wf_RX7_33 : Cond.fieldLink RX7 33 "PoleRiver$State" "off" "I" ∈ WS := ws_of (lt_1 (List.mem_of_getElem? (i := 226) rfl)) rfl
theorem wf_RX0_59 : Cond.fieldLink RX0 59 "PoleRiver$State" "off" "I" ∈ WS := ws_of (lt_1 (List.mem_of_getElem? (i := 227) rfl)) rfl
theorem wf_RX11_230 : Cond.fieldLink RX11 230 "PoleRiver$State" "off" "I" ∈ WS := ws_of (lt_1 (List.mem_of_getElem? (i := 228) rfl)) rfl
theorem wly_RX7_river : Cond.lays RX7 "PoleRiver$State" "river" "LPoleRiver$River;" ∈ WS := ws_of (lt_1 (List.mem_of_getElem? (i := 229) rfl)) rfl
theorem wly_RX7_rule : Cond.lays RX7 "PoleRiver$State" "rule" "LPoleRiver$Rule;" ∈ WS := ws_of (lt_1 (List.mem_of_getElem? (i := 231) rfl)) rfl
theorem wly_RX7_parts : Cond.laysFinal RX7 "PoleRiver$State" "parts" "[J" ∈ WS := ws_of (lt_1 (List.mem_of_getElem? (i := 233) rfl)) rfl
theorem wly_RX7_day : Cond.lays RX7 "PoleRiver$State" "day" "I" ∈ WS := ws_of (lt_1 (List.mem_of_getElem? (i := 235) rfl)) rfl
theorem wly_RX7_off : Cond.lays RX7 "PoleRiver$State" "off" "I" ∈ WS := ws_of (lt_1 (List.mem_of_getElem? (i := 237) rfl)) rfl
theorem wao_FieldType_object__PoleRiver_State_ : Cond.arrayOver (FieldType.object "PoleRiver$State") ∈ lw_tbl := lt_2 (List.mem_of_getElem? (i := 0) rfl)
theorem wcl_RX11_26 : Cond.classLink RX11 26 RX2 ∈ WS := ws_of (lt_2 (List.mem_of_getElem? (i := 1) rfl)) rfl
theorem wml_RX11_28 : Cond.methodLink RX11 28 yX2_init ∈ WS := ws_of (lt_2 (List.mem_of_getElem? (i := 2) rfl)) rfl
theorem wcl_RX11_33 : Cond.classLink RX11 33 RX4 ∈ WS := ws_of (lt_2 (List.mem_of_getElem? (i := 3) rfl)) rfl
theorem wnl_RX11_35 : Cond.methodLinkNest RX11 35 yX4_init "PoleRiver" ∈ lw_tbl := lt_2 (List.mem_of_getElem? (i := 4) rfl)
theorem wcl_RX11_40 : Cond.classLink RX11 40 RX8 ∈ WS := ws_of (lt_2 (List.mem_of_getElem? (i := 5) rfl)) rfl
theorem wnew_RX8 : Cond.instantiable RX8 11 ∈ WS := ws_of (lt_2 (List.mem_of_getElem? (i := 6) rfl)) rfl
theorem wnl_RX11_42 : Cond.methodLinkNest RX11 42 yX8_init "PoleRiver" ∈ lw_tbl := lt_2 (List.mem_of_getElem? (i := 7) rfl)
theorem wi_yX8_init : Cond.instanceMethod yX8_init ∈ WS := ws_of (lt_2 (List.mem_of_getElem? (i := 8) rfl)) rfl
theorem wc_yX8_init : Cond.code yX8_init cX8_init 1 none ∈ WS := ws_of (lt_2 (List.mem_of_getElem? (i := 9) rfl)) rfl
theorem wml_RX8_3 : Cond.methodLink RX8 3 Lib.objectInit ∈ WS := ws_of (lt_2 (List.mem_of_getElem? (i := 10) rfl)) rfl
theorem wf_RX8_9 : Cond.fieldLink RX8 9 "PoleRiver$Text" "bytes" "[B" ∈ WS := ws_of (lt_2 (List.mem_of_getElem? (i := 11) rfl)) rfl
theorem wf_RX8_15 : Cond.fieldLink RX8 15 "PoleRiver$Text" "many" "I" ∈ WS := ws_of (lt_2 (List.mem_of_getElem? (i := 12) rfl)) rfl
theorem wf_RX11_182 : Cond.fieldLink RX11 182 "PoleRiver$Text" "many" "I" ∈ WS := ws_of (lt_2 (List.mem_of_getElem? (i := 13) rfl)) rfl
theorem wf_RX8_19 : Cond.fieldLink RX8 19 "PoleRiver$Text" "limit" "I" ∈ WS := ws_of (lt_2 (List.mem_of_getElem? (i := 14) rfl)) rfl
theorem wf_RX8_22 : Cond.fieldLink RX8 22 "PoleRiver$Text" "at" "I" ∈ WS := ws_of (lt_2 (List.mem_of_getElem? (i := 15) rfl)) rfl
theorem wf_RX8_25 : Cond.fieldLink RX8 25 "PoleRiver$Text" "kind" "I" ∈ WS := ws_of (lt_2 (List.mem_of_getElem? (i := 16) rfl)) rfl
theorem wf_RX5_45 : Cond.fieldLink RX5 45 "PoleRiver$Text" "kind" "I" ∈ WS := ws_of (lt_2 (List.mem_of_getElem? (i := 17) rfl)) rfl
theorem wf_RX3_51 : Cond.fieldLink RX3 51 "PoleRiver$Text" "kind" "I" ∈ WS := ws_of (lt_2 (List.mem_of_getElem? (i := 18) rfl)) rfl
theorem wf_RX8_28 : Cond.fieldLink RX8 28 "PoleRiver$Text" "begin" "I" ∈ WS := ws_of (lt_2 (List.mem_of_getElem? (i := 19) rfl)) rfl
theorem wf_RX8_31 : Cond.fieldLink RX8 31 "PoleRiver$Text" "word" "J" ∈ WS := ws_of (lt_2 (List.mem_of_getElem? (i := 20) rfl)) rfl
theorem wf_RX3_144 : Cond.fieldLink RX3 144 "PoleRiver$Text" "word" "J" ∈ WS := ws_of (lt_2 (List.mem_of_getElem? (i := 21) rfl)) rfl
theorem wf_RX5_127 : Cond.fieldLink RX5 127 "PoleRiver$Text" "word" "J" ∈ WS := ws_of (lt_2 (List.mem_of_getElem? (i := 22) rfl)) rfl
theorem wf_RX8_35 : Cond.fieldLink RX8 35 "PoleRiver$Text" "number" "I" ∈ WS := ws_of (lt_2 (List.mem_of_getElem? (i := 23) rfl)) rfl
theorem wf_RX3_135 : Cond.fieldLink RX3 135 "PoleRiver$Text" "number" "I" ∈ WS := ws_of (lt_2 (List.mem_of_getElem? (i := 24) rfl)) rfl
theorem wf_RX8_38 : Cond.fieldLink RX8 38 "PoleRiver$Text" "taken" "I" ∈ WS := ws_of (lt_2 (List.mem_of_getElem? (i := 25) rfl)) rfl
theorem wf_RX3_63 : Cond.fieldLink RX3 63 "PoleRiver$Text" "taken" "I" ∈ WS := ws_of (lt_2 (List.mem_of_getElem? (i := 26) rfl)) rfl
theorem wf_RX5_146 : Cond.fieldLink RX5 146 "PoleRiver$Text" "taken" "I" ∈ WS := ws_of (lt_2 (List.mem_of_getElem? (i := 27) rfl)) rfl
theorem wf_RX8_41 : Cond.fieldLink RX8 41 "PoleRiver$Text" "fault" "I" ∈ WS := ws_of (lt_2 (List.mem_of_getElem? (i := 28) rfl)) rfl
theorem wf_RX11_212 : Cond.fieldLink RX11 212 "PoleRiver$Text" "fault" "I" ∈ WS := ws_of (lt_2 (List.mem_of_getElem? (i := 29) rfl)) rfl
theorem wf_RX8_44 : Cond.fieldLink RX8 44 "PoleRiver$Text" "place" "I" ∈ WS := ws_of (lt_2 (List.mem_of_getElem? (i := 30) rfl)) rfl
theorem wf_RX11_215 : Cond.fieldLink RX11 215 "PoleRiver$Text" "place" "I" ∈ WS := ws_of (lt_2 (List.mem_of_getElem? (i := 31) rfl)) rfl
theorem wly_RX8_bytes : Cond.laysFinal RX8 "PoleRiver$Text" "bytes" "[B" ∈ WS := ws_of (lt_2 (List.mem_of_getElem? (i := 32) rfl)) rfl
theorem wly_RX8_many : Cond.lays RX8 "PoleRiver$Text" "many" "I" ∈ WS := ws_of (lt_2 (List.mem_of_getElem? (i := 34) rfl)) rfl
theorem wly_RX8_limit : Cond.lays RX8 "PoleRiver$Text" "limit" "I" ∈ WS := ws_of (lt_2 (List.mem_of_getElem? (i := 36) rfl)) rfl
theorem wly_RX8_at : Cond.lays RX8 "PoleRiver$Text" "at" "I" ∈ WS := ws_of (lt_2 (List.mem_of_getElem? (i := 38) rfl)) rfl
theorem wly_RX8_kind : Cond.lays RX8 "PoleRiver$Text" "kind" "I" ∈ WS := ws_of (lt_2 (List.mem_of_getElem? (i := 40) rfl)) rfl
theorem wly_RX8_begin : Cond.lays RX8 "PoleRiver$Text" "begin" "I" ∈ WS := ws_of (lt_2 (List.mem_of_getElem? (i := 42) rfl)) rfl
theorem wly_RX8_word : Cond.lays RX8 "PoleRiver$Text" "word" "J" ∈ WS := ws_of (lt_2 (List.mem_of_getElem? (i := 44) rfl)) rfl
theorem wly_RX8_number : Cond.lays RX8 "PoleRiver$Text" "number" "I" ∈ WS := ws_of (lt_2 (List.mem_of_getElem? (i := 46) rfl)) rfl
theorem wly_RX8_taken : Cond.lays RX8 "PoleRiver$Text" "taken" "I" ∈ WS := ws_of (lt_2 (List.mem_of_getElem? (i := 48) rfl)) rfl
theorem wly_RX8_fault : Cond.lays RX8 "PoleRiver$Text" "fault" "I" ∈ WS := ws_of (lt_2 (List.mem_of_getElem? (i := 50) rfl)) rfl
theorem wly_RX8_place : Cond.lays RX8 "PoleRiver$Text" "place" "I" ∈ WS := ws_of (lt_2 (List.mem_of_getElem? (i := 52) rfl)) rfl
theorem war_FieldType_byte : Cond.arrayClass FieldType.byte ∈ WS := ws_of (lt_2 (List.mem_of_getElem? (i := 55) rfl)) rfl
theorem wcl_RX11_47 : Cond.classLink RX11 47 RX3 ∈ WS := ws_of (lt_2 (List.mem_of_getElem? (i := 56) rfl)) rfl
theorem wnew_RX3 : Cond.instantiable RX3 7 ∈ WS := ws_of (lt_2 (List.mem_of_getElem? (i := 57) rfl)) rfl
theorem wml_RX11_49 : Cond.methodLink RX11 49 yX3_init ∈ WS := ws_of (lt_2 (List.mem_of_getElem? (i := 58) rfl)) rfl
theorem wi_yX3_init : Cond.instanceMethod yX3_init ∈ WS := ws_of (lt_2 (List.mem_of_getElem? (i := 59) rfl)) rfl
theorem wc_yX3_init : Cond.code yX3_init cX3_init 3 none ∈ WS := ws_of (lt_2 (List.mem_of_getElem? (i := 60) rfl)) rfl
theorem wml_RX3_3 : Cond.methodLink RX3 3 Lib.objectInit ∈ WS := ws_of (lt_2 (List.mem_of_getElem? (i := 61) rfl)) rfl
theorem wf_RX3_28 : Cond.fieldLink RX3 28 "PoleRiver$RiverReader" "text" "LPoleRiver$Text;" ∈ WS := ws_of (lt_2 (List.mem_of_getElem? (i := 62) rfl)) rfl
theorem wf_RX3_32 : Cond.fieldLink RX3 32 "PoleRiver$RiverReader" "river" "LPoleRiver$River;" ∈ WS := ws_of (lt_2 (List.mem_of_getElem? (i := 63) rfl)) rfl
theorem wf_RX3_9 : Cond.fieldLink RX3 9 "PoleRiver$RiverReader" "rows" "I" ∈ WS := ws_of (lt_2 (List.mem_of_getElem? (i := 64) rfl)) rfl
theorem wf_RX3_15 : Cond.fieldLink RX3 15 "PoleRiver$RiverReader" "hasStage" "Z" ∈ WS := ws_of (lt_2 (List.mem_of_getElem? (i := 65) rfl)) rfl
theorem wf_RX3_19 : Cond.fieldLink RX3 19 "PoleRiver$RiverReader" "hasBoat" "Z" ∈ WS := ws_of (lt_2 (List.mem_of_getElem? (i := 66) rfl)) rfl
theorem wf_RX3_22 : Cond.fieldLink RX3 22 "PoleRiver$RiverReader" "hasPole" "Z" ∈ WS := ws_of (lt_2 (List.mem_of_getElem? (i := 67) rfl)) rfl
theorem wf_RX3_25 : Cond.fieldLink RX3 25 "PoleRiver$RiverReader" "hasColour" "Z" ∈ WS := ws_of (lt_2 (List.mem_of_getElem? (i := 68) rfl)) rfl
theorem wly_RX3_text : Cond.laysFinal RX3 "PoleRiver$RiverReader" "text" "LPoleRiver$Text;" ∈ WS := ws_of (lt_2 (List.mem_of_getElem? (i := 69) rfl)) rfl
theorem wly_RX3_river : Cond.lays RX3 "PoleRiver$RiverReader" "river" "LPoleRiver$River;" ∈ WS := ws_of (lt_2 (List.mem_of_getElem? (i := 71) rfl)) rfl
theorem wly_RX3_rows : Cond.lays RX3 "PoleRiver$RiverReader" "rows" "I" ∈ WS := ws_of (lt_2 (List.mem_of_getElem? (i := 73) rfl)) rfl
theorem wly_RX3_hasStage : Cond.lays RX3 "PoleRiver$RiverReader" "hasStage" "Z" ∈ WS := ws_of (lt_2 (List.mem_of_getElem? (i := 75) rfl)) rfl
theorem wly_RX3_hasBoat : Cond.lays RX3 "PoleRiver$RiverReader" "hasBoat" "Z" ∈ WS := ws_of (lt_2 (List.mem_of_getElem? (i := 77) rfl)) rfl
theorem wly_RX3_hasPole : Cond.lays RX3 "PoleRiver$RiverReader" "hasPole" "Z" ∈ WS := ws_of (lt_2 (List.mem_of_getElem? (i := 79) rfl)) rfl
theorem wly_RX3_hasColour : Cond.lays RX3 "PoleRiver$RiverReader" "hasColour" "Z" ∈ WS := ws_of (lt_2 (List.mem_of_getElem? (i := 81) rfl)) rfl
theorem wcl_RX11_56 : Cond.classLink RX11 56 RX5 ∈ WS := ws_of (lt_2 (List.mem_of_getElem? (i := 84) rfl)) rfl
theorem wnew_RX5 : Cond.instantiable RX5 5 ∈ WS := ws_of (lt_2 (List.mem_of_getElem? (i := 85) rfl)) rfl
theorem wml_RX11_61 : Cond.methodLink RX11 61 yX5_init ∈ WS := ws_of (lt_2 (List.mem_of_getElem? (i := 86) rfl)) rfl
theorem wi_yX5_init : Cond.instanceMethod yX5_init ∈ WS := ws_of (lt_2 (List.mem_of_getElem? (i := 87) rfl)) rfl
theorem wc_yX5_init : Cond.code yX5_init cX5_init 4 none ∈ WS := ws_of (lt_2 (List.mem_of_getElem? (i := 88) rfl)) rfl
theorem wml_RX5_3 : Cond.methodLink RX5 3 Lib.objectInit ∈ WS := ws_of (lt_2 (List.mem_of_getElem? (i := 89) rfl)) rfl
theorem wf_RX5_19 : Cond.fieldLink RX5 19 "PoleRiver$RuleReader" "text" "LPoleRiver$Text;" ∈ WS := ws_of (lt_2 (List.mem_of_getElem? (i := 90) rfl)) rfl
theorem wf_RX5_9 : Cond.fieldLink RX5 9 "PoleRiver$RuleReader" "opened" "[I" ∈ WS := ws_of (lt_2 (List.mem_of_getElem? (i := 91) rfl)) rfl
theorem wf_RX5_23 : Cond.fieldLink RX5 23 "PoleRiver$RuleReader" "rule" "LPoleRiver$Rule;" ∈ WS := ws_of (lt_2 (List.mem_of_getElem? (i := 92) rfl)) rfl
theorem wf_RX5_27 : Cond.fieldLink RX5 27 "PoleRiver$RuleReader" "river" "LPoleRiver$River;" ∈ WS := ws_of (lt_2 (List.mem_of_getElem? (i := 93) rfl)) rfl
theorem wf_RX5_15 : Cond.fieldLink RX5 15 "PoleRiver$RuleReader" "deep" "I" ∈ WS := ws_of (lt_2 (List.mem_of_getElem? (i := 94) rfl)) rfl
theorem wly_RX5_text : Cond.laysFinal RX5 "PoleRiver$RuleReader" "text" "LPoleRiver$Text;" ∈ WS := ws_of (lt_2 (List.mem_of_getElem? (i := 95) rfl)) rfl
theorem wly_RX5_opened : Cond.laysFinal RX5 "PoleRiver$RuleReader" "opened" "[I" ∈ WS := ws_of (lt_2 (List.mem_of_getElem? (i := 97) rfl)) rfl
theorem wly_RX5_rule : Cond.lays RX5 "PoleRiver$RuleReader" "rule" "LPoleRiver$Rule;" ∈ WS := ws_of (lt_2 (List.mem_of_getElem? (i := 99) rfl)) rfl
theorem wly_RX5_river : Cond.lays RX5 "PoleRiver$RuleReader" "river" "LPoleRiver$River;" ∈ WS := ws_of (lt_2 (List.mem_of_getElem? (i := 101) rfl)) rfl
theorem wly_RX5_deep : Cond.lays RX5 "PoleRiver$RuleReader" "deep" "I" ∈ WS := ws_of (lt_2 (List.mem_of_getElem? (i := 103) rfl)) rfl
theorem wcl_RX11_68 : Cond.classLink RX11 68 RX9 ∈ WS := ws_of (lt_2 (List.mem_of_getElem? (i := 106) rfl)) rfl
theorem wnew_RX9 : Cond.instantiable RX9 1 ∈ WS := ws_of (lt_2 (List.mem_of_getElem? (i := 107) rfl)) rfl
theorem wnl_RX11_70 : Cond.methodLinkNest RX11 70 yX9_init "PoleRiver" ∈ lw_tbl := lt_2 (List.mem_of_getElem? (i := 108) rfl)
theorem wi_yX9_init : Cond.instanceMethod yX9_init ∈ WS := ws_of (lt_2 (List.mem_of_getElem? (i := 109) rfl)) rfl
theorem wc_yX9_init : Cond.code yX9_init cX9_init 1 none ∈ WS := ws_of (lt_2 (List.mem_of_getElem? (i := 110) rfl)) rfl
theorem wml_RX9_3 : Cond.methodLink RX9 3 Lib.objectInit ∈ WS := ws_of (lt_2 (List.mem_of_getElem? (i := 111) rfl)) rfl
theorem wf_RX9_9 : Cond.fieldLink RX9 9 "PoleRiver$Thinker" "weights" "[J" ∈ WS := ws_of (lt_2 (List.mem_of_getElem? (i := 112) rfl)) rfl
theorem wly_RX9_weights : Cond.laysFinal RX9 "PoleRiver$Thinker" "weights" "[J" ∈ WS := ws_of (lt_2 (List.mem_of_getElem? (i := 113) rfl)) rfl
theorem wcl_RX11_75 : Cond.classLink RX11 75 RX1 ∈ WS := ws_of (lt_2 (List.mem_of_getElem? (i := 116) rfl)) rfl
theorem wnew_RX1 : Cond.instantiable RX1 19 ∈ WS := ws_of (lt_2 (List.mem_of_getElem? (i := 117) rfl)) rfl
theorem wml_RX11_77 : Cond.methodLink RX11 77 yX1_init ∈ WS := ws_of (lt_2 (List.mem_of_getElem? (i := 118) rfl)) rfl
theorem wi_yX1_init : Cond.instanceMethod yX1_init ∈ WS := ws_of (lt_2 (List.mem_of_getElem? (i := 119) rfl)) rfl
theorem wc_yX1_init : Cond.code yX1_init cX1_init 2 none ∈ WS := ws_of (lt_2 (List.mem_of_getElem? (i := 120) rfl)) rfl
theorem wml_RX1_3 : Cond.methodLink RX1 3 Lib.objectInit ∈ WS := ws_of (lt_2 (List.mem_of_getElem? (i := 121) rfl)) rfl
theorem wf_RX1_9 : Cond.fieldLink RX1 9 "PoleRiver$Ground" "hasWay" "[Z" ∈ WS := ws_of (lt_2 (List.mem_of_getElem? (i := 122) rfl)) rfl
theorem wf_RX11_343 : Cond.fieldLink RX11 343 "PoleRiver$Ground" "hasWay" "[Z" ∈ WS := ws_of (lt_2 (List.mem_of_getElem? (i := 123) rfl)) rfl
theorem wf_RX1_15 : Cond.fieldLink RX1 15 "PoleRiver$Ground" "leastSets" "[I" ∈ WS := ws_of (lt_2 (List.mem_of_getElem? (i := 124) rfl)) rfl
theorem wf_RX1_19 : Cond.fieldLink RX1 19 "PoleRiver$Ground" "leastCount" "I" ∈ WS := ws_of (lt_2 (List.mem_of_getElem? (i := 125) rfl)) rfl
theorem wf_RX1_23 : Cond.fieldLink RX1 23 "PoleRiver$Ground" "sums" "[J" ∈ WS := ws_of (lt_2 (List.mem_of_getElem? (i := 126) rfl)) rfl
theorem wf_RX1_27 : Cond.fieldLink RX1 27 "PoleRiver$Ground" "barCells" "[J" ∈ WS := ws_of (lt_2 (List.mem_of_getElem? (i := 127) rfl)) rfl
theorem wf_RX1_30 : Cond.fieldLink RX1 30 "PoleRiver$Ground" "rest" "[I" ∈ WS := ws_of (lt_2 (List.mem_of_getElem? (i := 128) rfl)) rfl
theorem wf_RX1_33 : Cond.fieldLink RX1 33 "PoleRiver$Ground" "kept" "[I" ∈ WS := ws_of (lt_2 (List.mem_of_getElem? (i := 129) rfl)) rfl
theorem wf_RX11_370 : Cond.fieldLink RX11 370 "PoleRiver$Ground" "kept" "[I" ∈ WS := ws_of (lt_2 (List.mem_of_getElem? (i := 130) rfl)) rfl
theorem wf_RX1_36 : Cond.fieldLink RX1 36 "PoleRiver$Ground" "keptCells" "I" ∈ WS := ws_of (lt_2 (List.mem_of_getElem? (i := 131) rfl)) rfl
theorem wf_RX11_367 : Cond.fieldLink RX11 367 "PoleRiver$Ground" "keptCells" "I" ∈ WS := ws_of (lt_2 (List.mem_of_getElem? (i := 132) rfl)) rfl
theorem wf_RX1_39 : Cond.fieldLink RX1 39 "PoleRiver$Ground" "chosen" "I" ∈ WS := ws_of (lt_2 (List.mem_of_getElem? (i := 133) rfl)) rfl
theorem wf_RX0_210 : Cond.fieldLink RX0 210 "PoleRiver$Ground" "chosen" "I" ∈ WS := ws_of (lt_2 (List.mem_of_getElem? (i := 134) rfl)) rfl
theorem wf_RX11_357 : Cond.fieldLink RX11 357 "PoleRiver$Ground" "chosen" "I" ∈ WS := ws_of (lt_2 (List.mem_of_getElem? (i := 135) rfl)) rfl
theorem wf_RX1_42 : Cond.fieldLink RX1 42 "PoleRiver$Ground" "chosenMinutes" "I" ∈ WS := ws_of (lt_2 (List.mem_of_getElem? (i := 136) rfl)) rfl
theorem wf_RX0_213 : Cond.fieldLink RX0 213 "PoleRiver$Ground" "chosenMinutes" "I" ∈ WS := ws_of (lt_2 (List.mem_of_getElem? (i := 137) rfl)) rfl
theorem wf_RX1_45 : Cond.fieldLink RX1 45 "PoleRiver$Ground" "chosenParts" "J" ∈ WS := ws_of (lt_2 (List.mem_of_getElem? (i := 138) rfl)) rfl
theorem wf_RX11_360 : Cond.fieldLink RX11 360 "PoleRiver$Ground" "chosenParts" "J" ∈ WS := ws_of (lt_2 (List.mem_of_getElem? (i := 139) rfl)) rfl
theorem wf_RX1_70 : Cond.fieldLink RX1 70 "PoleRiver$Ground" "river" "LPoleRiver$River;" ∈ WS := ws_of (lt_2 (List.mem_of_getElem? (i := 140) rfl)) rfl
theorem wf_RX1_49 : Cond.fieldLink RX1 49 "PoleRiver$Ground" "stage" "I" ∈ WS := ws_of (lt_2 (List.mem_of_getElem? (i := 141) rfl)) rfl
theorem wf_RX1_52 : Cond.fieldLink RX1 52 "PoleRiver$Ground" "need" "I" ∈ WS := ws_of (lt_2 (List.mem_of_getElem? (i := 142) rfl)) rfl
theorem wf_RX1_55 : Cond.fieldLink RX1 55 "PoleRiver$Ground" "from" "I" ∈ WS := ws_of (lt_2 (List.mem_of_getElem? (i := 143) rfl)) rfl
theorem wf_RX1_58 : Cond.fieldLink RX1 58 "PoleRiver$Ground" "to" "I" ∈ WS := ws_of (lt_2 (List.mem_of_getElem? (i := 144) rfl)) rfl
theorem wf_RX1_61 : Cond.fieldLink RX1 61 "PoleRiver$Ground" "openCells" "J" ∈ WS := ws_of (lt_2 (List.mem_of_getElem? (i := 145) rfl)) rfl
theorem wf_RX1_64 : Cond.fieldLink RX1 64 "PoleRiver$Ground" "leftEdge" "J" ∈ WS := ws_of (lt_2 (List.mem_of_getElem? (i := 146) rfl)) rfl
theorem wf_RX1_67 : Cond.fieldLink RX1 67 "PoleRiver$Ground" "rightEdge" "J" ∈ WS := ws_of (lt_2 (List.mem_of_getElem? (i := 147) rfl)) rfl
theorem wly_RX1_hasWay : Cond.laysFinal RX1 "PoleRiver$Ground" "hasWay" "[Z" ∈ WS := ws_of (lt_2 (List.mem_of_getElem? (i := 148) rfl)) rfl
theorem wly_RX1_leastSets : Cond.laysFinal RX1 "PoleRiver$Ground" "leastSets" "[I" ∈ WS := ws_of (lt_2 (List.mem_of_getElem? (i := 150) rfl)) rfl
theorem wly_RX1_leastCount : Cond.lays RX1 "PoleRiver$Ground" "leastCount" "I" ∈ WS := ws_of (lt_2 (List.mem_of_getElem? (i := 152) rfl)) rfl
theorem wly_RX1_sums : Cond.laysFinal RX1 "PoleRiver$Ground" "sums" "[J" ∈ WS := ws_of (lt_2 (List.mem_of_getElem? (i := 154) rfl)) rfl
theorem wly_RX1_barCells : Cond.laysFinal RX1 "PoleRiver$Ground" "barCells" "[J" ∈ WS := ws_of (lt_2 (List.mem_of_getElem? (i := 156) rfl)) rfl
theorem wly_RX1_rest : Cond.laysFinal RX1 "PoleRiver$Ground" "rest" "[I" ∈ WS := ws_of (lt_2 (List.mem_of_getElem? (i := 158) rfl)) rfl
theorem wly_RX1_kept : Cond.laysFinal RX1 "PoleRiver$Ground" "kept" "[I" ∈ WS := ws_of (lt_2 (List.mem_of_getElem? (i := 160) rfl)) rfl
theorem wly_RX1_keptCells : Cond.lays RX1 "PoleRiver$Ground" "keptCells" "I" ∈ WS := ws_of (lt_2 (List.mem_of_getElem? (i := 162) rfl)) rfl
theorem wly_RX1_chosen : Cond.lays RX1 "PoleRiver$Ground" "chosen" "I" ∈ WS := ws_of (lt_2 (List.mem_of_getElem? (i := 164) rfl)) rfl
theorem wly_RX1_chosenMinutes : Cond.lays RX1 "PoleRiver$Ground" "chosenMinutes" "I" ∈ WS := ws_of (lt_2 (List.mem_of_getElem? (i := 166) rfl)) rfl
theorem wly_RX1_chosenParts : Cond.lays RX1 "PoleRiver$Ground" "chosenParts" "J" ∈ WS := ws_of (lt_2 (List.mem_of_getElem? (i := 168) rfl)) rfl
theorem wly_RX1_river : Cond.lays RX1 "PoleRiver$Ground" "river" "LPoleRiver$River;" ∈ WS := ws_of (lt_2 (List.mem_of_getElem? (i := 170) rfl)) rfl
theorem wly_RX1_stage : Cond.lays RX1 "PoleRiver$Ground" "stage" "I" ∈ WS := ws_of (lt_2 (List.mem_of_getElem? (i := 172) rfl)) rfl
theorem wly_RX1_need : Cond.lays RX1 "PoleRiver$Ground" "need" "I" ∈ WS := ws_of (lt_2 (List.mem_of_getElem? (i := 174) rfl)) rfl
theorem wly_RX1_from : Cond.lays RX1 "PoleRiver$Ground" "from" "I" ∈ WS := ws_of (lt_2 (List.mem_of_getElem? (i := 176) rfl)) rfl
theorem wly_RX1_to : Cond.lays RX1 "PoleRiver$Ground" "to" "I" ∈ WS := ws_of (lt_2 (List.mem_of_getElem? (i := 178) rfl)) rfl
theorem wly_RX1_openCells : Cond.lays RX1 "PoleRiver$Ground" "openCells" "J" ∈ WS := ws_of (lt_2 (List.mem_of_getElem? (i := 180) rfl)) rfl
theorem wly_RX1_leftEdge : Cond.lays RX1 "PoleRiver$Ground" "leftEdge" "J" ∈ WS := ws_of (lt_2 (List.mem_of_getElem? (i := 182) rfl)) rfl
theorem wly_RX1_rightEdge : Cond.lays RX1 "PoleRiver$Ground" "rightEdge" "J" ∈ WS := ws_of (lt_2 (List.mem_of_getElem? (i := 184) rfl)) rfl
theorem war_FieldType_boolean : Cond.arrayClass FieldType.boolean ∈ WS := ws_of (lt_2 (List.mem_of_getElem? (i := 187) rfl)) rfl
theorem wcl_RX11_84 : Cond.classLink RX11 84 RX6 ∈ WS := ws_of (lt_2 (List.mem_of_getElem? (i := 188) rfl)) rfl
theorem wnew_RX6 : Cond.instantiable RX6 5 ∈ WS := ws_of (lt_2 (List.mem_of_getElem? (i := 189) rfl)) rfl
theorem wml_RX11_86 : Cond.methodLink RX11 86 yX6_init ∈ WS := ws_of (lt_2 (List.mem_of_getElem? (i := 190) rfl)) rfl
theorem wi_yX6_init : Cond.instanceMethod yX6_init ∈ WS := ws_of (lt_2 (List.mem_of_getElem? (i := 191) rfl)) rfl
theorem wc_yX6_init : Cond.code yX6_init cX6_init 3 none ∈ WS := ws_of (lt_2 (List.mem_of_getElem? (i := 192) rfl)) rfl
theorem wml_RX6_3 : Cond.methodLink RX6 3 Lib.objectInit ∈ WS := ws_of (lt_2 (List.mem_of_getElem? (i := 193) rfl)) rfl
theorem wcl_RX6_9 : Cond.classLink RX6 9 "[[J" ∈ WS := ws_of (lt_2 (List.mem_of_getElem? (i := 194) rfl)) rfl
theorem wao_FieldType_array_FieldType_long : Cond.arrayOver (FieldType.array FieldType.long) ∈ lw_tbl := lt_2 (List.mem_of_getElem? (i := 195) rfl)
theorem wf_RX6_24 : Cond.fieldLink RX6 24 "PoleRiver$Scout" "ground" "LPoleRiver$Ground;" ∈ WS := ws_of (lt_2 (List.mem_of_getElem? (i := 196) rfl)) rfl
theorem wf_RX6_11 : Cond.fieldLink RX6 11 "PoleRiver$Scout" "weights" "[[J" ∈ WS := ws_of (lt_2 (List.mem_of_getElem? (i := 197) rfl)) rfl
theorem wf_RX6_28 : Cond.fieldLink RX6 28 "PoleRiver$Scout" "river" "LPoleRiver$River;" ∈ WS := ws_of (lt_2 (List.mem_of_getElem? (i := 198) rfl)) rfl
theorem wf_RX6_16 : Cond.fieldLink RX6 16 "PoleRiver$Scout" "stage" "I" ∈ WS := ws_of (lt_2 (List.mem_of_getElem? (i := 199) rfl)) rfl
theorem wf_RX6_20 : Cond.fieldLink RX6 20 "PoleRiver$Scout" "canSound" "Z" ∈ WS := ws_of (lt_2 (List.mem_of_getElem? (i := 200) rfl)) rfl
theorem wly_RX6_ground : Cond.laysFinal RX6 "PoleRiver$Scout" "ground" "LPoleRiver$Ground;" ∈ WS := ws_of (lt_2 (List.mem_of_getElem? (i := 201) rfl)) rfl
theorem wly_RX6_weights : Cond.laysFinal RX6 "PoleRiver$Scout" "weights" "[[J" ∈ WS := ws_of (lt_2 (List.mem_of_getElem? (i := 203) rfl)) rfl
theorem wly_RX6_river : Cond.lays RX6 "PoleRiver$Scout" "river" "LPoleRiver$River;" ∈ WS := ws_of (lt_2 (List.mem_of_getElem? (i := 205) rfl)) rfl
theorem wly_RX6_stage : Cond.lays RX6 "PoleRiver$Scout" "stage" "I" ∈ WS := ws_of (lt_2 (List.mem_of_getElem? (i := 207) rfl)) rfl
theorem wly_RX6_canSound : Cond.lays RX6 "PoleRiver$Scout" "canSound" "Z" ∈ WS := ws_of (lt_2 (List.mem_of_getElem? (i := 209) rfl)) rfl
theorem wcl_RX11_93 : Cond.classLink RX11 93 RX0 ∈ WS := ws_of (lt_2 (List.mem_of_getElem? (i := 212) rfl)) rfl
theorem wnew_RX0 : Cond.instantiable RX0 12 ∈ WS := ws_of (lt_2 (List.mem_of_getElem? (i := 213) rfl)) rfl
theorem wml_RX11_95 : Cond.methodLink RX11 95 yX0_init ∈ WS := ws_of (lt_2 (List.mem_of_getElem? (i := 214) rfl)) rfl
theorem wi_yX0_init : Cond.instanceMethod yX0_init ∈ WS := ws_of (lt_2 (List.mem_of_getElem? (i := 215) rfl)) rfl
theorem wc_yX0_init : Cond.code yX0_init cX0_init 4 none ∈ WS := ws_of (lt_2 (List.mem_of_getElem? (i := 216) rfl)) rfl
theorem wml_RX0_3 : Cond.methodLink RX0 3 Lib.objectInit ∈ WS := ws_of (lt_2 (List.mem_of_getElem? (i := 217) rfl)) rfl
theorem wf_RX0_38 : Cond.fieldLink RX0 38 "PoleRiver$Game" "thinker" "LPoleRiver$Thinker;" ∈ WS := ws_of (lt_2 (List.mem_of_getElem? (i := 218) rfl)) rfl
theorem wf_RX0_42 : Cond.fieldLink RX0 42 "PoleRiver$Game" "ground" "LPoleRiver$Ground;" ∈ WS := ws_of (lt_2 (List.mem_of_getElem? (i := 219) rfl)) rfl
theorem wf_RX0_11 : Cond.fieldLink RX0 11 "PoleRiver$Game" "tally" "[I" ∈ WS := ws_of (lt_2 (List.mem_of_getElem? (i := 220) rfl)) rfl
theorem wf_RX11_414 : Cond.fieldLink RX11 414 "PoleRiver$Game" "tally" "[I" ∈ WS := ws_of (lt_2 (List.mem_of_getElem? (i := 221) rfl)) rfl
theorem wf_RX0_15 : Cond.fieldLink RX0 15 "PoleRiver$Game" "parts" "[J" ∈ WS := ws_of (lt_2 (List.mem_of_getElem? (i := 222) rfl)) rfl
theorem wf_RX0_19 : Cond.fieldLink RX0 19 "PoleRiver$Game" "turnsLeft" "[I" ∈ WS := ws_of (lt_2 (List.mem_of_getElem? (i := 223) rfl)) rfl
theorem wf_RX0_52 : Cond.fieldLink RX0 52 "PoleRiver$Game" "river" "LPoleRiver$River;" ∈ WS := ws_of (lt_2 (List.mem_of_getElem? (i := 224) rfl)) rfl
theorem wf_RX0_57 : Cond.fieldLink RX0 57 "PoleRiver$Game" "rule" "LPoleRiver$Rule;" ∈ WS := ws_of (lt_2 (List.mem_of_getElem? (i := 225) rfl)) rfl
theorem wf_RX0_22 : Cond.fieldLink RX0 22 "PoleRiver$Game" "from" "I" ∈ WS := ws_of (lt_2 (List.mem_of_getElem? (i := 226) rfl)) rfl
theorem wf_RX0_26 : Cond.fieldLink RX0 26 "PoleRiver$Game" "to" "I" ∈ WS := ws_of (lt_2 (List.mem_of_getElem? (i := 227) rfl)) rfl
theorem wf_RX0_29 : Cond.fieldLink RX0 29 "PoleRiver$Game" "day" "I" ∈ WS := ws_of (lt_2 (List.mem_of_getElem? (i := 228) rfl)) rfl
theorem wf_RX0_32 : Cond.fieldLink RX0 32 "PoleRiver$Game" "off" "I" ∈ WS := ws_of (lt_2 (List.mem_of_getElem? (i := 229) rfl)) rfl
theorem wf_RX0_35 : Cond.fieldLink RX0 35 "PoleRiver$Game" "seed" "I" ∈ WS := ws_of (lt_2 (List.mem_of_getElem? (i := 230) rfl)) rfl
theorem wly_RX0_thinker : Cond.laysFinal RX0 "PoleRiver$Game" "thinker" "LPoleRiver$Thinker;" ∈ WS := ws_of (lt_2 (List.mem_of_getElem? (i := 231) rfl)) rfl
theorem wly_RX0_ground : Cond.laysFinal RX0 "PoleRiver$Game" "ground" "LPoleRiver$Ground;" ∈ WS := ws_of (lt_2 (List.mem_of_getElem? (i := 233) rfl)) rfl
theorem wly_RX0_tally : Cond.laysFinal RX0 "PoleRiver$Game" "tally" "[I" ∈ WS := ws_of (lt_2 (List.mem_of_getElem? (i := 235) rfl)) rfl
theorem wly_RX0_parts : Cond.laysFinal RX0 "PoleRiver$Game" "parts" "[J" ∈ WS := ws_of (lt_2 (List.mem_of_getElem? (i := 237) rfl)) rfl
theorem wly_RX0_turnsLeft : Cond.laysFinal RX0 "PoleRiver$Game" "turnsLeft" "[I" ∈ WS := ws_of (lt_2 (List.mem_of_getElem? (i := 239) rfl)) rfl
theorem wly_RX0_river : Cond.lays RX0 "PoleRiver$Game" "river" "LPoleRiver$River;" ∈ WS := ws_of (lt_3 (List.mem_of_getElem? (i := 1) rfl)) rfl
theorem wly_RX0_rule : Cond.lays RX0 "PoleRiver$Game" "rule" "LPoleRiver$Rule;" ∈ WS := ws_of (lt_3 (List.mem_of_getElem? (i := 3) rfl)) rfl
theorem wly_RX0_from : Cond.lays RX0 "PoleRiver$Game" "from" "I" ∈ WS := ws_of (lt_3 (List.mem_of_getElem? (i := 5) rfl)) rfl
theorem wly_RX0_to : Cond.lays RX0 "PoleRiver$Game" "to" "I" ∈ WS := ws_of (lt_3 (List.mem_of_getElem? (i := 7) rfl)) rfl
theorem wly_RX0_day : Cond.lays RX0 "PoleRiver$Game" "day" "I" ∈ WS := ws_of (lt_3 (List.mem_of_getElem? (i := 9) rfl)) rfl
theorem wly_RX0_off : Cond.lays RX0 "PoleRiver$Game" "off" "I" ∈ WS := ws_of (lt_3 (List.mem_of_getElem? (i := 11) rfl)) rfl
theorem wly_RX0_seed : Cond.lays RX0 "PoleRiver$Game" "seed" "I" ∈ WS := ws_of (lt_3 (List.mem_of_getElem? (i := 13) rfl)) rfl
theorem wnew_RX10 : Cond.instantiable RX10 3 ∈ WS := ws_of (lt_3 (List.mem_of_getElem? (i := 16) rfl)) rfl
theorem wnl_RX11_128 : Cond.methodLinkNest RX11 128 yX10_init "PoleRiver" ∈ lw_tbl := lt_3 (List.mem_of_getElem? (i := 17) rfl)
theorem wi_yX10_init : Cond.instanceMethod yX10_init ∈ WS := ws_of (lt_3 (List.mem_of_getElem? (i := 18) rfl)) rfl
theorem wc_yX10_init : Cond.code yX10_init cX10_init 1 none ∈ WS := ws_of (lt_3 (List.mem_of_getElem? (i := 19) rfl)) rfl
theorem wml_RX10_3 : Cond.methodLink RX10 3 Lib.objectInit ∈ WS := ws_of (lt_3 (List.mem_of_getElem? (i := 20) rfl)) rfl
theorem wf_RX10_9 : Cond.fieldLink RX10 9 "PoleRiver$Tray" "row" "[J" ∈ WS := ws_of (lt_3 (List.mem_of_getElem? (i := 21) rfl)) rfl
theorem wf_RX11_155 : Cond.fieldLink RX11 155 "PoleRiver$Tray" "row" "[J" ∈ WS := ws_of (lt_3 (List.mem_of_getElem? (i := 22) rfl)) rfl
theorem wf_RX10_15 : Cond.fieldLink RX10 15 "PoleRiver$Tray" "sort" "I" ∈ WS := ws_of (lt_3 (List.mem_of_getElem? (i := 23) rfl)) rfl
theorem wf_RX11_169 : Cond.fieldLink RX11 169 "PoleRiver$Tray" "sort" "I" ∈ WS := ws_of (lt_3 (List.mem_of_getElem? (i := 24) rfl)) rfl
theorem wf_RX10_19 : Cond.fieldLink RX10 19 "PoleRiver$Tray" "many" "I" ∈ WS := ws_of (lt_3 (List.mem_of_getElem? (i := 25) rfl)) rfl
theorem wf_RX11_425 : Cond.fieldLink RX11 425 "PoleRiver$Tray" "many" "I" ∈ WS := ws_of (lt_3 (List.mem_of_getElem? (i := 26) rfl)) rfl
theorem wly_RX10_row : Cond.laysFinal RX10 "PoleRiver$Tray" "row" "[J" ∈ WS := ws_of (lt_3 (List.mem_of_getElem? (i := 27) rfl)) rfl
theorem wly_RX10_sort : Cond.lays RX10 "PoleRiver$Tray" "sort" "I" ∈ WS := ws_of (lt_3 (List.mem_of_getElem? (i := 29) rfl)) rfl
theorem wly_RX10_many : Cond.lays RX10 "PoleRiver$Tray" "many" "I" ∈ WS := ws_of (lt_3 (List.mem_of_getElem? (i := 31) rfl)) rfl
theorem wml_RX11_132 : Cond.methodLink RX11 132 yX9_think ∈ WS := ws_of (lt_3 (List.mem_of_getElem? (i := 34) rfl)) rfl
theorem wi_yX9_think : Cond.instanceMethod yX9_think ∈ WS := ws_of (lt_3 (List.mem_of_getElem? (i := 35) rfl)) rfl
theorem wsel_yX9_think : Cond.selects RX9 yX9_think yX9_think ∈ WS := ws_of (lt_3 (List.mem_of_getElem? (i := 36) rfl)) rfl
theorem wc_yX9_think : Cond.code yX9_think cX9_think 6 none ∈ WS := ws_of (lt_3 (List.mem_of_getElem? (i := 37) rfl)) rfl
theorem wml_RX9_15 : Cond.methodLink RX9 15 yJ7_fill_d0a16 ∈ WS := ws_of (lt_3 (List.mem_of_getElem? (i := 38) rfl)) rfl
theorem wst_yJ7_fill_d0a16 : Cond.static yJ7_fill_d0a16 ∈ WS := ws_of (lt_3 (List.mem_of_getElem? (i := 39) rfl)) rfl
theorem wc_yJ7_fill_d0a16 : Cond.code yJ7_fill_d0a16 cJ7_fill_d0a16 5 none ∈ WS := ws_of (lt_3 (List.mem_of_getElem? (i := 40) rfl)) rfl
theorem wml_RX9_21 : Cond.methodLink RX9 21 yX2_setCount ∈ WS := ws_of (lt_3 (List.mem_of_getElem? (i := 41) rfl)) rfl
theorem wi_yX2_setCount : Cond.instanceMethod yX2_setCount ∈ WS := ws_of (lt_3 (List.mem_of_getElem? (i := 42) rfl)) rfl
theorem wsel_yX2_setCount : Cond.selects RX2 yX2_setCount yX2_setCount ∈ WS := ws_of (lt_3 (List.mem_of_getElem? (i := 43) rfl)) rfl
theorem wc_yX2_setCount : Cond.code yX2_setCount cX2_setCount 1 (some .int) ∈ WS := ws_of (lt_3 (List.mem_of_getElem? (i := 44) rfl)) rfl
theorem wml_RX9_35 : Cond.methodLink RX9 35 yX9_shareOut ∈ WS := ws_of (lt_3 (List.mem_of_getElem? (i := 45) rfl)) rfl
theorem wi_yX9_shareOut : Cond.instanceMethod yX9_shareOut ∈ WS := ws_of (lt_3 (List.mem_of_getElem? (i := 47) rfl)) rfl
theorem wc_yX9_shareOut : Cond.code yX9_shareOut cX9_shareOut 8 (some .boolean) ∈ WS := ws_of (lt_3 (List.mem_of_getElem? (i := 48) rfl)) rfl
theorem wk_RX9_72 : Cond.constantLong RX9 72 (1000000) ∈ WS := ws_of (lt_3 (List.mem_of_getElem? (i := 49) rfl)) rfl
theorem wf_RX11_11 : Cond.fieldLink RX11 11 "PoleRiver" "trays" "[LPoleRiver$Tray;" ∈ WS := ws_of (lt_3 (List.mem_of_getElem? (i := 50) rfl)) rfl
theorem wf_RX11_18 : Cond.fieldLink RX11 18 "PoleRiver" "now" "LPoleRiver$State;" ∈ WS := ws_of (lt_3 (List.mem_of_getElem? (i := 51) rfl)) rfl
theorem wf_RX11_22 : Cond.fieldLink RX11 22 "PoleRiver" "marks" "[LPoleRiver$State;" ∈ WS := ws_of (lt_3 (List.mem_of_getElem? (i := 52) rfl)) rfl
theorem wf_RX11_29 : Cond.fieldLink RX11 29 "PoleRiver" "spareRiver" "LPoleRiver$River;" ∈ WS := ws_of (lt_3 (List.mem_of_getElem? (i := 53) rfl)) rfl
theorem wf_RX11_36 : Cond.fieldLink RX11 36 "PoleRiver" "spareRule" "LPoleRiver$Rule;" ∈ WS := ws_of (lt_3 (List.mem_of_getElem? (i := 54) rfl)) rfl
theorem wf_RX11_43 : Cond.fieldLink RX11 43 "PoleRiver" "text" "LPoleRiver$Text;" ∈ WS := ws_of (lt_3 (List.mem_of_getElem? (i := 55) rfl)) rfl
theorem wf_RX11_52 : Cond.fieldLink RX11 52 "PoleRiver" "riverReader" "LPoleRiver$RiverReader;" ∈ WS := ws_of (lt_3 (List.mem_of_getElem? (i := 56) rfl)) rfl
theorem wf_RX11_64 : Cond.fieldLink RX11 64 "PoleRiver" "ruleReader" "LPoleRiver$RuleReader;" ∈ WS := ws_of (lt_3 (List.mem_of_getElem? (i := 57) rfl)) rfl
theorem wf_RX11_71 : Cond.fieldLink RX11 71 "PoleRiver" "thinker" "LPoleRiver$Thinker;" ∈ WS := ws_of (lt_3 (List.mem_of_getElem? (i := 58) rfl)) rfl
theorem wf_RX11_80 : Cond.fieldLink RX11 80 "PoleRiver" "ground" "LPoleRiver$Ground;" ∈ WS := ws_of (lt_3 (List.mem_of_getElem? (i := 59) rfl)) rfl
theorem wf_RX11_89 : Cond.fieldLink RX11 89 "PoleRiver" "scout" "LPoleRiver$Scout;" ∈ WS := ws_of (lt_3 (List.mem_of_getElem? (i := 60) rfl)) rfl
theorem wf_RX11_98 : Cond.fieldLink RX11 98 "PoleRiver" "game" "LPoleRiver$Game;" ∈ WS := ws_of (lt_3 (List.mem_of_getElem? (i := 61) rfl)) rfl
theorem wf_RX11_102 : Cond.fieldLink RX11 102 "PoleRiver" "guess" "[J" ∈ WS := ws_of (lt_3 (List.mem_of_getElem? (i := 62) rfl)) rfl
theorem wf_RX11_106 : Cond.fieldLink RX11 106 "PoleRiver" "lastGame" "[I" ∈ WS := ws_of (lt_3 (List.mem_of_getElem? (i := 63) rfl)) rfl
theorem wf_RX11_110 : Cond.fieldLink RX11 110 "PoleRiver" "hasPlayed" "Z" ∈ WS := ws_of (lt_3 (List.mem_of_getElem? (i := 64) rfl)) rfl
theorem wf_RX11_114 : Cond.fieldLink RX11 114 "PoleRiver" "markCount" "I" ∈ WS := ws_of (lt_3 (List.mem_of_getElem? (i := 65) rfl)) rfl
theorem wf_RX11_118 : Cond.fieldLink RX11 118 "PoleRiver" "status" "I" ∈ WS := ws_of (lt_3 (List.mem_of_getElem? (i := 66) rfl)) rfl
theorem wf_RX11_121 : Cond.fieldLink RX11 121 "PoleRiver" "top" "J" ∈ WS := ws_of (lt_3 (List.mem_of_getElem? (i := 67) rfl)) rfl
theorem wf_RX11_125 : Cond.fieldLink RX11 125 "PoleRiver" "bottom" "J" ∈ WS := ws_of (lt_3 (List.mem_of_getElem? (i := 68) rfl)) rfl
theorem wly_RX11_trays : Cond.laysFinal RX11 "PoleRiver" "trays" "[LPoleRiver$Tray;" ∈ WS := ws_of (lt_3 (List.mem_of_getElem? (i := 69) rfl)) rfl
theorem wly_RX11_now : Cond.laysFinal RX11 "PoleRiver" "now" "LPoleRiver$State;" ∈ WS := ws_of (lt_3 (List.mem_of_getElem? (i := 71) rfl)) rfl
theorem wly_RX11_marks : Cond.laysFinal RX11 "PoleRiver" "marks" "[LPoleRiver$State;" ∈ WS := ws_of (lt_3 (List.mem_of_getElem? (i := 73) rfl)) rfl
theorem wly_RX11_spareRiver : Cond.lays RX11 "PoleRiver" "spareRiver" "LPoleRiver$River;" ∈ WS := ws_of (lt_3 (List.mem_of_getElem? (i := 75) rfl)) rfl
theorem wly_RX11_spareRule : Cond.lays RX11 "PoleRiver" "spareRule" "LPoleRiver$Rule;" ∈ WS := ws_of (lt_3 (List.mem_of_getElem? (i := 77) rfl)) rfl
theorem wly_RX11_text : Cond.laysFinal RX11 "PoleRiver" "text" "LPoleRiver$Text;" ∈ WS := ws_of (lt_3 (List.mem_of_getElem? (i := 79) rfl)) rfl
theorem wly_RX11_riverReader : Cond.laysFinal RX11 "PoleRiver" "riverReader" "LPoleRiver$RiverReader;" ∈ WS := ws_of (lt_3 (List.mem_of_getElem? (i := 81) rfl)) rfl
theorem wly_RX11_ruleReader : Cond.laysFinal RX11 "PoleRiver" "ruleReader" "LPoleRiver$RuleReader;" ∈ WS := ws_of (lt_3 (List.mem_of_getElem? (i := 83) rfl)) rfl
theorem wly_RX11_thinker : Cond.laysFinal RX11 "PoleRiver" "thinker" "LPoleRiver$Thinker;" ∈ WS := ws_of (lt_3 (List.mem_of_getElem? (i := 85) rfl)) rfl
theorem wly_RX11_ground : Cond.laysFinal RX11 "PoleRiver" "ground" "LPoleRiver$Ground;" ∈ WS := ws_of (lt_3 (List.mem_of_getElem? (i := 87) rfl)) rfl
theorem wly_RX11_scout : Cond.laysFinal RX11 "PoleRiver" "scout" "LPoleRiver$Scout;" ∈ WS := ws_of (lt_3 (List.mem_of_getElem? (i := 89) rfl)) rfl
theorem wly_RX11_game : Cond.laysFinal RX11 "PoleRiver" "game" "LPoleRiver$Game;" ∈ WS := ws_of (lt_3 (List.mem_of_getElem? (i := 91) rfl)) rfl
theorem wly_RX11_guess : Cond.laysFinal RX11 "PoleRiver" "guess" "[J" ∈ WS := ws_of (lt_3 (List.mem_of_getElem? (i := 93) rfl)) rfl
theorem wly_RX11_lastGame : Cond.laysFinal RX11 "PoleRiver" "lastGame" "[I" ∈ WS := ws_of (lt_3 (List.mem_of_getElem? (i := 95) rfl)) rfl
theorem wly_RX11_hasPlayed : Cond.lays RX11 "PoleRiver" "hasPlayed" "Z" ∈ WS := ws_of (lt_3 (List.mem_of_getElem? (i := 97) rfl)) rfl
theorem wly_RX11_markCount : Cond.lays RX11 "PoleRiver" "markCount" "I" ∈ WS := ws_of (lt_3 (List.mem_of_getElem? (i := 99) rfl)) rfl
theorem wly_RX11_status : Cond.lays RX11 "PoleRiver" "status" "I" ∈ WS := ws_of (lt_3 (List.mem_of_getElem? (i := 101) rfl)) rfl
theorem wly_RX11_top : Cond.lays RX11 "PoleRiver" "top" "J" ∈ WS := ws_of (lt_3 (List.mem_of_getElem? (i := 103) rfl)) rfl
theorem wly_RX11_bottom : Cond.lays RX11 "PoleRiver" "bottom" "J" ∈ WS := ws_of (lt_3 (List.mem_of_getElem? (i := 105) rfl)) rfl
theorem wml_RL_13 : Cond.methodLink RL 13 yX11_status ∈ WS := ws_of (lt_3 (List.mem_of_getElem? (i := 108) rfl)) rfl
theorem wi_yX11_status : Cond.instanceMethod yX11_status ∈ WS := ws_of (lt_3 (List.mem_of_getElem? (i := 109) rfl)) rfl
theorem wsel_yX11_status : Cond.selects RX11 yX11_status yX11_status ∈ WS := ws_of (lt_3 (List.mem_of_getElem? (i := 110) rfl)) rfl
theorem wc_yX11_status : Cond.code yX11_status cX11_status 1 (some .int) ∈ WS := ws_of (lt_3 (List.mem_of_getElem? (i := 111) rfl)) rfl
theorem wml_RL_18 : Cond.methodLink RL 18 yX11_top ∈ WS := ws_of (lt_3 (List.mem_of_getElem? (i := 112) rfl)) rfl
theorem wi_yX11_top : Cond.instanceMethod yX11_top ∈ WS := ws_of (lt_3 (List.mem_of_getElem? (i := 113) rfl)) rfl
theorem wsel_yX11_top : Cond.selects RX11 yX11_top yX11_top ∈ WS := ws_of (lt_3 (List.mem_of_getElem? (i := 114) rfl)) rfl
theorem wc_yX11_top : Cond.code yX11_top cX11_top 1 (some .long) ∈ WS := ws_of (lt_3 (List.mem_of_getElem? (i := 115) rfl)) rfl
theorem wml_RL_23 : Cond.methodLink RL 23 yX11_bottom ∈ WS := ws_of (lt_3 (List.mem_of_getElem? (i := 116) rfl)) rfl
theorem wi_yX11_bottom : Cond.instanceMethod yX11_bottom ∈ WS := ws_of (lt_3 (List.mem_of_getElem? (i := 117) rfl)) rfl
theorem wsel_yX11_bottom : Cond.selects RX11 yX11_bottom yX11_bottom ∈ WS := ws_of (lt_3 (List.mem_of_getElem? (i := 118) rfl)) rfl
theorem wc_yX11_bottom : Cond.code yX11_bottom cX11_bottom 1 (some .long) ∈ WS := ws_of (lt_3 (List.mem_of_getElem? (i := 119) rfl)) rfl
theorem wml_RL_27 : Cond.methodLink RL 27 yX11_tray ∈ WS := ws_of (lt_3 (List.mem_of_getElem? (i := 120) rfl)) rfl
theorem wi_yX11_tray : Cond.instanceMethod yX11_tray ∈ WS := ws_of (lt_3 (List.mem_of_getElem? (i := 121) rfl)) rfl
theorem wsel_yX11_tray : Cond.selects RX11 yX11_tray yX11_tray ∈ WS := ws_of (lt_3 (List.mem_of_getElem? (i := 122) rfl)) rfl
theorem wc_yX11_tray : Cond.code yX11_tray cX11_tray 4 (some .boolean) ∈ WS := ws_of (lt_3 (List.mem_of_getElem? (i := 123) rfl)) rfl
theorem wml_RX11_136 : Cond.methodLink RX11 136 yX11_isTray ∈ WS := ws_of (lt_3 (List.mem_of_getElem? (i := 124) rfl)) rfl
theorem wst_yX11_isTray : Cond.static yX11_isTray ∈ WS := ws_of (lt_3 (List.mem_of_getElem? (i := 125) rfl)) rfl
theorem wc_yX11_isTray : Cond.code yX11_isTray cX11_isTray 1 (some .boolean) ∈ WS := ws_of (lt_3 (List.mem_of_getElem? (i := 126) rfl)) rfl
theorem wml_RX11_140 : Cond.methodLink RX11 140 yX11_refuse ∈ WS := ws_of (lt_3 (List.mem_of_getElem? (i := 127) rfl)) rfl
theorem wi_yX11_refuse : Cond.instanceMethod yX11_refuse ∈ WS := ws_of (lt_3 (List.mem_of_getElem? (i := 129) rfl)) rfl
theorem wc_yX11_refuse : Cond.code yX11_refuse cX11_refuse 2 (some .boolean) ∈ WS := ws_of (lt_3 (List.mem_of_getElem? (i := 130) rfl)) rfl
theorem wml_RX11_143 : Cond.methodLink RX11 143 yX10_lay ∈ WS := ws_of (lt_3 (List.mem_of_getElem? (i := 131) rfl)) rfl
theorem wi_yX10_lay : Cond.instanceMethod yX10_lay ∈ WS := ws_of (lt_3 (List.mem_of_getElem? (i := 132) rfl)) rfl
theorem wsel_yX10_lay : Cond.selects RX10 yX10_lay yX10_lay ∈ WS := ws_of (lt_3 (List.mem_of_getElem? (i := 133) rfl)) rfl
theorem wc_yX10_lay : Cond.code yX10_lay cX10_lay 3 none ∈ WS := ws_of (lt_3 (List.mem_of_getElem? (i := 134) rfl)) rfl
theorem wml_RX10_22 : Cond.methodLink RX10 22 yJ7_fill_d0a16 ∈ WS := ws_of (lt_3 (List.mem_of_getElem? (i := 135) rfl)) rfl
theorem wml_RX11_147 : Cond.methodLink RX11 147 yX11_agree ∈ WS := ws_of (lt_3 (List.mem_of_getElem? (i := 136) rfl)) rfl
theorem wi_yX11_agree : Cond.instanceMethod yX11_agree ∈ WS := ws_of (lt_3 (List.mem_of_getElem? (i := 138) rfl)) rfl
theorem wc_yX11_agree : Cond.code yX11_agree cX11_agree 1 (some .boolean) ∈ WS := ws_of (lt_3 (List.mem_of_getElem? (i := 139) rfl)) rfl
theorem wml_RL_34 : Cond.methodLink RL 34 yX11_write ∈ WS := ws_of (lt_3 (List.mem_of_getElem? (i := 140) rfl)) rfl
theorem wi_yX11_write : Cond.instanceMethod yX11_write ∈ WS := ws_of (lt_3 (List.mem_of_getElem? (i := 141) rfl)) rfl
theorem wsel_yX11_write : Cond.selects RX11 yX11_write yX11_write ∈ WS := ws_of (lt_3 (List.mem_of_getElem? (i := 142) rfl)) rfl
theorem wc_yX11_write : Cond.code yX11_write cX11_write 7 (some .boolean) ∈ WS := ws_of (lt_3 (List.mem_of_getElem? (i := 143) rfl)) rfl
theorem wml_RX11_151 : Cond.methodLink RX11 151 yX11_placeStatus ∈ WS := ws_of (lt_3 (List.mem_of_getElem? (i := 144) rfl)) rfl
theorem wi_yX11_placeStatus : Cond.instanceMethod yX11_placeStatus ∈ WS := ws_of (lt_3 (List.mem_of_getElem? (i := 146) rfl)) rfl
theorem wc_yX11_placeStatus : Cond.code yX11_placeStatus cX11_placeStatus 3 (some .int) ∈ WS := ws_of (lt_3 (List.mem_of_getElem? (i := 147) rfl)) rfl
theorem wml_RX11_166 : Cond.methodLink RX11 166 yX10_isMissing ∈ WS := ws_of (lt_3 (List.mem_of_getElem? (i := 148) rfl)) rfl
theorem wi_yX10_isMissing : Cond.instanceMethod yX10_isMissing ∈ WS := ws_of (lt_3 (List.mem_of_getElem? (i := 149) rfl)) rfl
theorem wsel_yX10_isMissing : Cond.selects RX10 yX10_isMissing yX10_isMissing ∈ WS := ws_of (lt_3 (List.mem_of_getElem? (i := 150) rfl)) rfl
theorem wc_yX10_isMissing : Cond.code yX10_isMissing cX10_isMissing 1 (some .boolean) ∈ WS := ws_of (lt_3 (List.mem_of_getElem? (i := 151) rfl)) rfl
theorem wml_RX11_158 : Cond.methodLink RX11 158 yX10_cut ∈ WS := ws_of (lt_3 (List.mem_of_getElem? (i := 152) rfl)) rfl
theorem wi_yX10_cut : Cond.instanceMethod yX10_cut ∈ WS := ws_of (lt_3 (List.mem_of_getElem? (i := 153) rfl)) rfl
theorem wsel_yX10_cut : Cond.selects RX10 yX10_cut yX10_cut ∈ WS := ws_of (lt_3 (List.mem_of_getElem? (i := 154) rfl)) rfl
theorem wc_yX10_cut : Cond.code yX10_cut cX10_cut 3 (some .long) ∈ WS := ws_of (lt_3 (List.mem_of_getElem? (i := 155) rfl)) rfl
theorem wml_RL_39 : Cond.methodLink RL 39 yX11_read ∈ WS := ws_of (lt_3 (List.mem_of_getElem? (i := 156) rfl)) rfl
theorem wi_yX11_read : Cond.instanceMethod yX11_read ∈ WS := ws_of (lt_3 (List.mem_of_getElem? (i := 157) rfl)) rfl
theorem wsel_yX11_read : Cond.selects RX11 yX11_read yX11_read ∈ WS := ws_of (lt_3 (List.mem_of_getElem? (i := 158) rfl)) rfl
theorem wc_yX11_read : Cond.code yX11_read cX11_read 4 (some .long) ∈ WS := ws_of (lt_3 (List.mem_of_getElem? (i := 159) rfl)) rfl
theorem wml_RX11_162 : Cond.methodLink RX11 162 yX11_fail ∈ WS := ws_of (lt_3 (List.mem_of_getElem? (i := 160) rfl)) rfl
theorem wi_yX11_fail : Cond.instanceMethod yX11_fail ∈ WS := ws_of (lt_3 (List.mem_of_getElem? (i := 162) rfl)) rfl
theorem wc_yX11_fail : Cond.code yX11_fail cX11_fail 2 (some .int) ∈ WS := ws_of (lt_3 (List.mem_of_getElem? (i := 163) rfl)) rfl
theorem wml_RL_44 : Cond.methodLink RL 44 yX11_pour ∈ WS := ws_of (lt_3 (List.mem_of_getElem? (i := 164) rfl)) rfl
theorem wi_yX11_pour : Cond.instanceMethod yX11_pour ∈ WS := ws_of (lt_3 (List.mem_of_getElem? (i := 165) rfl)) rfl
theorem wsel_yX11_pour : Cond.selects RX11 yX11_pour yX11_pour ∈ WS := ws_of (lt_3 (List.mem_of_getElem? (i := 166) rfl)) rfl
theorem wc_yX11_pour : Cond.code yX11_pour cX11_pour 8 (some .boolean) ∈ WS := ws_of (lt_3 (List.mem_of_getElem? (i := 167) rfl)) rfl
theorem wml_RX11_172 : Cond.methodLink RX11 172 yX10_holds ∈ WS := ws_of (lt_3 (List.mem_of_getElem? (i := 168) rfl)) rfl
theorem wi_yX10_holds : Cond.instanceMethod yX10_holds ∈ WS := ws_of (lt_3 (List.mem_of_getElem? (i := 169) rfl)) rfl
theorem wsel_yX10_holds : Cond.selects RX10 yX10_holds yX10_holds ∈ WS := ws_of (lt_3 (List.mem_of_getElem? (i := 170) rfl)) rfl
theorem wc_yX10_holds : Cond.code yX10_holds cX10_holds 3 (some .boolean) ∈ WS := ws_of (lt_3 (List.mem_of_getElem? (i := 171) rfl)) rfl
theorem wml_RX11_176 : Cond.methodLink RX11 176 arraycopyName ∈ WS := ws_of (lt_3 (List.mem_of_getElem? (i := 172) rfl)) rfl
theorem wst_arraycopyName : Cond.static arraycopyName ∈ WS := ws_of (lt_3 (List.mem_of_getElem? (i := 173) rfl)) rfl
theorem wnat_arraycopyName : Cond.native arraycopyName ∈ WS := ws_of (lt_3 (List.mem_of_getElem? (i := 174) rfl)) rfl
theorem wml_RL_49 : Cond.methodLink RL 49 yX11_feed ∈ WS := ws_of (lt_3 (List.mem_of_getElem? (i := 175) rfl)) rfl
theorem wi_yX11_feed : Cond.instanceMethod yX11_feed ∈ WS := ws_of (lt_3 (List.mem_of_getElem? (i := 176) rfl)) rfl
theorem wsel_yX11_feed : Cond.selects RX11 yX11_feed yX11_feed ∈ WS := ws_of (lt_3 (List.mem_of_getElem? (i := 177) rfl)) rfl
theorem wc_yX11_feed : Cond.code yX11_feed cX11_feed 6 (some .int) ∈ WS := ws_of (lt_3 (List.mem_of_getElem? (i := 178) rfl)) rfl
theorem wml_RX11_185 : Cond.methodLink RX11 185 yX8_append ∈ WS := ws_of (lt_3 (List.mem_of_getElem? (i := 179) rfl)) rfl
theorem wi_yX8_append : Cond.instanceMethod yX8_append ∈ WS := ws_of (lt_3 (List.mem_of_getElem? (i := 180) rfl)) rfl
theorem wsel_yX8_append : Cond.selects RX8 yX8_append yX8_append ∈ WS := ws_of (lt_3 (List.mem_of_getElem? (i := 181) rfl)) rfl
theorem wc_yX8_append : Cond.code yX8_append cX8_append 3 none ∈ WS := ws_of (lt_3 (List.mem_of_getElem? (i := 182) rfl)) rfl
theorem wml_RL_54 : Cond.methodLink RL 54 yX11_river ∈ WS := ws_of (lt_3 (List.mem_of_getElem? (i := 183) rfl)) rfl
theorem wi_yX11_river : Cond.instanceMethod yX11_river ∈ WS := ws_of (lt_3 (List.mem_of_getElem? (i := 184) rfl)) rfl
theorem wsel_yX11_river : Cond.selects RX11 yX11_river yX11_river ∈ WS := ws_of (lt_3 (List.mem_of_getElem? (i := 185) rfl)) rfl
theorem wc_yX11_river : Cond.code yX11_river cX11_river 4 (some .int) ∈ WS := ws_of (lt_3 (List.mem_of_getElem? (i := 186) rfl)) rfl
theorem wml_RX11_189 : Cond.methodLink RX11 189 yX3_parse ∈ WS := ws_of (lt_3 (List.mem_of_getElem? (i := 187) rfl)) rfl
theorem wi_yX3_parse : Cond.instanceMethod yX3_parse ∈ WS := ws_of (lt_3 (List.mem_of_getElem? (i := 188) rfl)) rfl
theorem wsel_yX3_parse : Cond.selects RX3 yX3_parse yX3_parse ∈ WS := ws_of (lt_3 (List.mem_of_getElem? (i := 189) rfl)) rfl
theorem wc_yX3_parse : Cond.code yX3_parse cX3_parse 4 (some .boolean) ∈ WS := ws_of (lt_3 (List.mem_of_getElem? (i := 190) rfl)) rfl
theorem wml_RX3_36 : Cond.methodLink RX3 36 yX2_clear ∈ WS := ws_of (lt_3 (List.mem_of_getElem? (i := 191) rfl)) rfl
theorem wml_RX3_41 : Cond.methodLink RX3 41 yX8_start ∈ WS := ws_of (lt_3 (List.mem_of_getElem? (i := 192) rfl)) rfl
theorem wi_yX8_start : Cond.instanceMethod yX8_start ∈ WS := ws_of (lt_3 (List.mem_of_getElem? (i := 193) rfl)) rfl
theorem wsel_yX8_start : Cond.selects RX8 yX8_start yX8_start ∈ WS := ws_of (lt_3 (List.mem_of_getElem? (i := 194) rfl)) rfl
theorem wc_yX8_start : Cond.code yX8_start cX8_start 2 none ∈ WS := ws_of (lt_3 (List.mem_of_getElem? (i := 195) rfl)) rfl
theorem wml_RX8_47 : Cond.methodLink RX8 47 yX8_advance ∈ WS := ws_of (lt_3 (List.mem_of_getElem? (i := 196) rfl)) rfl
theorem wi_yX8_advance : Cond.instanceMethod yX8_advance ∈ WS := ws_of (lt_3 (List.mem_of_getElem? (i := 197) rfl)) rfl
theorem wsel_yX8_advance : Cond.selects RX8 yX8_advance yX8_advance ∈ WS := ws_of (lt_3 (List.mem_of_getElem? (i := 198) rfl)) rfl
theorem wc_yX8_advance : Cond.code yX8_advance cX8_advance 2 none ∈ WS := ws_of (lt_3 (List.mem_of_getElem? (i := 199) rfl)) rfl
theorem wml_RX8_50 : Cond.methodLink RX8 50 yX8_kindOfByte ∈ WS := ws_of (lt_3 (List.mem_of_getElem? (i := 200) rfl)) rfl
theorem wst_yX8_kindOfByte : Cond.static yX8_kindOfByte ∈ WS := ws_of (lt_3 (List.mem_of_getElem? (i := 201) rfl)) rfl
theorem wc_yX8_kindOfByte : Cond.code yX8_kindOfByte cX8_kindOfByte 1 (some .int) ∈ WS := ws_of (lt_3 (List.mem_of_getElem? (i := 202) rfl)) rfl
theorem wk_RX8_54 : Cond.constantLong RX8 54 (32) ∈ WS := ws_of (lt_3 (List.mem_of_getElem? (i := 203) rfl)) rfl
theorem wml_RX3_47 : Cond.methodLink RX3 47 yX3_takeSize ∈ WS := ws_of (lt_3 (List.mem_of_getElem? (i := 204) rfl)) rfl
theorem wi_yX3_takeSize : Cond.instanceMethod yX3_takeSize ∈ WS := ws_of (lt_3 (List.mem_of_getElem? (i := 206) rfl)) rfl
theorem wc_yX3_takeSize : Cond.code yX3_takeSize cX3_takeSize 1 (some .boolean) ∈ WS := ws_of (lt_3 (List.mem_of_getElem? (i := 207) rfl)) rfl
theorem wml_RX3_59 : Cond.methodLink RX3 59 yX8_takePair ∈ WS := ws_of (lt_3 (List.mem_of_getElem? (i := 209) rfl)) rfl
theorem wi_yX8_takePair : Cond.instanceMethod yX8_takePair ∈ WS := ws_of (lt_3 (List.mem_of_getElem? (i := 210) rfl)) rfl
theorem wsel_yX8_takePair : Cond.selects RX8 yX8_takePair yX8_takePair ∈ WS := ws_of (lt_3 (List.mem_of_getElem? (i := 211) rfl)) rfl
theorem wc_yX8_takePair : Cond.code yX8_takePair cX8_takePair 4 (some .boolean) ∈ WS := ws_of (lt_3 (List.mem_of_getElem? (i := 212) rfl)) rfl
theorem wml_RX8_82 : Cond.methodLink RX8 82 yX8_takeWord ∈ WS := ws_of (lt_3 (List.mem_of_getElem? (i := 213) rfl)) rfl
theorem wi_yX8_takeWord : Cond.instanceMethod yX8_takeWord ∈ WS := ws_of (lt_3 (List.mem_of_getElem? (i := 214) rfl)) rfl
theorem wsel_yX8_takeWord : Cond.selects RX8 yX8_takeWord yX8_takeWord ∈ WS := ws_of (lt_3 (List.mem_of_getElem? (i := 215) rfl)) rfl
theorem wc_yX8_takeWord : Cond.code yX8_takeWord cX8_takeWord 2 (some .boolean) ∈ WS := ws_of (lt_3 (List.mem_of_getElem? (i := 216) rfl)) rfl
theorem wml_RX8_66 : Cond.methodLink RX8 66 yX8_is ∈ WS := ws_of (lt_3 (List.mem_of_getElem? (i := 217) rfl)) rfl
theorem wi_yX8_is : Cond.instanceMethod yX8_is ∈ WS := ws_of (lt_3 (List.mem_of_getElem? (i := 218) rfl)) rfl
theorem wsel_yX8_is : Cond.selects RX8 yX8_is yX8_is ∈ WS := ws_of (lt_3 (List.mem_of_getElem? (i := 219) rfl)) rfl
theorem wc_yX8_is : Cond.code yX8_is cX8_is 4 (some .boolean) ∈ WS := ws_of (lt_3 (List.mem_of_getElem? (i := 220) rfl)) rfl
theorem wml_RX8_56 : Cond.methodLink RX8 56 yJ0_length_8abf5 ∈ WS := ws_of (lt_3 (List.mem_of_getElem? (i := 221) rfl)) rfl
theorem wi_yJ0_length_8abf5 : Cond.instanceMethod yJ0_length_8abf5 ∈ WS := ws_of (lt_3 (List.mem_of_getElem? (i := 222) rfl)) rfl
theorem wsel_yJ0_length_8abf5 : Cond.selects RJ0 yJ0_length_8abf5 yJ0_length_8abf5 ∈ WS := ws_of (lt_3 (List.mem_of_getElem? (i := 223) rfl)) rfl
theorem wc_yJ0_length_8abf5 : Cond.code yJ0_length_8abf5 cJ0_length_8abf5 1 (some .int) ∈ WS := ws_of (lt_3 (List.mem_of_getElem? (i := 224) rfl)) rfl
theorem wml_RJ0_335 : Cond.methodLink RJ0 335 yJ0_coder_7d493 ∈ WS := ws_of (lt_3 (List.mem_of_getElem? (i := 225) rfl)) rfl
theorem wi_yJ0_coder_7d493 : Cond.instanceMethod yJ0_coder_7d493 ∈ WS := ws_of (lt_3 (List.mem_of_getElem? (i := 226) rfl)) rfl
theorem wsel_yJ0_coder_7d493 : Cond.selects RJ0 yJ0_coder_7d493 yJ0_coder_7d493 ∈ WS := ws_of (lt_3 (List.mem_of_getElem? (i := 227) rfl)) rfl
theorem wc_yJ0_coder_7d493 : Cond.code yJ0_coder_7d493 cJ0_coder_7d493 1 (some .byte) ∈ WS := ws_of (lt_3 (List.mem_of_getElem? (i := 228) rfl)) rfl
theorem wf_RJ0_38 : Cond.fieldLink RJ0 38 "java/lang/String" "COMPACT_STRINGS" "Z" ∈ WS := ws_of (lt_3 (List.mem_of_getElem? (i := 229) rfl)) rfl
theorem wls_RJ0_COMPACT_STRINGS : Cond.laysStatic "java/lang/String" "COMPACT_STRINGS" "Z" ∈ lw_tbl := lt_3 (List.mem_of_getElem? (i := 230) rfl)
theorem wml_RX8_62 : Cond.methodLink RX8 62 yJ0_charAt_5068e ∈ WS := ws_of (lt_3 (List.mem_of_getElem? (i := 231) rfl)) rfl
theorem wi_yJ0_charAt_5068e : Cond.instanceMethod yJ0_charAt_5068e ∈ WS := ws_of (lt_3 (List.mem_of_getElem? (i := 232) rfl)) rfl
theorem wsel_yJ0_charAt_5068e : Cond.selects RJ0 yJ0_charAt_5068e yJ0_charAt_5068e ∈ WS := ws_of (lt_3 (List.mem_of_getElem? (i := 233) rfl)) rfl
theorem wc_yJ0_charAt_5068e : Cond.code yJ0_charAt_5068e cJ0_charAt_5068e 2 (some .char) ∈ WS := ws_of (lt_3 (List.mem_of_getElem? (i := 234) rfl)) rfl
theorem wml_RJ0_492 : Cond.methodLink RJ0 492 yJ0_isLatin1_aae02 ∈ WS := ws_of (lt_3 (List.mem_of_getElem? (i := 235) rfl)) rfl
theorem wi_yJ0_isLatin1_aae02 : Cond.instanceMethod yJ0_isLatin1_aae02 ∈ WS := ws_of (lt_3 (List.mem_of_getElem? (i := 236) rfl)) rfl
theorem wsel_yJ0_isLatin1_aae02 : Cond.selects RJ0 yJ0_isLatin1_aae02 yJ0_isLatin1_aae02 ∈ WS := ws_of (lt_3 (List.mem_of_getElem? (i := 237) rfl)) rfl
theorem wc_yJ0_isLatin1_aae02 : Cond.code yJ0_isLatin1_aae02 cJ0_isLatin1_aae02 1 (some .boolean) ∈ WS := ws_of (lt_3 (List.mem_of_getElem? (i := 238) rfl)) rfl
theorem wml_RJ0_495 : Cond.methodLink RJ0 495 yJ1_charAt_3b067 ∈ WS := ws_of (lt_3 (List.mem_of_getElem? (i := 239) rfl)) rfl
theorem wst_yJ1_charAt_3b067 : Cond.static yJ1_charAt_3b067 ∈ WS := ws_of (lt_4 (List.mem_of_getElem? (i := 0) rfl)) rfl
theorem wc_yJ1_charAt_3b067 : Cond.code yJ1_charAt_3b067 cJ1_charAt_3b067 2 (some .char) ∈ WS := ws_of (lt_4 (List.mem_of_getElem? (i := 1) rfl)) rfl
theorem wml_RJ1_9 : Cond.methodLink RJ1 9 yJ0_checkIndex_df160 ∈ WS := ws_of (lt_4 (List.mem_of_getElem? (i := 2) rfl)) rfl
theorem wst_yJ0_checkIndex_df160 : Cond.static yJ0_checkIndex_df160 ∈ WS := ws_of (lt_4 (List.mem_of_getElem? (i := 3) rfl)) rfl
theorem wc_yJ0_checkIndex_df160 : Cond.code yJ0_checkIndex_df160 cJ0_checkIndex_df160 2 none ∈ WS := ws_of (lt_4 (List.mem_of_getElem? (i := 4) rfl)) rfl
theorem wf_RJ0_1053 : Cond.fieldLink RJ0 1053 "jdk/internal/util/Preconditions" "SIOOBE_FORMATTER" "Ljava/util/function/BiFunction;" ∈ WS := ws_of (lt_4 (List.mem_of_getElem? (i := 5) rfl)) rfl
theorem wls_RJ3_SIOOBE_FORMATTER : Cond.laysStatic "jdk/internal/util/Preconditions" "SIOOBE_FORMATTER" "Ljava/util/function/BiFunction;" ∈ lw_tbl := lt_4 (List.mem_of_getElem? (i := 6) rfl)
theorem wml_RJ0_1059 : Cond.methodLink RJ0 1059 yJ3_checkIndex_8e157 ∈ WS := ws_of (lt_4 (List.mem_of_getElem? (i := 7) rfl)) rfl
theorem wst_yJ3_checkIndex_8e157 : Cond.static yJ3_checkIndex_8e157 ∈ WS := ws_of (lt_4 (List.mem_of_getElem? (i := 8) rfl)) rfl
theorem wc_yJ3_checkIndex_8e157 : Cond.code yJ3_checkIndex_8e157 cJ3_checkIndex_8e157 3 (some .int) ∈ WS := ws_of (lt_4 (List.mem_of_getElem? (i := 9) rfl)) rfl
theorem wml_RJ0_498 : Cond.methodLink RJ0 498 yJ2_charAt_3b067 ∈ WS := ws_of (lt_4 (List.mem_of_getElem? (i := 10) rfl)) rfl
theorem wst_yJ2_charAt_3b067 : Cond.static yJ2_charAt_3b067 ∈ WS := ws_of (lt_4 (List.mem_of_getElem? (i := 11) rfl)) rfl
theorem wc_yJ2_charAt_3b067 : Cond.code yJ2_charAt_3b067 cJ2_charAt_3b067 2 (some .char) ∈ WS := ws_of (lt_4 (List.mem_of_getElem? (i := 12) rfl)) rfl
theorem wml_RJ2_67 : Cond.methodLink RJ2 67 yJ2_checkIndex_2214a ∈ WS := ws_of (lt_4 (List.mem_of_getElem? (i := 13) rfl)) rfl
theorem wst_yJ2_checkIndex_2214a : Cond.static yJ2_checkIndex_2214a ∈ WS := ws_of (lt_4 (List.mem_of_getElem? (i := 14) rfl)) rfl
theorem wc_yJ2_checkIndex_2214a : Cond.code yJ2_checkIndex_2214a cJ2_checkIndex_2214a 2 none ∈ WS := ws_of (lt_4 (List.mem_of_getElem? (i := 15) rfl)) rfl
theorem wml_RJ2_48 : Cond.methodLink RJ2 48 yJ2_length_9d52b ∈ WS := ws_of (lt_4 (List.mem_of_getElem? (i := 16) rfl)) rfl
theorem wst_yJ2_length_9d52b : Cond.static yJ2_length_9d52b ∈ WS := ws_of (lt_4 (List.mem_of_getElem? (i := 17) rfl)) rfl
theorem wc_yJ2_length_9d52b : Cond.code yJ2_length_9d52b cJ2_length_9d52b 1 (some .int) ∈ WS := ws_of (lt_4 (List.mem_of_getElem? (i := 18) rfl)) rfl
theorem wml_RJ2_414 : Cond.methodLink RJ2 414 yJ0_checkIndex_df160 ∈ WS := ws_of (lt_4 (List.mem_of_getElem? (i := 19) rfl)) rfl
theorem wml_RJ2_71 : Cond.methodLink RJ2 71 yJ2_getChar_3b067 ∈ WS := ws_of (lt_4 (List.mem_of_getElem? (i := 20) rfl)) rfl
theorem wst_yJ2_getChar_3b067 : Cond.static yJ2_getChar_3b067 ∈ WS := ws_of (lt_4 (List.mem_of_getElem? (i := 21) rfl)) rfl
theorem wc_yJ2_getChar_3b067 : Cond.code yJ2_getChar_3b067 cJ2_getChar_3b067 2 (some .char) ∈ WS := ws_of (lt_4 (List.mem_of_getElem? (i := 22) rfl)) rfl
theorem wf_RJ2_44 : Cond.fieldLink RJ2 44 "java/lang/StringUTF16" "$assertionsDisabled" "Z" ∈ WS := ws_of (lt_4 (List.mem_of_getElem? (i := 23) rfl)) rfl
theorem wls_RJ2__assertionsDisabled : Cond.laysStatic "java/lang/StringUTF16" "$assertionsDisabled" "Z" ∈ lw_tbl := lt_4 (List.mem_of_getElem? (i := 24) rfl)
theorem wf_RJ2_59 : Cond.fieldLink RJ2 59 "java/lang/StringUTF16" "HI_BYTE_SHIFT" "I" ∈ WS := ws_of (lt_4 (List.mem_of_getElem? (i := 25) rfl)) rfl
theorem wls_RJ2_HI_BYTE_SHIFT : Cond.laysStatic "java/lang/StringUTF16" "HI_BYTE_SHIFT" "I" ∈ lw_tbl := lt_4 (List.mem_of_getElem? (i := 26) rfl)
theorem wf_RJ2_63 : Cond.fieldLink RJ2 63 "java/lang/StringUTF16" "LO_BYTE_SHIFT" "I" ∈ WS := ws_of (lt_4 (List.mem_of_getElem? (i := 27) rfl)) rfl
theorem wls_RJ2_LO_BYTE_SHIFT : Cond.laysStatic "java/lang/StringUTF16" "LO_BYTE_SHIFT" "I" ∈ lw_tbl := lt_4 (List.mem_of_getElem? (i := 28) rfl)
theorem wml_RX8_70 : Cond.methodLink RX8 70 yX8_failHere ∈ WS := ws_of (lt_4 (List.mem_of_getElem? (i := 29) rfl)) rfl
theorem wi_yX8_failHere : Cond.instanceMethod yX8_failHere ∈ WS := ws_of (lt_4 (List.mem_of_getElem? (i := 30) rfl)) rfl
theorem wsel_yX8_failHere : Cond.selects RX8 yX8_failHere yX8_failHere ∈ WS := ws_of (lt_4 (List.mem_of_getElem? (i := 31) rfl)) rfl
theorem wc_yX8_failHere : Cond.code yX8_failHere cX8_failHere 1 (some .boolean) ∈ WS := ws_of (lt_4 (List.mem_of_getElem? (i := 32) rfl)) rfl
theorem wml_RX8_85 : Cond.methodLink RX8 85 yX8_takeNumber ∈ WS := ws_of (lt_4 (List.mem_of_getElem? (i := 33) rfl)) rfl
theorem wi_yX8_takeNumber : Cond.instanceMethod yX8_takeNumber ∈ WS := ws_of (lt_4 (List.mem_of_getElem? (i := 34) rfl)) rfl
theorem wsel_yX8_takeNumber : Cond.selects RX8 yX8_takeNumber yX8_takeNumber ∈ WS := ws_of (lt_4 (List.mem_of_getElem? (i := 35) rfl)) rfl
theorem wc_yX8_takeNumber : Cond.code yX8_takeNumber cX8_takeNumber 3 (some .boolean) ∈ WS := ws_of (lt_4 (List.mem_of_getElem? (i := 36) rfl)) rfl
theorem wml_RX8_78 : Cond.methodLink RX8 78 yX8_isNumber ∈ WS := ws_of (lt_4 (List.mem_of_getElem? (i := 37) rfl)) rfl
theorem wi_yX8_isNumber : Cond.instanceMethod yX8_isNumber ∈ WS := ws_of (lt_4 (List.mem_of_getElem? (i := 38) rfl)) rfl
theorem wsel_yX8_isNumber : Cond.selects RX8 yX8_isNumber yX8_isNumber ∈ WS := ws_of (lt_4 (List.mem_of_getElem? (i := 39) rfl)) rfl
theorem wc_yX8_isNumber : Cond.code yX8_isNumber cX8_isNumber 3 (some .boolean) ∈ WS := ws_of (lt_4 (List.mem_of_getElem? (i := 40) rfl)) rfl
theorem wml_RX8_74 : Cond.methodLink RX8 74 yX8_fail ∈ WS := ws_of (lt_4 (List.mem_of_getElem? (i := 41) rfl)) rfl
theorem wi_yX8_fail : Cond.instanceMethod yX8_fail ∈ WS := ws_of (lt_4 (List.mem_of_getElem? (i := 42) rfl)) rfl
theorem wsel_yX8_fail : Cond.selects RX8 yX8_fail yX8_fail ∈ WS := ws_of (lt_4 (List.mem_of_getElem? (i := 43) rfl)) rfl
theorem wc_yX8_fail : Cond.code yX8_fail cX8_fail 2 (some .boolean) ∈ WS := ws_of (lt_4 (List.mem_of_getElem? (i := 44) rfl)) rfl
theorem wml_RX3_69 : Cond.methodLink RX3 69 yX8_takeNumber ∈ WS := ws_of (lt_4 (List.mem_of_getElem? (i := 45) rfl)) rfl
theorem wml_RX3_76 : Cond.methodLink RX3 76 yX8_takeSign ∈ WS := ws_of (lt_4 (List.mem_of_getElem? (i := 46) rfl)) rfl
theorem wi_yX8_takeSign : Cond.instanceMethod yX8_takeSign ∈ WS := ws_of (lt_4 (List.mem_of_getElem? (i := 47) rfl)) rfl
theorem wsel_yX8_takeSign : Cond.selects RX8 yX8_takeSign yX8_takeSign ∈ WS := ws_of (lt_4 (List.mem_of_getElem? (i := 48) rfl)) rfl
theorem wc_yX8_takeSign : Cond.code yX8_takeSign cX8_takeSign 1 (some .boolean) ∈ WS := ws_of (lt_4 (List.mem_of_getElem? (i := 49) rfl)) rfl
theorem wml_RX3_54 : Cond.methodLink RX3 54 yX3_takePart ∈ WS := ws_of (lt_4 (List.mem_of_getElem? (i := 50) rfl)) rfl
theorem wi_yX3_takePart : Cond.instanceMethod yX3_takePart ∈ WS := ws_of (lt_4 (List.mem_of_getElem? (i := 52) rfl)) rfl
theorem wc_yX3_takePart : Cond.code yX3_takePart cX3_takePart 1 (some .boolean) ∈ WS := ws_of (lt_4 (List.mem_of_getElem? (i := 53) rfl)) rfl
theorem wml_RX3_81 : Cond.methodLink RX3 81 yX8_is ∈ WS := ws_of (lt_4 (List.mem_of_getElem? (i := 55) rfl)) rfl
theorem wml_RX3_85 : Cond.methodLink RX3 85 yX3_takeRow ∈ WS := ws_of (lt_4 (List.mem_of_getElem? (i := 56) rfl)) rfl
theorem wi_yX3_takeRow : Cond.instanceMethod yX3_takeRow ∈ WS := ws_of (lt_4 (List.mem_of_getElem? (i := 58) rfl)) rfl
theorem wc_yX3_takeRow : Cond.code yX3_takeRow cX3_takeRow 2 (some .boolean) ∈ WS := ws_of (lt_4 (List.mem_of_getElem? (i := 59) rfl)) rfl
theorem wml_RX3_121 : Cond.methodLink RX3 121 yX8_fail ∈ WS := ws_of (lt_4 (List.mem_of_getElem? (i := 60) rfl)) rfl
theorem wml_RX3_125 : Cond.methodLink RX3 125 yX8_advance ∈ WS := ws_of (lt_4 (List.mem_of_getElem? (i := 61) rfl)) rfl
theorem wml_RX3_128 : Cond.methodLink RX3 128 yX8_isNumber ∈ WS := ws_of (lt_4 (List.mem_of_getElem? (i := 62) rfl)) rfl
theorem wml_RX3_90 : Cond.methodLink RX3 90 yX3_takeBar ∈ WS := ws_of (lt_4 (List.mem_of_getElem? (i := 64) rfl)) rfl
theorem wi_yX3_takeBar : Cond.instanceMethod yX3_takeBar ∈ WS := ws_of (lt_4 (List.mem_of_getElem? (i := 66) rfl)) rfl
theorem wc_yX3_takeBar : Cond.code yX3_takeBar cX3_takeBar 2 (some .boolean) ∈ WS := ws_of (lt_4 (List.mem_of_getElem? (i := 67) rfl)) rfl
theorem wml_RX3_141 : Cond.methodLink RX3 141 yX8_isName ∈ WS := ws_of (lt_4 (List.mem_of_getElem? (i := 68) rfl)) rfl
theorem wi_yX8_isName : Cond.instanceMethod yX8_isName ∈ WS := ws_of (lt_4 (List.mem_of_getElem? (i := 69) rfl)) rfl
theorem wsel_yX8_isName : Cond.selects RX8 yX8_isName yX8_isName ∈ WS := ws_of (lt_4 (List.mem_of_getElem? (i := 70) rfl)) rfl
theorem wc_yX8_isName : Cond.code yX8_isName cX8_isName 1 (some .boolean) ∈ WS := ws_of (lt_4 (List.mem_of_getElem? (i := 71) rfl)) rfl
theorem wml_RX8_88 : Cond.methodLink RX8 88 yX8_isReserved ∈ WS := ws_of (lt_4 (List.mem_of_getElem? (i := 72) rfl)) rfl
theorem wi_yX8_isReserved : Cond.instanceMethod yX8_isReserved ∈ WS := ws_of (lt_4 (List.mem_of_getElem? (i := 74) rfl)) rfl
theorem wc_yX8_isReserved : Cond.code yX8_isReserved cX8_isReserved 5 (some .boolean) ∈ WS := ws_of (lt_4 (List.mem_of_getElem? (i := 75) rfl)) rfl
theorem wml_RX3_148 : Cond.methodLink RX3 148 yX2_barNamed ∈ WS := ws_of (lt_4 (List.mem_of_getElem? (i := 77) rfl)) rfl
theorem wi_yX2_barNamed : Cond.instanceMethod yX2_barNamed ∈ WS := ws_of (lt_4 (List.mem_of_getElem? (i := 78) rfl)) rfl
theorem wsel_yX2_barNamed : Cond.selects RX2 yX2_barNamed yX2_barNamed ∈ WS := ws_of (lt_4 (List.mem_of_getElem? (i := 79) rfl)) rfl
theorem wc_yX2_barNamed : Cond.code yX2_barNamed cX2_barNamed 4 (some .int) ∈ WS := ws_of (lt_4 (List.mem_of_getElem? (i := 80) rfl)) rfl
theorem wml_RX3_95 : Cond.methodLink RX3 95 yX3_takeAt ∈ WS := ws_of (lt_4 (List.mem_of_getElem? (i := 86) rfl)) rfl
theorem wi_yX3_takeAt : Cond.instanceMethod yX3_takeAt ∈ WS := ws_of (lt_4 (List.mem_of_getElem? (i := 88) rfl)) rfl
theorem wc_yX3_takeAt : Cond.code yX3_takeAt cX3_takeAt 5 (some .boolean) ∈ WS := ws_of (lt_4 (List.mem_of_getElem? (i := 89) rfl)) rfl
theorem wml_RX3_178 : Cond.methodLink RX3 178 yX3_giveCells ∈ WS := ws_of (lt_4 (List.mem_of_getElem? (i := 91) rfl)) rfl
theorem wi_yX3_giveCells : Cond.instanceMethod yX3_giveCells ∈ WS := ws_of (lt_4 (List.mem_of_getElem? (i := 93) rfl)) rfl
theorem wc_yX3_giveCells : Cond.code yX3_giveCells cX3_giveCells 9 (some .boolean) ∈ WS := ws_of (lt_4 (List.mem_of_getElem? (i := 94) rfl)) rfl
theorem wml_RX3_100 : Cond.methodLink RX3 100 yX3_takeStage ∈ WS := ws_of (lt_4 (List.mem_of_getElem? (i := 96) rfl)) rfl
theorem wi_yX3_takeStage : Cond.instanceMethod yX3_takeStage ∈ WS := ws_of (lt_4 (List.mem_of_getElem? (i := 98) rfl)) rfl
theorem wc_yX3_takeStage : Cond.code yX3_takeStage cX3_takeStage 3 (some .boolean) ∈ WS := ws_of (lt_4 (List.mem_of_getElem? (i := 99) rfl)) rfl
theorem wml_RX3_105 : Cond.methodLink RX3 105 yX3_takeBoat ∈ WS := ws_of (lt_4 (List.mem_of_getElem? (i := 102) rfl)) rfl
theorem wi_yX3_takeBoat : Cond.instanceMethod yX3_takeBoat ∈ WS := ws_of (lt_4 (List.mem_of_getElem? (i := 104) rfl)) rfl
theorem wc_yX3_takeBoat : Cond.code yX3_takeBoat cX3_takeBoat 1 (some .boolean) ∈ WS := ws_of (lt_4 (List.mem_of_getElem? (i := 105) rfl)) rfl
theorem wml_RX3_196 : Cond.methodLink RX3 196 yJ9_min_7cf53 ∈ WS := ws_of (lt_4 (List.mem_of_getElem? (i := 108) rfl)) rfl
theorem wst_yJ9_min_7cf53 : Cond.static yJ9_min_7cf53 ∈ WS := ws_of (lt_4 (List.mem_of_getElem? (i := 109) rfl)) rfl
theorem wc_yJ9_min_7cf53 : Cond.code yJ9_min_7cf53 cJ9_min_7cf53 2 (some .int) ∈ WS := ws_of (lt_4 (List.mem_of_getElem? (i := 110) rfl)) rfl
theorem wml_RX3_110 : Cond.methodLink RX3 110 yX3_takePole ∈ WS := ws_of (lt_4 (List.mem_of_getElem? (i := 116) rfl)) rfl
theorem wi_yX3_takePole : Cond.instanceMethod yX3_takePole ∈ WS := ws_of (lt_4 (List.mem_of_getElem? (i := 118) rfl)) rfl
theorem wc_yX3_takePole : Cond.code yX3_takePole cX3_takePole 1 (some .boolean) ∈ WS := ws_of (lt_4 (List.mem_of_getElem? (i := 119) rfl)) rfl
theorem wml_RX3_115 : Cond.methodLink RX3 115 yX3_takeColour ∈ WS := ws_of (lt_4 (List.mem_of_getElem? (i := 121) rfl)) rfl
theorem wi_yX3_takeColour : Cond.instanceMethod yX3_takeColour ∈ WS := ws_of (lt_4 (List.mem_of_getElem? (i := 123) rfl)) rfl
theorem wc_yX3_takeColour : Cond.code yX3_takeColour cX3_takeColour 1 (some .boolean) ∈ WS := ws_of (lt_4 (List.mem_of_getElem? (i := 124) rfl)) rfl
theorem wml_RX3_118 : Cond.methodLink RX3 118 yX8_failHere ∈ WS := ws_of (lt_4 (List.mem_of_getElem? (i := 125) rfl)) rfl
theorem wml_RX11_193 : Cond.methodLink RX11 193 yX11_startAfresh ∈ WS := ws_of (lt_4 (List.mem_of_getElem? (i := 126) rfl)) rfl
theorem wi_yX11_startAfresh : Cond.instanceMethod yX11_startAfresh ∈ WS := ws_of (lt_4 (List.mem_of_getElem? (i := 128) rfl)) rfl
theorem wc_yX11_startAfresh : Cond.code yX11_startAfresh cX11_startAfresh 1 none ∈ WS := ws_of (lt_4 (List.mem_of_getElem? (i := 129) rfl)) rfl
theorem wml_RX11_196 : Cond.methodLink RX11 196 yX2_cellCount ∈ WS := ws_of (lt_4 (List.mem_of_getElem? (i := 130) rfl)) rfl
theorem wi_yX2_cellCount : Cond.instanceMethod yX2_cellCount ∈ WS := ws_of (lt_4 (List.mem_of_getElem? (i := 131) rfl)) rfl
theorem wsel_yX2_cellCount : Cond.selects RX2 yX2_cellCount yX2_cellCount ∈ WS := ws_of (lt_4 (List.mem_of_getElem? (i := 132) rfl)) rfl
theorem wc_yX2_cellCount : Cond.code yX2_cellCount cX2_cellCount 1 (some .int) ∈ WS := ws_of (lt_4 (List.mem_of_getElem? (i := 133) rfl)) rfl
theorem wml_RX11_200 : Cond.methodLink RX11 200 yX11_answer ∈ WS := ws_of (lt_4 (List.mem_of_getElem? (i := 134) rfl)) rfl
theorem wi_yX11_answer : Cond.instanceMethod yX11_answer ∈ WS := ws_of (lt_4 (List.mem_of_getElem? (i := 136) rfl)) rfl
theorem wc_yX11_answer : Cond.code yX11_answer cX11_answer 2 (some .int) ∈ WS := ws_of (lt_4 (List.mem_of_getElem? (i := 137) rfl)) rfl
theorem wml_RL_59 : Cond.methodLink RL 59 yX11_rule ∈ WS := ws_of (lt_4 (List.mem_of_getElem? (i := 138) rfl)) rfl
theorem wi_yX11_rule : Cond.instanceMethod yX11_rule ∈ WS := ws_of (lt_4 (List.mem_of_getElem? (i := 139) rfl)) rfl
theorem wsel_yX11_rule : Cond.selects RX11 yX11_rule yX11_rule ∈ WS := ws_of (lt_4 (List.mem_of_getElem? (i := 140) rfl)) rfl
theorem wc_yX11_rule : Cond.code yX11_rule cX11_rule 4 (some .int) ∈ WS := ws_of (lt_4 (List.mem_of_getElem? (i := 141) rfl)) rfl
theorem wml_RX11_203 : Cond.methodLink RX11 203 yX5_parse ∈ WS := ws_of (lt_4 (List.mem_of_getElem? (i := 142) rfl)) rfl
theorem wi_yX5_parse : Cond.instanceMethod yX5_parse ∈ WS := ws_of (lt_4 (List.mem_of_getElem? (i := 143) rfl)) rfl
theorem wsel_yX5_parse : Cond.selects RX5 yX5_parse yX5_parse ∈ WS := ws_of (lt_4 (List.mem_of_getElem? (i := 144) rfl)) rfl
theorem wc_yX5_parse : Cond.code yX5_parse cX5_parse 5 (some .boolean) ∈ WS := ws_of (lt_4 (List.mem_of_getElem? (i := 145) rfl)) rfl
theorem wml_RX5_39 : Cond.methodLink RX5 39 yX8_start ∈ WS := ws_of (lt_4 (List.mem_of_getElem? (i := 146) rfl)) rfl
theorem wml_RX5_50 : Cond.methodLink RX5 50 yX8_is ∈ WS := ws_of (lt_4 (List.mem_of_getElem? (i := 148) rfl)) rfl
theorem wml_RX5_54 : Cond.methodLink RX5 54 yX5_takeEnd ∈ WS := ws_of (lt_4 (List.mem_of_getElem? (i := 149) rfl)) rfl
theorem wi_yX5_takeEnd : Cond.instanceMethod yX5_takeEnd ∈ WS := ws_of (lt_4 (List.mem_of_getElem? (i := 151) rfl)) rfl
theorem wc_yX5_takeEnd : Cond.code yX5_takeEnd cX5_takeEnd 3 (some .boolean) ∈ WS := ws_of (lt_4 (List.mem_of_getElem? (i := 152) rfl)) rfl
theorem wml_RX5_64 : Cond.methodLink RX5 64 yX4_add ∈ WS := ws_of (lt_4 (List.mem_of_getElem? (i := 153) rfl)) rfl
theorem wi_yX4_add : Cond.instanceMethod yX4_add ∈ WS := ws_of (lt_4 (List.mem_of_getElem? (i := 154) rfl)) rfl
theorem wsel_yX4_add : Cond.selects RX4 yX4_add yX4_add ∈ WS := ws_of (lt_4 (List.mem_of_getElem? (i := 155) rfl)) rfl
theorem wc_yX4_add : Cond.code yX4_add cX4_add 3 (some .int) ∈ WS := ws_of (lt_4 (List.mem_of_getElem? (i := 156) rfl)) rfl
theorem wml_RX5_61 : Cond.methodLink RX5 61 yX8_failHere ∈ WS := ws_of (lt_4 (List.mem_of_getElem? (i := 157) rfl)) rfl
theorem wml_RX5_71 : Cond.methodLink RX5 71 yX8_advance ∈ WS := ws_of (lt_4 (List.mem_of_getElem? (i := 158) rfl)) rfl
theorem wml_RX5_74 : Cond.methodLink RX5 74 yX8_takeSign ∈ WS := ws_of (lt_4 (List.mem_of_getElem? (i := 159) rfl)) rfl
theorem wml_RX5_58 : Cond.methodLink RX5 58 yX5_takeStep ∈ WS := ws_of (lt_4 (List.mem_of_getElem? (i := 160) rfl)) rfl
theorem wi_yX5_takeStep : Cond.instanceMethod yX5_takeStep ∈ WS := ws_of (lt_4 (List.mem_of_getElem? (i := 162) rfl)) rfl
theorem wc_yX5_takeStep : Cond.code yX5_takeStep cX5_takeStep 4 (some .boolean) ∈ WS := ws_of (lt_4 (List.mem_of_getElem? (i := 163) rfl)) rfl
theorem wml_RX5_77 : Cond.methodLink RX5 77 yX5_wordOfStep ∈ WS := ws_of (lt_4 (List.mem_of_getElem? (i := 164) rfl)) rfl
theorem wi_yX5_wordOfStep : Cond.instanceMethod yX5_wordOfStep ∈ WS := ws_of (lt_4 (List.mem_of_getElem? (i := 166) rfl)) rfl
theorem wc_yX5_wordOfStep : Cond.code yX5_wordOfStep cX5_wordOfStep 1 (some .int) ∈ WS := ws_of (lt_4 (List.mem_of_getElem? (i := 167) rfl)) rfl
theorem wml_RX5_81 : Cond.methodLink RX5 81 yX8_fail ∈ WS := ws_of (lt_4 (List.mem_of_getElem? (i := 176) rfl)) rfl
theorem wml_RX5_85 : Cond.methodLink RX5 85 yX5_takeRest ∈ WS := ws_of (lt_4 (List.mem_of_getElem? (i := 177) rfl)) rfl
theorem wi_yX5_takeRest : Cond.instanceMethod yX5_takeRest ∈ WS := ws_of (lt_4 (List.mem_of_getElem? (i := 179) rfl)) rfl
theorem wc_yX5_takeRest : Cond.code yX5_takeRest cX5_takeRest 3 (some .boolean) ∈ WS := ws_of (lt_4 (List.mem_of_getElem? (i := 180) rfl)) rfl
theorem wml_RX5_105 : Cond.methodLink RX5 105 yX5_takeBarName ∈ WS := ws_of (lt_4 (List.mem_of_getElem? (i := 181) rfl)) rfl
theorem wi_yX5_takeBarName : Cond.instanceMethod yX5_takeBarName ∈ WS := ws_of (lt_4 (List.mem_of_getElem? (i := 183) rfl)) rfl
theorem wc_yX5_takeBarName : Cond.code yX5_takeBarName cX5_takeBarName 3 (some .boolean) ∈ WS := ws_of (lt_4 (List.mem_of_getElem? (i := 184) rfl)) rfl
theorem wml_RX5_124 : Cond.methodLink RX5 124 yX8_isName ∈ WS := ws_of (lt_4 (List.mem_of_getElem? (i := 185) rfl)) rfl
theorem wml_RX5_131 : Cond.methodLink RX5 131 yX2_barNamed ∈ WS := ws_of (lt_4 (List.mem_of_getElem? (i := 186) rfl)) rfl
theorem wml_RX5_108 : Cond.methodLink RX5 108 yX5_takeCount ∈ WS := ws_of (lt_4 (List.mem_of_getElem? (i := 187) rfl)) rfl
theorem wi_yX5_takeCount : Cond.instanceMethod yX5_takeCount ∈ WS := ws_of (lt_4 (List.mem_of_getElem? (i := 189) rfl)) rfl
theorem wc_yX5_takeCount : Cond.code yX5_takeCount cX5_takeCount 4 (some .boolean) ∈ WS := ws_of (lt_4 (List.mem_of_getElem? (i := 190) rfl)) rfl
theorem wml_RX5_140 : Cond.methodLink RX5 140 yX8_takeNumber ∈ WS := ws_of (lt_4 (List.mem_of_getElem? (i := 191) rfl)) rfl
theorem wml_RX5_112 : Cond.methodLink RX5 112 yX5_takeWhat ∈ WS := ws_of (lt_4 (List.mem_of_getElem? (i := 192) rfl)) rfl
theorem wi_yX5_takeWhat : Cond.instanceMethod yX5_takeWhat ∈ WS := ws_of (lt_4 (List.mem_of_getElem? (i := 194) rfl)) rfl
theorem wc_yX5_takeWhat : Cond.code yX5_takeWhat cX5_takeWhat 2 (some .boolean) ∈ WS := ws_of (lt_4 (List.mem_of_getElem? (i := 195) rfl)) rfl
theorem wml_RL_63 : Cond.methodLink RL 63 yX11_fault ∈ WS := ws_of (lt_4 (List.mem_of_getElem? (i := 199) rfl)) rfl
theorem wi_yX11_fault : Cond.instanceMethod yX11_fault ∈ WS := ws_of (lt_4 (List.mem_of_getElem? (i := 200) rfl)) rfl
theorem wsel_yX11_fault : Cond.selects RX11 yX11_fault yX11_fault ∈ WS := ws_of (lt_4 (List.mem_of_getElem? (i := 201) rfl)) rfl
theorem wc_yX11_fault : Cond.code yX11_fault cX11_fault 2 (some .int) ∈ WS := ws_of (lt_4 (List.mem_of_getElem? (i := 202) rfl)) rfl
theorem wml_RL_67 : Cond.methodLink RL 67 yX11_told ∈ WS := ws_of (lt_4 (List.mem_of_getElem? (i := 203) rfl)) rfl
theorem wi_yX11_told : Cond.instanceMethod yX11_told ∈ WS := ws_of (lt_4 (List.mem_of_getElem? (i := 204) rfl)) rfl
theorem wsel_yX11_told : Cond.selects RX11 yX11_told yX11_told ∈ WS := ws_of (lt_4 (List.mem_of_getElem? (i := 205) rfl)) rfl
theorem wc_yX11_told : Cond.code yX11_told cX11_told 3 (some .int) ∈ WS := ws_of (lt_4 (List.mem_of_getElem? (i := 206) rfl)) rfl
theorem wml_RL_71 : Cond.methodLink RL 71 yX11_bar ∈ WS := ws_of (lt_4 (List.mem_of_getElem? (i := 207) rfl)) rfl
theorem wi_yX11_bar : Cond.instanceMethod yX11_bar ∈ WS := ws_of (lt_4 (List.mem_of_getElem? (i := 208) rfl)) rfl
theorem wsel_yX11_bar : Cond.selects RX11 yX11_bar yX11_bar ∈ WS := ws_of (lt_4 (List.mem_of_getElem? (i := 209) rfl)) rfl
theorem wc_yX11_bar : Cond.code yX11_bar cX11_bar 4 (some .int) ∈ WS := ws_of (lt_4 (List.mem_of_getElem? (i := 210) rfl)) rfl
theorem wml_RX11_257 : Cond.methodLink RX11 257 yX11_isBar ∈ WS := ws_of (lt_4 (List.mem_of_getElem? (i := 211) rfl)) rfl
theorem wi_yX11_isBar : Cond.instanceMethod yX11_isBar ∈ WS := ws_of (lt_4 (List.mem_of_getElem? (i := 213) rfl)) rfl
theorem wc_yX11_isBar : Cond.code yX11_isBar cX11_isBar 2 (some .boolean) ∈ WS := ws_of (lt_4 (List.mem_of_getElem? (i := 214) rfl)) rfl
theorem wml_RX11_272 : Cond.methodLink RX11 272 yX2_cellsOf ∈ WS := ws_of (lt_4 (List.mem_of_getElem? (i := 215) rfl)) rfl
theorem wi_yX2_cellsOf : Cond.instanceMethod yX2_cellsOf ∈ WS := ws_of (lt_4 (List.mem_of_getElem? (i := 216) rfl)) rfl
theorem wsel_yX2_cellsOf : Cond.selects RX2 yX2_cellsOf yX2_cellsOf ∈ WS := ws_of (lt_4 (List.mem_of_getElem? (i := 217) rfl)) rfl
theorem wc_yX2_cellsOf : Cond.code yX2_cellsOf cX2_cellsOf 4 (some .int) ∈ WS := ws_of (lt_4 (List.mem_of_getElem? (i := 218) rfl)) rfl
theorem wml_RX2_89 : Cond.methodLink RX2 89 yX2_cellCount ∈ WS := ws_of (lt_4 (List.mem_of_getElem? (i := 219) rfl)) rfl
theorem wml_RL_76 : Cond.methodLink RL 76 yX11_barOf ∈ WS := ws_of (lt_4 (List.mem_of_getElem? (i := 220) rfl)) rfl
theorem wi_yX11_barOf : Cond.instanceMethod yX11_barOf ∈ WS := ws_of (lt_4 (List.mem_of_getElem? (i := 221) rfl)) rfl
theorem wsel_yX11_barOf : Cond.selects RX11 yX11_barOf yX11_barOf ∈ WS := ws_of (lt_4 (List.mem_of_getElem? (i := 222) rfl)) rfl
theorem wc_yX11_barOf : Cond.code yX11_barOf cX11_barOf 3 (some .int) ∈ WS := ws_of (lt_4 (List.mem_of_getElem? (i := 223) rfl)) rfl
theorem wml_RX11_278 : Cond.methodLink RX11 278 yX11_isCell ∈ WS := ws_of (lt_4 (List.mem_of_getElem? (i := 224) rfl)) rfl
theorem wi_yX11_isCell : Cond.instanceMethod yX11_isCell ∈ WS := ws_of (lt_4 (List.mem_of_getElem? (i := 226) rfl)) rfl
theorem wc_yX11_isCell : Cond.code yX11_isCell cX11_isCell 2 (some .boolean) ∈ WS := ws_of (lt_4 (List.mem_of_getElem? (i := 227) rfl)) rfl
theorem wml_RL_80 : Cond.methodLink RL 80 yX11_stage ∈ WS := ws_of (lt_4 (List.mem_of_getElem? (i := 228) rfl)) rfl
theorem wi_yX11_stage : Cond.instanceMethod yX11_stage ∈ WS := ws_of (lt_4 (List.mem_of_getElem? (i := 229) rfl)) rfl
theorem wsel_yX11_stage : Cond.selects RX11 yX11_stage yX11_stage ∈ WS := ws_of (lt_4 (List.mem_of_getElem? (i := 230) rfl)) rfl
theorem wc_yX11_stage : Cond.code yX11_stage cX11_stage 2 (some .int) ∈ WS := ws_of (lt_4 (List.mem_of_getElem? (i := 231) rfl)) rfl
theorem wml_RX11_284 : Cond.methodLink RX11 284 yX2_stageOn ∈ WS := ws_of (lt_4 (List.mem_of_getElem? (i := 232) rfl)) rfl
theorem wi_yX2_stageOn : Cond.instanceMethod yX2_stageOn ∈ WS := ws_of (lt_4 (List.mem_of_getElem? (i := 233) rfl)) rfl
theorem wsel_yX2_stageOn : Cond.selects RX2 yX2_stageOn yX2_stageOn ∈ WS := ws_of (lt_4 (List.mem_of_getElem? (i := 234) rfl)) rfl
theorem wc_yX2_stageOn : Cond.code yX2_stageOn cX2_stageOn 2 (some .int) ∈ WS := ws_of (lt_4 (List.mem_of_getElem? (i := 235) rfl)) rfl
theorem wml_RL_84 : Cond.methodLink RL 84 yX11_depth ∈ WS := ws_of (lt_4 (List.mem_of_getElem? (i := 236) rfl)) rfl
theorem wi_yX11_depth : Cond.instanceMethod yX11_depth ∈ WS := ws_of (lt_4 (List.mem_of_getElem? (i := 237) rfl)) rfl
theorem wsel_yX11_depth : Cond.selects RX11 yX11_depth yX11_depth ∈ WS := ws_of (lt_4 (List.mem_of_getElem? (i := 238) rfl)) rfl
theorem wc_yX11_depth : Cond.code yX11_depth cX11_depth 3 (some .int) ∈ WS := ws_of (lt_4 (List.mem_of_getElem? (i := 239) rfl)) rfl
theorem wml_RX11_287 : Cond.methodLink RX11 287 yX11_isSet ∈ WS := ws_of (lt_5 (List.mem_of_getElem? (i := 0) rfl)) rfl
theorem wi_yX11_isSet : Cond.instanceMethod yX11_isSet ∈ WS := ws_of (lt_5 (List.mem_of_getElem? (i := 2) rfl)) rfl
theorem wc_yX11_isSet : Cond.code yX11_isSet cX11_isSet 2 (some .boolean) ∈ WS := ws_of (lt_5 (List.mem_of_getElem? (i := 3) rfl)) rfl
theorem wml_RX11_337 : Cond.methodLink RX11 337 yX2_setCount ∈ WS := ws_of (lt_5 (List.mem_of_getElem? (i := 4) rfl)) rfl
theorem wml_RX11_290 : Cond.methodLink RX11 290 yX2_depthAt ∈ WS := ws_of (lt_5 (List.mem_of_getElem? (i := 5) rfl)) rfl
theorem wi_yX2_depthAt : Cond.instanceMethod yX2_depthAt ∈ WS := ws_of (lt_5 (List.mem_of_getElem? (i := 6) rfl)) rfl
theorem wsel_yX2_depthAt : Cond.selects RX2 yX2_depthAt yX2_depthAt ∈ WS := ws_of (lt_5 (List.mem_of_getElem? (i := 7) rfl)) rfl
theorem wc_yX2_depthAt : Cond.code yX2_depthAt cX2_depthAt 6 (some .int) ∈ WS := ws_of (lt_5 (List.mem_of_getElem? (i := 8) rfl)) rfl
theorem wml_RL_88 : Cond.methodLink RL 88 yX11_open ∈ WS := ws_of (lt_5 (List.mem_of_getElem? (i := 9) rfl)) rfl
theorem wi_yX11_open : Cond.instanceMethod yX11_open ∈ WS := ws_of (lt_5 (List.mem_of_getElem? (i := 10) rfl)) rfl
theorem wsel_yX11_open : Cond.selects RX11 yX11_open yX11_open ∈ WS := ws_of (lt_5 (List.mem_of_getElem? (i := 11) rfl)) rfl
theorem wc_yX11_open : Cond.code yX11_open cX11_open 2 (some .int) ∈ WS := ws_of (lt_5 (List.mem_of_getElem? (i := 12) rfl)) rfl
theorem wml_RX11_294 : Cond.methodLink RX11 294 yX1_look ∈ WS := ws_of (lt_5 (List.mem_of_getElem? (i := 13) rfl)) rfl
theorem wi_yX1_look : Cond.instanceMethod yX1_look ∈ WS := ws_of (lt_5 (List.mem_of_getElem? (i := 14) rfl)) rfl
theorem wsel_yX1_look : Cond.selects RX1 yX1_look yX1_look ∈ WS := ws_of (lt_5 (List.mem_of_getElem? (i := 15) rfl)) rfl
theorem wc_yX1_look : Cond.code yX1_look cX1_look 7 none ∈ WS := ws_of (lt_5 (List.mem_of_getElem? (i := 16) rfl)) rfl
theorem wml_RX1_74 : Cond.methodLink RX1 74 yX2_stageOn ∈ WS := ws_of (lt_5 (List.mem_of_getElem? (i := 17) rfl)) rfl
theorem wml_RX1_83 : Cond.methodLink RX1 83 yJ7_fill_d0a16 ∈ WS := ws_of (lt_5 (List.mem_of_getElem? (i := 18) rfl)) rfl
theorem wml_RX1_89 : Cond.methodLink RX1 89 yX2_cellCount ∈ WS := ws_of (lt_5 (List.mem_of_getElem? (i := 19) rfl)) rfl
theorem wml_RX1_93 : Cond.methodLink RX1 93 yX1_kindOf ∈ WS := ws_of (lt_5 (List.mem_of_getElem? (i := 20) rfl)) rfl
theorem wi_yX1_kindOf : Cond.instanceMethod yX1_kindOf ∈ WS := ws_of (lt_5 (List.mem_of_getElem? (i := 21) rfl)) rfl
theorem wsel_yX1_kindOf : Cond.selects RX1 yX1_kindOf yX1_kindOf ∈ WS := ws_of (lt_5 (List.mem_of_getElem? (i := 22) rfl)) rfl
theorem wc_yX1_kindOf : Cond.code yX1_kindOf cX1_kindOf 2 (some .int) ∈ WS := ws_of (lt_5 (List.mem_of_getElem? (i := 23) rfl)) rfl
theorem wml_RX1_105 : Cond.methodLink RX1 105 yX2_depthAt ∈ WS := ws_of (lt_5 (List.mem_of_getElem? (i := 24) rfl)) rfl
theorem wml_RX11_298 : Cond.methodLink RX11 298 yX1_kindOf ∈ WS := ws_of (lt_5 (List.mem_of_getElem? (i := 25) rfl)) rfl
theorem wml_RL_92 : Cond.methodLink RL 92 yX11_part ∈ WS := ws_of (lt_5 (List.mem_of_getElem? (i := 26) rfl)) rfl
theorem wi_yX11_part : Cond.instanceMethod yX11_part ∈ WS := ws_of (lt_5 (List.mem_of_getElem? (i := 27) rfl)) rfl
theorem wsel_yX11_part : Cond.selects RX11 yX11_part yX11_part ∈ WS := ws_of (lt_5 (List.mem_of_getElem? (i := 28) rfl)) rfl
theorem wc_yX11_part : Cond.code yX11_part cX11_part 2 (some .int) ∈ WS := ws_of (lt_5 (List.mem_of_getElem? (i := 29) rfl)) rfl
theorem wml_RL_96 : Cond.methodLink RL 96 yX11_there ∈ WS := ws_of (lt_5 (List.mem_of_getElem? (i := 30) rfl)) rfl
theorem wi_yX11_there : Cond.instanceMethod yX11_there ∈ WS := ws_of (lt_5 (List.mem_of_getElem? (i := 31) rfl)) rfl
theorem wsel_yX11_there : Cond.selects RX11 yX11_there yX11_there ∈ WS := ws_of (lt_5 (List.mem_of_getElem? (i := 32) rfl)) rfl
theorem wc_yX11_there : Cond.code yX11_there cX11_there 2 (some .boolean) ∈ WS := ws_of (lt_5 (List.mem_of_getElem? (i := 33) rfl)) rfl
theorem wml_RX11_301 : Cond.methodLink RX11 301 yX9_partsWith ∈ WS := ws_of (lt_5 (List.mem_of_getElem? (i := 34) rfl)) rfl
theorem wi_yX9_partsWith : Cond.instanceMethod yX9_partsWith ∈ WS := ws_of (lt_5 (List.mem_of_getElem? (i := 35) rfl)) rfl
theorem wsel_yX9_partsWith : Cond.selects RX9 yX9_partsWith yX9_partsWith ∈ WS := ws_of (lt_5 (List.mem_of_getElem? (i := 36) rfl)) rfl
theorem wc_yX9_partsWith : Cond.code yX9_partsWith cX9_partsWith 6 (some .long) ∈ WS := ws_of (lt_5 (List.mem_of_getElem? (i := 37) rfl)) rfl
theorem wk_RX11_305 : Cond.constantLong RX11 305 (1000000) ∈ WS := ws_of (lt_5 (List.mem_of_getElem? (i := 38) rfl)) rfl
theorem wml_RX11_307 : Cond.methodLink RX11 307 yX11_tellFraction ∈ WS := ws_of (lt_5 (List.mem_of_getElem? (i := 39) rfl)) rfl
theorem wi_yX11_tellFraction : Cond.instanceMethod yX11_tellFraction ∈ WS := ws_of (lt_5 (List.mem_of_getElem? (i := 41) rfl)) rfl
theorem wc_yX11_tellFraction : Cond.code yX11_tellFraction cX11_tellFraction 7 (some .boolean) ∈ WS := ws_of (lt_5 (List.mem_of_getElem? (i := 42) rfl)) rfl
theorem wml_RX11_421 : Cond.methodLink RX11 421 yX11_commonDivisor ∈ WS := ws_of (lt_5 (List.mem_of_getElem? (i := 43) rfl)) rfl
theorem wst_yX11_commonDivisor : Cond.static yX11_commonDivisor ∈ WS := ws_of (lt_5 (List.mem_of_getElem? (i := 44) rfl)) rfl
theorem wc_yX11_commonDivisor : Cond.code yX11_commonDivisor cX11_commonDivisor 11 (some .long) ∈ WS := ws_of (lt_5 (List.mem_of_getElem? (i := 45) rfl)) rfl
theorem wml_RL_101 : Cond.methodLink RL 101 yX11_chance ∈ WS := ws_of (lt_5 (List.mem_of_getElem? (i := 46) rfl)) rfl
theorem wi_yX11_chance : Cond.instanceMethod yX11_chance ∈ WS := ws_of (lt_5 (List.mem_of_getElem? (i := 47) rfl)) rfl
theorem wsel_yX11_chance : Cond.selects RX11 yX11_chance yX11_chance ∈ WS := ws_of (lt_5 (List.mem_of_getElem? (i := 48) rfl)) rfl
theorem wc_yX11_chance : Cond.code yX11_chance cX11_chance 2 (some .boolean) ∈ WS := ws_of (lt_5 (List.mem_of_getElem? (i := 49) rfl)) rfl
theorem wml_RX11_311 : Cond.methodLink RX11 311 yX9_partsWithout ∈ WS := ws_of (lt_5 (List.mem_of_getElem? (i := 50) rfl)) rfl
theorem wi_yX9_partsWithout : Cond.instanceMethod yX9_partsWithout ∈ WS := ws_of (lt_5 (List.mem_of_getElem? (i := 51) rfl)) rfl
theorem wsel_yX9_partsWithout : Cond.selects RX9 yX9_partsWithout yX9_partsWithout ∈ WS := ws_of (lt_5 (List.mem_of_getElem? (i := 52) rfl)) rfl
theorem wc_yX9_partsWithout : Cond.code yX9_partsWithout cX9_partsWithout 6 (some .long) ∈ WS := ws_of (lt_5 (List.mem_of_getElem? (i := 53) rfl)) rfl
theorem wml_RL_105 : Cond.methodLink RL 105 yX11_pass ∈ WS := ws_of (lt_5 (List.mem_of_getElem? (i := 54) rfl)) rfl
theorem wi_yX11_pass : Cond.instanceMethod yX11_pass ∈ WS := ws_of (lt_5 (List.mem_of_getElem? (i := 55) rfl)) rfl
theorem wsel_yX11_pass : Cond.selects RX11 yX11_pass yX11_pass ∈ WS := ws_of (lt_5 (List.mem_of_getElem? (i := 56) rfl)) rfl
theorem wc_yX11_pass : Cond.code yX11_pass cX11_pass 3 (some .int) ∈ WS := ws_of (lt_5 (List.mem_of_getElem? (i := 57) rfl)) rfl
theorem wml_RX11_314 : Cond.methodLink RX11 314 yX9_passDay ∈ WS := ws_of (lt_5 (List.mem_of_getElem? (i := 58) rfl)) rfl
theorem wi_yX9_passDay : Cond.instanceMethod yX9_passDay ∈ WS := ws_of (lt_5 (List.mem_of_getElem? (i := 59) rfl)) rfl
theorem wsel_yX9_passDay : Cond.selects RX9 yX9_passDay yX9_passDay ∈ WS := ws_of (lt_5 (List.mem_of_getElem? (i := 60) rfl)) rfl
theorem wc_yX9_passDay : Cond.code yX9_passDay cX9_passDay 15 none ∈ WS := ws_of (lt_5 (List.mem_of_getElem? (i := 61) rfl)) rfl
theorem wnl_RX9_39 : Cond.methodLinkNest RX9 39 yX11_copyParts "PoleRiver" ∈ lw_tbl := lt_5 (List.mem_of_getElem? (i := 62) rfl)
theorem wst_yX11_copyParts : Cond.static yX11_copyParts ∈ WS := ws_of (lt_5 (List.mem_of_getElem? (i := 63) rfl)) rfl
theorem wc_yX11_copyParts : Cond.code yX11_copyParts cX11_copyParts 2 none ∈ WS := ws_of (lt_5 (List.mem_of_getElem? (i := 64) rfl)) rfl
theorem wml_RX9_46 : Cond.methodLink RX9 46 yJ9_min_7cf53 ∈ WS := ws_of (lt_5 (List.mem_of_getElem? (i := 65) rfl)) rfl
theorem wml_RL_109 : Cond.methodLink RL 109 yX11_sound ∈ WS := ws_of (lt_5 (List.mem_of_getElem? (i := 66) rfl)) rfl
theorem wi_yX11_sound : Cond.instanceMethod yX11_sound ∈ WS := ws_of (lt_5 (List.mem_of_getElem? (i := 67) rfl)) rfl
theorem wsel_yX11_sound : Cond.selects RX11 yX11_sound yX11_sound ∈ WS := ws_of (lt_5 (List.mem_of_getElem? (i := 68) rfl)) rfl
theorem wc_yX11_sound : Cond.code yX11_sound cX11_sound 4 (some .boolean) ∈ WS := ws_of (lt_5 (List.mem_of_getElem? (i := 69) rfl)) rfl
theorem wml_RX11_318 : Cond.methodLink RX11 318 yX9_hearPole ∈ WS := ws_of (lt_5 (List.mem_of_getElem? (i := 70) rfl)) rfl
theorem wi_yX9_hearPole : Cond.instanceMethod yX9_hearPole ∈ WS := ws_of (lt_5 (List.mem_of_getElem? (i := 71) rfl)) rfl
theorem wsel_yX9_hearPole : Cond.selects RX9 yX9_hearPole yX9_hearPole ∈ WS := ws_of (lt_5 (List.mem_of_getElem? (i := 72) rfl)) rfl
theorem wc_yX9_hearPole : Cond.code yX9_hearPole cX9_hearPole 9 (some .boolean) ∈ WS := ws_of (lt_5 (List.mem_of_getElem? (i := 73) rfl)) rfl
theorem wml_RX9_55 : Cond.methodLink RX9 55 yX2_stageOn ∈ WS := ws_of (lt_5 (List.mem_of_getElem? (i := 74) rfl)) rfl
theorem wml_RX9_59 : Cond.methodLink RX9 59 yX2_depthAt ∈ WS := ws_of (lt_5 (List.mem_of_getElem? (i := 75) rfl)) rfl
theorem wml_RX9_63 : Cond.methodLink RX9 63 yX2_likelyRead ∈ WS := ws_of (lt_5 (List.mem_of_getElem? (i := 76) rfl)) rfl
theorem wi_yX2_likelyRead : Cond.instanceMethod yX2_likelyRead ∈ WS := ws_of (lt_5 (List.mem_of_getElem? (i := 77) rfl)) rfl
theorem wsel_yX2_likelyRead : Cond.selects RX2 yX2_likelyRead yX2_likelyRead ∈ WS := ws_of (lt_5 (List.mem_of_getElem? (i := 78) rfl)) rfl
theorem wc_yX2_likelyRead : Cond.code yX2_likelyRead cX2_likelyRead 3 (some .int) ∈ WS := ws_of (lt_5 (List.mem_of_getElem? (i := 79) rfl)) rfl
theorem wml_RL_114 : Cond.methodLink RL 114 yX11_colour ∈ WS := ws_of (lt_5 (List.mem_of_getElem? (i := 80) rfl)) rfl
theorem wi_yX11_colour : Cond.instanceMethod yX11_colour ∈ WS := ws_of (lt_5 (List.mem_of_getElem? (i := 81) rfl)) rfl
theorem wsel_yX11_colour : Cond.selects RX11 yX11_colour yX11_colour ∈ WS := ws_of (lt_5 (List.mem_of_getElem? (i := 82) rfl)) rfl
theorem wc_yX11_colour : Cond.code yX11_colour cX11_colour 3 (some .boolean) ∈ WS := ws_of (lt_5 (List.mem_of_getElem? (i := 83) rfl)) rfl
theorem wml_RX11_322 : Cond.methodLink RX11 322 yX9_seeWater ∈ WS := ws_of (lt_5 (List.mem_of_getElem? (i := 84) rfl)) rfl
theorem wi_yX9_seeWater : Cond.instanceMethod yX9_seeWater ∈ WS := ws_of (lt_5 (List.mem_of_getElem? (i := 85) rfl)) rfl
theorem wsel_yX9_seeWater : Cond.selects RX9 yX9_seeWater yX9_seeWater ∈ WS := ws_of (lt_5 (List.mem_of_getElem? (i := 86) rfl)) rfl
theorem wc_yX9_seeWater : Cond.code yX9_seeWater cX9_seeWater 8 (some .boolean) ∈ WS := ws_of (lt_5 (List.mem_of_getElem? (i := 87) rfl)) rfl
theorem wml_RL_119 : Cond.methodLink RL 119 yX11_off ∈ WS := ws_of (lt_5 (List.mem_of_getElem? (i := 88) rfl)) rfl
theorem wi_yX11_off : Cond.instanceMethod yX11_off ∈ WS := ws_of (lt_5 (List.mem_of_getElem? (i := 89) rfl)) rfl
theorem wsel_yX11_off : Cond.selects RX11 yX11_off yX11_off ∈ WS := ws_of (lt_5 (List.mem_of_getElem? (i := 90) rfl)) rfl
theorem wc_yX11_off : Cond.code yX11_off cX11_off 2 (some .boolean) ∈ WS := ws_of (lt_5 (List.mem_of_getElem? (i := 91) rfl)) rfl
theorem wml_RL_123 : Cond.methodLink RL 123 yX11_forget ∈ WS := ws_of (lt_5 (List.mem_of_getElem? (i := 92) rfl)) rfl
theorem wi_yX11_forget : Cond.instanceMethod yX11_forget ∈ WS := ws_of (lt_5 (List.mem_of_getElem? (i := 93) rfl)) rfl
theorem wsel_yX11_forget : Cond.selects RX11 yX11_forget yX11_forget ∈ WS := ws_of (lt_5 (List.mem_of_getElem? (i := 94) rfl)) rfl
theorem wc_yX11_forget : Cond.code yX11_forget cX11_forget 1 (some .boolean) ∈ WS := ws_of (lt_5 (List.mem_of_getElem? (i := 95) rfl)) rfl
theorem wml_RL_128 : Cond.methodLink RL 128 yX11_minutes ∈ WS := ws_of (lt_5 (List.mem_of_getElem? (i := 96) rfl)) rfl
theorem wi_yX11_minutes : Cond.instanceMethod yX11_minutes ∈ WS := ws_of (lt_5 (List.mem_of_getElem? (i := 97) rfl)) rfl
theorem wsel_yX11_minutes : Cond.selects RX11 yX11_minutes yX11_minutes ∈ WS := ws_of (lt_5 (List.mem_of_getElem? (i := 98) rfl)) rfl
theorem wc_yX11_minutes : Cond.code yX11_minutes cX11_minutes 4 (some .int) ∈ WS := ws_of (lt_5 (List.mem_of_getElem? (i := 99) rfl)) rfl
theorem wml_RX11_326 : Cond.methodLink RX11 326 yX11_wayStatus ∈ WS := ws_of (lt_5 (List.mem_of_getElem? (i := 100) rfl)) rfl
theorem wi_yX11_wayStatus : Cond.instanceMethod yX11_wayStatus ∈ WS := ws_of (lt_5 (List.mem_of_getElem? (i := 102) rfl)) rfl
theorem wc_yX11_wayStatus : Cond.code yX11_wayStatus cX11_wayStatus 4 (some .int) ∈ WS := ws_of (lt_5 (List.mem_of_getElem? (i := 103) rfl)) rfl
theorem wml_RX11_426 : Cond.methodLink RX11 426 yX2_isWay ∈ WS := ws_of (lt_5 (List.mem_of_getElem? (i := 104) rfl)) rfl
theorem wi_yX2_isWay : Cond.instanceMethod yX2_isWay ∈ WS := ws_of (lt_5 (List.mem_of_getElem? (i := 105) rfl)) rfl
theorem wsel_yX2_isWay : Cond.selects RX2 yX2_isWay yX2_isWay ∈ WS := ws_of (lt_5 (List.mem_of_getElem? (i := 106) rfl)) rfl
theorem wc_yX2_isWay : Cond.code yX2_isWay cX2_isWay 4 (some .boolean) ∈ WS := ws_of (lt_5 (List.mem_of_getElem? (i := 107) rfl)) rfl
theorem wml_RX2_103 : Cond.methodLink RX2 103 yX2_headingTo ∈ WS := ws_of (lt_5 (List.mem_of_getElem? (i := 108) rfl)) rfl
theorem wi_yX2_headingTo : Cond.instanceMethod yX2_headingTo ∈ WS := ws_of (lt_5 (List.mem_of_getElem? (i := 109) rfl)) rfl
theorem wsel_yX2_headingTo : Cond.selects RX2 yX2_headingTo yX2_headingTo ∈ WS := ws_of (lt_5 (List.mem_of_getElem? (i := 110) rfl)) rfl
theorem wc_yX2_headingTo : Cond.code yX2_headingTo cX2_headingTo 6 (some .int) ∈ WS := ws_of (lt_5 (List.mem_of_getElem? (i := 111) rfl)) rfl
theorem wml_RX2_99 : Cond.methodLink RX2 99 yX2_beside ∈ WS := ws_of (lt_5 (List.mem_of_getElem? (i := 112) rfl)) rfl
theorem wi_yX2_beside : Cond.instanceMethod yX2_beside ∈ WS := ws_of (lt_5 (List.mem_of_getElem? (i := 113) rfl)) rfl
theorem wsel_yX2_beside : Cond.selects RX2 yX2_beside yX2_beside ∈ WS := ws_of (lt_5 (List.mem_of_getElem? (i := 114) rfl)) rfl
theorem wc_yX2_beside : Cond.code yX2_beside cX2_beside 5 (some .int) ∈ WS := ws_of (lt_5 (List.mem_of_getElem? (i := 115) rfl)) rfl
theorem wf_RX2_93 : Cond.fieldLink RX2 93 "PoleRiver$River" "ACROSS" "[I" ∈ WS := ws_of (lt_5 (List.mem_of_getElem? (i := 116) rfl)) rfl
theorem wls_RX2_ACROSS : Cond.laysStatic "PoleRiver$River" "ACROSS" "[I" ∈ lw_tbl := lt_5 (List.mem_of_getElem? (i := 117) rfl)
theorem wf_RX2_96 : Cond.fieldLink RX2 96 "PoleRiver$River" "DOWN" "[I" ∈ WS := ws_of (lt_5 (List.mem_of_getElem? (i := 118) rfl)) rfl
theorem wls_RX2_DOWN : Cond.laysStatic "PoleRiver$River" "DOWN" "[I" ∈ lw_tbl := lt_5 (List.mem_of_getElem? (i := 119) rfl)
theorem wml_RX11_329 : Cond.methodLink RX11 329 yX2_minutesAlong ∈ WS := ws_of (lt_5 (List.mem_of_getElem? (i := 120) rfl)) rfl
theorem wi_yX2_minutesAlong : Cond.instanceMethod yX2_minutesAlong ∈ WS := ws_of (lt_5 (List.mem_of_getElem? (i := 121) rfl)) rfl
theorem wsel_yX2_minutesAlong : Cond.selects RX2 yX2_minutesAlong yX2_minutesAlong ∈ WS := ws_of (lt_5 (List.mem_of_getElem? (i := 122) rfl)) rfl
theorem wc_yX2_minutesAlong : Cond.code yX2_minutesAlong cX2_minutesAlong 7 (some .int) ∈ WS := ws_of (lt_5 (List.mem_of_getElem? (i := 123) rfl)) rfl
theorem wml_RX2_107 : Cond.methodLink RX2 107 yX2_stepMinutes ∈ WS := ws_of (lt_5 (List.mem_of_getElem? (i := 124) rfl)) rfl
theorem wi_yX2_stepMinutes : Cond.instanceMethod yX2_stepMinutes ∈ WS := ws_of (lt_5 (List.mem_of_getElem? (i := 125) rfl)) rfl
theorem wsel_yX2_stepMinutes : Cond.selects RX2 yX2_stepMinutes yX2_stepMinutes ∈ WS := ws_of (lt_5 (List.mem_of_getElem? (i := 126) rfl)) rfl
theorem wc_yX2_stepMinutes : Cond.code yX2_stepMinutes cX2_stepMinutes 2 (some .int) ∈ WS := ws_of (lt_5 (List.mem_of_getElem? (i := 127) rfl)) rfl
theorem wml_RX2_111 : Cond.methodLink RX2 111 yX2_turnMinutes ∈ WS := ws_of (lt_5 (List.mem_of_getElem? (i := 128) rfl)) rfl
theorem wi_yX2_turnMinutes : Cond.instanceMethod yX2_turnMinutes ∈ WS := ws_of (lt_5 (List.mem_of_getElem? (i := 129) rfl)) rfl
theorem wsel_yX2_turnMinutes : Cond.selects RX2 yX2_turnMinutes yX2_turnMinutes ∈ WS := ws_of (lt_5 (List.mem_of_getElem? (i := 130) rfl)) rfl
theorem wc_yX2_turnMinutes : Cond.code yX2_turnMinutes cX2_turnMinutes 4 (some .int) ∈ WS := ws_of (lt_5 (List.mem_of_getElem? (i := 131) rfl)) rfl
theorem wml_RL_132 : Cond.methodLink RL 132 yX11_struck ∈ WS := ws_of (lt_5 (List.mem_of_getElem? (i := 132) rfl)) rfl
theorem wi_yX11_struck : Cond.instanceMethod yX11_struck ∈ WS := ws_of (lt_5 (List.mem_of_getElem? (i := 133) rfl)) rfl
theorem wsel_yX11_struck : Cond.selects RX11 yX11_struck yX11_struck ∈ WS := ws_of (lt_5 (List.mem_of_getElem? (i := 134) rfl)) rfl
theorem wc_yX11_struck : Cond.code yX11_struck cX11_struck 6 (some .int) ∈ WS := ws_of (lt_5 (List.mem_of_getElem? (i := 135) rfl)) rfl
theorem wml_RX11_333 : Cond.methodLink RX11 333 yX1_firstStruck ∈ WS := ws_of (lt_5 (List.mem_of_getElem? (i := 136) rfl)) rfl
theorem wi_yX1_firstStruck : Cond.instanceMethod yX1_firstStruck ∈ WS := ws_of (lt_5 (List.mem_of_getElem? (i := 137) rfl)) rfl
theorem wsel_yX1_firstStruck : Cond.selects RX1 yX1_firstStruck yX1_firstStruck ∈ WS := ws_of (lt_5 (List.mem_of_getElem? (i := 138) rfl)) rfl
theorem wc_yX1_firstStruck : Cond.code yX1_firstStruck cX1_firstStruck 5 (some .int) ∈ WS := ws_of (lt_5 (List.mem_of_getElem? (i := 139) rfl)) rfl
theorem wml_RL_137 : Cond.methodLink RL 137 yX11_sure ∈ WS := ws_of (lt_5 (List.mem_of_getElem? (i := 140) rfl)) rfl
theorem wi_yX11_sure : Cond.instanceMethod yX11_sure ∈ WS := ws_of (lt_5 (List.mem_of_getElem? (i := 141) rfl)) rfl
theorem wsel_yX11_sure : Cond.selects RX11 yX11_sure yX11_sure ∈ WS := ws_of (lt_5 (List.mem_of_getElem? (i := 142) rfl)) rfl
theorem wc_yX11_sure : Cond.code yX11_sure cX11_sure 7 (some .boolean) ∈ WS := ws_of (lt_5 (List.mem_of_getElem? (i := 143) rfl)) rfl
theorem wml_RL_141 : Cond.methodLink RL 141 yX11_soonest ∈ WS := ws_of (lt_5 (List.mem_of_getElem? (i := 144) rfl)) rfl
theorem wi_yX11_soonest : Cond.instanceMethod yX11_soonest ∈ WS := ws_of (lt_5 (List.mem_of_getElem? (i := 145) rfl)) rfl
theorem wsel_yX11_soonest : Cond.selects RX11 yX11_soonest yX11_soonest ∈ WS := ws_of (lt_5 (List.mem_of_getElem? (i := 146) rfl)) rfl
theorem wc_yX11_soonest : Cond.code yX11_soonest cX11_soonest 4 (some .int) ∈ WS := ws_of (lt_5 (List.mem_of_getElem? (i := 147) rfl)) rfl
theorem wml_RX11_340 : Cond.methodLink RX11 340 yX1_search ∈ WS := ws_of (lt_5 (List.mem_of_getElem? (i := 148) rfl)) rfl
theorem wi_yX1_search : Cond.instanceMethod yX1_search ∈ WS := ws_of (lt_5 (List.mem_of_getElem? (i := 149) rfl)) rfl
theorem wsel_yX1_search : Cond.selects RX1 yX1_search yX1_search ∈ WS := ws_of (lt_5 (List.mem_of_getElem? (i := 150) rfl)) rfl
theorem wc_yX1_search : Cond.code yX1_search cX1_search 4 (some .boolean) ∈ WS := ws_of (lt_5 (List.mem_of_getElem? (i := 151) rfl)) rfl
theorem wml_RX1_109 : Cond.methodLink RX1 109 yX2_setCount ∈ WS := ws_of (lt_5 (List.mem_of_getElem? (i := 152) rfl)) rfl
theorem wml_RX1_112 : Cond.methodLink RX1 112 yX1_hasWayByLess ∈ WS := ws_of (lt_5 (List.mem_of_getElem? (i := 153) rfl)) rfl
theorem wi_yX1_hasWayByLess : Cond.instanceMethod yX1_hasWayByLess ∈ WS := ws_of (lt_5 (List.mem_of_getElem? (i := 155) rfl)) rfl
theorem wc_yX1_hasWayByLess : Cond.code yX1_hasWayByLess cX1_hasWayByLess 3 (some .boolean) ∈ WS := ws_of (lt_5 (List.mem_of_getElem? (i := 156) rfl)) rfl
theorem wml_RX1_116 : Cond.methodLink RX1 116 yX1_cellsBy ∈ WS := ws_of (lt_5 (List.mem_of_getElem? (i := 157) rfl)) rfl
theorem wi_yX1_cellsBy : Cond.instanceMethod yX1_cellsBy ∈ WS := ws_of (lt_5 (List.mem_of_getElem? (i := 159) rfl)) rfl
theorem wc_yX1_cellsBy : Cond.code yX1_cellsBy cX1_cellsBy 5 (some .long) ∈ WS := ws_of (lt_5 (List.mem_of_getElem? (i := 160) rfl)) rfl
theorem wml_RX1_120 : Cond.methodLink RX1 120 yX1_reaches ∈ WS := ws_of (lt_5 (List.mem_of_getElem? (i := 161) rfl)) rfl
theorem wi_yX1_reaches : Cond.instanceMethod yX1_reaches ∈ WS := ws_of (lt_5 (List.mem_of_getElem? (i := 163) rfl)) rfl
theorem wc_yX1_reaches : Cond.code yX1_reaches cX1_reaches 10 (some .boolean) ∈ WS := ws_of (lt_5 (List.mem_of_getElem? (i := 164) rfl)) rfl
theorem wml_RX1_127 : Cond.methodLink RX1 127 yX1_spread ∈ WS := ws_of (lt_5 (List.mem_of_getElem? (i := 165) rfl)) rfl
theorem wi_yX1_spread : Cond.instanceMethod yX1_spread ∈ WS := ws_of (lt_5 (List.mem_of_getElem? (i := 167) rfl)) rfl
theorem wc_yX1_spread : Cond.code yX1_spread cX1_spread 5 (some .long) ∈ WS := ws_of (lt_5 (List.mem_of_getElem? (i := 168) rfl)) rfl
theorem wk_RX1_131 : Cond.constantLong RX1 131 (-1) ∈ WS := ws_of (lt_5 (List.mem_of_getElem? (i := 169) rfl)) rfl
theorem wml_RX11_347 : Cond.methodLink RX11 347 yX1_keepWay ∈ WS := ws_of (lt_5 (List.mem_of_getElem? (i := 170) rfl)) rfl
theorem wi_yX1_keepWay : Cond.instanceMethod yX1_keepWay ∈ WS := ws_of (lt_5 (List.mem_of_getElem? (i := 171) rfl)) rfl
theorem wsel_yX1_keepWay : Cond.selects RX1 yX1_keepWay yX1_keepWay ∈ WS := ws_of (lt_5 (List.mem_of_getElem? (i := 172) rfl)) rfl
theorem wc_yX1_keepWay : Cond.code yX1_keepWay cX1_keepWay 6 (some .int) ∈ WS := ws_of (lt_5 (List.mem_of_getElem? (i := 173) rfl)) rfl
theorem wml_RX1_155 : Cond.methodLink RX1 155 yX1_soonestBy ∈ WS := ws_of (lt_5 (List.mem_of_getElem? (i := 174) rfl)) rfl
theorem wi_yX1_soonestBy : Cond.instanceMethod yX1_soonestBy ∈ WS := ws_of (lt_5 (List.mem_of_getElem? (i := 175) rfl)) rfl
theorem wsel_yX1_soonestBy : Cond.selects RX1 yX1_soonestBy yX1_soonestBy ∈ WS := ws_of (lt_5 (List.mem_of_getElem? (i := 176) rfl)) rfl
theorem wc_yX1_soonestBy : Cond.code yX1_soonestBy cX1_soonestBy 12 (some .int) ∈ WS := ws_of (lt_5 (List.mem_of_getElem? (i := 177) rfl)) rfl
theorem wk_RX1_154 : Cond.constant RX1 154 (1000000000) ∈ WS := ws_of (lt_5 (List.mem_of_getElem? (i := 178) rfl)) rfl
theorem wml_RX1_166 : Cond.methodLink RX1 166 yJ7_fill_53178 ∈ WS := ws_of (lt_5 (List.mem_of_getElem? (i := 179) rfl)) rfl
theorem wml_RX1_169 : Cond.methodLink RX1 169 yX1_settle ∈ WS := ws_of (lt_5 (List.mem_of_getElem? (i := 180) rfl)) rfl
theorem wi_yX1_settle : Cond.instanceMethod yX1_settle ∈ WS := ws_of (lt_5 (List.mem_of_getElem? (i := 182) rfl)) rfl
theorem wc_yX1_settle : Cond.code yX1_settle cX1_settle 7 (some .boolean) ∈ WS := ws_of (lt_5 (List.mem_of_getElem? (i := 183) rfl)) rfl
theorem wml_RX1_176 : Cond.methodLink RX1 176 yX1_minutesBy ∈ WS := ws_of (lt_5 (List.mem_of_getElem? (i := 184) rfl)) rfl
theorem wi_yX1_minutesBy : Cond.instanceMethod yX1_minutesBy ∈ WS := ws_of (lt_5 (List.mem_of_getElem? (i := 186) rfl)) rfl
theorem wc_yX1_minutesBy : Cond.code yX1_minutesBy cX1_minutesBy 4 (some .int) ∈ WS := ws_of (lt_5 (List.mem_of_getElem? (i := 187) rfl)) rfl
theorem wml_RX1_182 : Cond.methodLink RX1 182 yX2_beside ∈ WS := ws_of (lt_5 (List.mem_of_getElem? (i := 188) rfl)) rfl
theorem wml_RX1_185 : Cond.methodLink RX1 185 yX2_stepMinutes ∈ WS := ws_of (lt_5 (List.mem_of_getElem? (i := 189) rfl)) rfl
theorem wml_RX1_179 : Cond.methodLink RX1 179 yX2_turnMinutes ∈ WS := ws_of (lt_5 (List.mem_of_getElem? (i := 190) rfl)) rfl
theorem wml_RX1_172 : Cond.methodLink RX1 172 yX1_soonestHeading ∈ WS := ws_of (lt_5 (List.mem_of_getElem? (i := 191) rfl)) rfl
theorem wi_yX1_soonestHeading : Cond.instanceMethod yX1_soonestHeading ∈ WS := ws_of (lt_5 (List.mem_of_getElem? (i := 193) rfl)) rfl
theorem wc_yX1_soonestHeading : Cond.code yX1_soonestHeading cX1_soonestHeading 10 (some .int) ∈ WS := ws_of (lt_5 (List.mem_of_getElem? (i := 194) rfl)) rfl
theorem wf_RX1_188 : Cond.fieldLink RX1 188 "PoleRiver$Ground" "BY_CELL" "[I" ∈ WS := ws_of (lt_5 (List.mem_of_getElem? (i := 195) rfl)) rfl
theorem wls_RX1_BY_CELL : Cond.laysStatic "PoleRiver$Ground" "BY_CELL" "[I" ∈ lw_tbl := lt_5 (List.mem_of_getElem? (i := 196) rfl)
theorem wml_RL_145 : Cond.methodLink RL 145 yX11_surest ∈ WS := ws_of (lt_5 (List.mem_of_getElem? (i := 197) rfl)) rfl
theorem wi_yX11_surest : Cond.instanceMethod yX11_surest ∈ WS := ws_of (lt_5 (List.mem_of_getElem? (i := 198) rfl)) rfl
theorem wsel_yX11_surest : Cond.selects RX11 yX11_surest yX11_surest ∈ WS := ws_of (lt_5 (List.mem_of_getElem? (i := 199) rfl)) rfl
theorem wc_yX11_surest : Cond.code yX11_surest cX11_surest 4 (some .int) ∈ WS := ws_of (lt_5 (List.mem_of_getElem? (i := 200) rfl)) rfl
theorem wml_RX11_350 : Cond.methodLink RX11 350 yX11_choiceStatus ∈ WS := ws_of (lt_5 (List.mem_of_getElem? (i := 201) rfl)) rfl
theorem wi_yX11_choiceStatus : Cond.instanceMethod yX11_choiceStatus ∈ WS := ws_of (lt_5 (List.mem_of_getElem? (i := 203) rfl)) rfl
theorem wc_yX11_choiceStatus : Cond.code yX11_choiceStatus cX11_choiceStatus 3 (some .int) ∈ WS := ws_of (lt_5 (List.mem_of_getElem? (i := 204) rfl)) rfl
theorem wml_RX11_353 : Cond.methodLink RX11 353 yX1_chooseSurest ∈ WS := ws_of (lt_5 (List.mem_of_getElem? (i := 205) rfl)) rfl
theorem wi_yX1_chooseSurest : Cond.instanceMethod yX1_chooseSurest ∈ WS := ws_of (lt_5 (List.mem_of_getElem? (i := 206) rfl)) rfl
theorem wsel_yX1_chooseSurest : Cond.selects RX1 yX1_chooseSurest yX1_chooseSurest ∈ WS := ws_of (lt_5 (List.mem_of_getElem? (i := 207) rfl)) rfl
theorem wc_yX1_chooseSurest : Cond.code yX1_chooseSurest cX1_chooseSurest 4 none ∈ WS := ws_of (lt_5 (List.mem_of_getElem? (i := 208) rfl)) rfl
theorem wml_RX1_150 : Cond.methodLink RX1 150 yX1_bestOf ∈ WS := ws_of (lt_5 (List.mem_of_getElem? (i := 209) rfl)) rfl
theorem wi_yX1_bestOf : Cond.instanceMethod yX1_bestOf ∈ WS := ws_of (lt_5 (List.mem_of_getElem? (i := 210) rfl)) rfl
theorem wsel_yX1_bestOf : Cond.selects RX1 yX1_bestOf yX1_bestOf ∈ WS := ws_of (lt_5 (List.mem_of_getElem? (i := 211) rfl)) rfl
theorem wc_yX1_bestOf : Cond.code yX1_bestOf cX1_bestOf 5 (some .long) ∈ WS := ws_of (lt_5 (List.mem_of_getElem? (i := 212) rfl)) rfl
theorem wml_RX1_133 : Cond.methodLink RX1 133 yX1_sumUp ∈ WS := ws_of (lt_5 (List.mem_of_getElem? (i := 213) rfl)) rfl
theorem wi_yX1_sumUp : Cond.instanceMethod yX1_sumUp ∈ WS := ws_of (lt_5 (List.mem_of_getElem? (i := 215) rfl)) rfl
theorem wc_yX1_sumUp : Cond.code yX1_sumUp cX1_sumUp 5 none ∈ WS := ws_of (lt_5 (List.mem_of_getElem? (i := 216) rfl)) rfl
theorem wnl_RX1_146 : Cond.methodLinkNest RX1 146 yX11_copyParts "PoleRiver" ∈ lw_tbl := lt_5 (List.mem_of_getElem? (i := 217) rfl)
theorem wml_RX1_137 : Cond.methodLink RX1 137 yX1_sumWithout ∈ WS := ws_of (lt_5 (List.mem_of_getElem? (i := 218) rfl)) rfl
theorem wi_yX1_sumWithout : Cond.instanceMethod yX1_sumWithout ∈ WS := ws_of (lt_5 (List.mem_of_getElem? (i := 220) rfl)) rfl
theorem wc_yX1_sumWithout : Cond.code yX1_sumWithout cX1_sumWithout 2 (some .long) ∈ WS := ws_of (lt_5 (List.mem_of_getElem? (i := 221) rfl)) rfl
theorem wml_RX1_140 : Cond.methodLink RX1 140 yJ9_max_f86c9 ∈ WS := ws_of (lt_5 (List.mem_of_getElem? (i := 222) rfl)) rfl
theorem wst_yJ9_max_f86c9 : Cond.static yJ9_max_f86c9 ∈ WS := ws_of (lt_5 (List.mem_of_getElem? (i := 223) rfl)) rfl
theorem wc_yJ9_max_f86c9 : Cond.code yJ9_max_f86c9 cJ9_max_f86c9 4 (some .long) ∈ WS := ws_of (lt_5 (List.mem_of_getElem? (i := 224) rfl)) rfl
theorem wml_RL_149 : Cond.methodLink RL 149 yX11_mean ∈ WS := ws_of (lt_5 (List.mem_of_getElem? (i := 225) rfl)) rfl
theorem wi_yX11_mean : Cond.instanceMethod yX11_mean ∈ WS := ws_of (lt_5 (List.mem_of_getElem? (i := 226) rfl)) rfl
theorem wsel_yX11_mean : Cond.selects RX11 yX11_mean yX11_mean ∈ WS := ws_of (lt_5 (List.mem_of_getElem? (i := 227) rfl)) rfl
theorem wc_yX11_mean : Cond.code yX11_mean cX11_mean 6 (some .int) ∈ WS := ws_of (lt_5 (List.mem_of_getElem? (i := 228) rfl)) rfl
theorem wml_RX11_363 : Cond.methodLink RX11 363 yX1_chooseMean ∈ WS := ws_of (lt_5 (List.mem_of_getElem? (i := 229) rfl)) rfl
theorem wi_yX1_chooseMean : Cond.instanceMethod yX1_chooseMean ∈ WS := ws_of (lt_5 (List.mem_of_getElem? (i := 230) rfl)) rfl
theorem wsel_yX1_chooseMean : Cond.selects RX1 yX1_chooseMean yX1_chooseMean ∈ WS := ws_of (lt_5 (List.mem_of_getElem? (i := 231) rfl)) rfl
theorem wc_yX1_chooseMean : Cond.code yX1_chooseMean cX1_chooseMean 7 (some .long) ∈ WS := ws_of (lt_5 (List.mem_of_getElem? (i := 232) rfl)) rfl
theorem wk_RX1_158 : Cond.constantLong RX1 158 (1000000) ∈ WS := ws_of (lt_5 (List.mem_of_getElem? (i := 233) rfl)) rfl
theorem wml_RX1_163 : Cond.methodLink RX1 163 yX1_likelyThere ∈ WS := ws_of (lt_5 (List.mem_of_getElem? (i := 234) rfl)) rfl
theorem wi_yX1_likelyThere : Cond.instanceMethod yX1_likelyThere ∈ WS := ws_of (lt_5 (List.mem_of_getElem? (i := 236) rfl)) rfl
theorem wc_yX1_likelyThere : Cond.code yX1_likelyThere cX1_likelyThere 5 (some .long) ∈ WS := ws_of (lt_5 (List.mem_of_getElem? (i := 237) rfl)) rfl
theorem wml_RL_153 : Cond.methodLink RL 153 yX11_length ∈ WS := ws_of (lt_5 (List.mem_of_getElem? (i := 238) rfl)) rfl
theorem wi_yX11_length : Cond.instanceMethod yX11_length ∈ WS := ws_of (lt_5 (List.mem_of_getElem? (i := 239) rfl)) rfl
theorem wsel_yX11_length : Cond.selects RX11 yX11_length yX11_length ∈ WS := ws_of (lt_6 (List.mem_of_getElem? (i := 0) rfl)) rfl
theorem wc_yX11_length : Cond.code yX11_length cX11_length 1 (some .int) ∈ WS := ws_of (lt_6 (List.mem_of_getElem? (i := 1) rfl)) rfl
theorem wml_RL_157 : Cond.methodLink RL 157 yX11_way ∈ WS := ws_of (lt_6 (List.mem_of_getElem? (i := 2) rfl)) rfl
theorem wi_yX11_way : Cond.instanceMethod yX11_way ∈ WS := ws_of (lt_6 (List.mem_of_getElem? (i := 3) rfl)) rfl
theorem wsel_yX11_way : Cond.selects RX11 yX11_way yX11_way ∈ WS := ws_of (lt_6 (List.mem_of_getElem? (i := 4) rfl)) rfl
theorem wc_yX11_way : Cond.code yX11_way cX11_way 2 (some .int) ∈ WS := ws_of (lt_6 (List.mem_of_getElem? (i := 5) rfl)) rfl
theorem wml_RL_161 : Cond.methodLink RL 161 yX11_worth ∈ WS := ws_of (lt_6 (List.mem_of_getElem? (i := 6) rfl)) rfl
theorem wi_yX11_worth : Cond.instanceMethod yX11_worth ∈ WS := ws_of (lt_6 (List.mem_of_getElem? (i := 7) rfl)) rfl
theorem wsel_yX11_worth : Cond.selects RX11 yX11_worth yX11_worth ∈ WS := ws_of (lt_6 (List.mem_of_getElem? (i := 8) rfl)) rfl
theorem wc_yX11_worth : Cond.code yX11_worth cX11_worth 4 (some .boolean) ∈ WS := ws_of (lt_6 (List.mem_of_getElem? (i := 9) rfl)) rfl
theorem wml_RX11_373 : Cond.methodLink RX11 373 yX6_begin ∈ WS := ws_of (lt_6 (List.mem_of_getElem? (i := 10) rfl)) rfl
theorem wi_yX6_begin : Cond.instanceMethod yX6_begin ∈ WS := ws_of (lt_6 (List.mem_of_getElem? (i := 11) rfl)) rfl
theorem wsel_yX6_begin : Cond.selects RX6 yX6_begin yX6_begin ∈ WS := ws_of (lt_6 (List.mem_of_getElem? (i := 12) rfl)) rfl
theorem wc_yX6_begin : Cond.code yX6_begin cX6_begin 4 none ∈ WS := ws_of (lt_6 (List.mem_of_getElem? (i := 13) rfl)) rfl
theorem wml_RX6_38 : Cond.methodLink RX6 38 yX2_stageOn ∈ WS := ws_of (lt_6 (List.mem_of_getElem? (i := 14) rfl)) rfl
theorem wnl_RX6_48 : Cond.methodLinkNest RX6 48 yX11_copyParts "PoleRiver" ∈ lw_tbl := lt_6 (List.mem_of_getElem? (i := 15) rfl)
theorem wnl_RX11_377 : Cond.methodLinkNest RX11 377 yX6_worthOf "PoleRiver" ∈ lw_tbl := lt_6 (List.mem_of_getElem? (i := 16) rfl)
theorem wi_yX6_worthOf : Cond.instanceMethod yX6_worthOf ∈ WS := ws_of (lt_6 (List.mem_of_getElem? (i := 18) rfl)) rfl
theorem wc_yX6_worthOf : Cond.code yX6_worthOf cX6_worthOf 5 (some .long) ∈ WS := ws_of (lt_6 (List.mem_of_getElem? (i := 19) rfl)) rfl
theorem wml_RX6_61 : Cond.methodLink RX6 61 yJ9_max_7cf53 ∈ WS := ws_of (lt_6 (List.mem_of_getElem? (i := 20) rfl)) rfl
theorem wst_yJ9_max_7cf53 : Cond.static yJ9_max_7cf53 ∈ WS := ws_of (lt_6 (List.mem_of_getElem? (i := 21) rfl)) rfl
theorem wc_yJ9_max_7cf53 : Cond.code yJ9_max_7cf53 cJ9_max_7cf53 2 (some .int) ∈ WS := ws_of (lt_6 (List.mem_of_getElem? (i := 22) rfl)) rfl
theorem wml_RX6_67 : Cond.methodLink RX6 67 yX1_bestOf ∈ WS := ws_of (lt_6 (List.mem_of_getElem? (i := 23) rfl)) rfl
theorem wml_RX6_73 : Cond.methodLink RX6 73 yX6_worthAt ∈ WS := ws_of (lt_6 (List.mem_of_getElem? (i := 24) rfl)) rfl
theorem wi_yX6_worthAt : Cond.instanceMethod yX6_worthAt ∈ WS := ws_of (lt_6 (List.mem_of_getElem? (i := 26) rfl)) rfl
theorem wc_yX6_worthAt : Cond.code yX6_worthAt cX6_worthAt 12 (some .long) ∈ WS := ws_of (lt_6 (List.mem_of_getElem? (i := 27) rfl)) rfl
theorem wml_RX6_80 : Cond.methodLink RX6 80 yX2_depthAt ∈ WS := ws_of (lt_6 (List.mem_of_getElem? (i := 28) rfl)) rfl
theorem wml_RX6_87 : Cond.methodLink RX6 87 yX2_likelyRead ∈ WS := ws_of (lt_6 (List.mem_of_getElem? (i := 29) rfl)) rfl
theorem wml_RX6_90 : Cond.methodLink RX6 90 yX6_worthBehind ∈ WS := ws_of (lt_6 (List.mem_of_getElem? (i := 30) rfl)) rfl
theorem wi_yX6_worthBehind : Cond.instanceMethod yX6_worthBehind ∈ WS := ws_of (lt_6 (List.mem_of_getElem? (i := 32) rfl)) rfl
theorem wc_yX6_worthBehind : Cond.code yX6_worthBehind cX6_worthBehind 7 (some .long) ∈ WS := ws_of (lt_6 (List.mem_of_getElem? (i := 33) rfl)) rfl
theorem wml_RX6_94 : Cond.methodLink RX6 94 yX6_worthOf ∈ WS := ws_of (lt_6 (List.mem_of_getElem? (i := 34) rfl)) rfl
theorem wml_RX6_77 : Cond.methodLink RX6 77 yJ9_max_f86c9 ∈ WS := ws_of (lt_6 (List.mem_of_getElem? (i := 35) rfl)) rfl
theorem wml_RX11_381 : Cond.methodLink RX11 381 yX6_wholeOf ∈ WS := ws_of (lt_6 (List.mem_of_getElem? (i := 36) rfl)) rfl
theorem wi_yX6_wholeOf : Cond.instanceMethod yX6_wholeOf ∈ WS := ws_of (lt_6 (List.mem_of_getElem? (i := 37) rfl)) rfl
theorem wsel_yX6_wholeOf : Cond.selects RX6 yX6_wholeOf yX6_wholeOf ∈ WS := ws_of (lt_6 (List.mem_of_getElem? (i := 38) rfl)) rfl
theorem wc_yX6_wholeOf : Cond.code yX6_wholeOf cX6_wholeOf 2 (some .long) ∈ WS := ws_of (lt_6 (List.mem_of_getElem? (i := 39) rfl)) rfl
theorem wk_RX6_59 : Cond.constantLong RX6 59 (1000000) ∈ WS := ws_of (lt_6 (List.mem_of_getElem? (i := 40) rfl)) rfl
theorem wml_RL_165 : Cond.methodLink RL 165 yX11_next ∈ WS := ws_of (lt_6 (List.mem_of_getElem? (i := 41) rfl)) rfl
theorem wi_yX11_next : Cond.instanceMethod yX11_next ∈ WS := ws_of (lt_6 (List.mem_of_getElem? (i := 42) rfl)) rfl
theorem wsel_yX11_next : Cond.selects RX11 yX11_next yX11_next ∈ WS := ws_of (lt_6 (List.mem_of_getElem? (i := 43) rfl)) rfl
theorem wc_yX11_next : Cond.code yX11_next cX11_next 5 (some .int) ∈ WS := ws_of (lt_6 (List.mem_of_getElem? (i := 44) rfl)) rfl
theorem wml_RX11_384 : Cond.methodLink RX11 384 yX6_firstBest ∈ WS := ws_of (lt_6 (List.mem_of_getElem? (i := 45) rfl)) rfl
theorem wi_yX6_firstBest : Cond.instanceMethod yX6_firstBest ∈ WS := ws_of (lt_6 (List.mem_of_getElem? (i := 46) rfl)) rfl
theorem wsel_yX6_firstBest : Cond.selects RX6 yX6_firstBest yX6_firstBest ∈ WS := ws_of (lt_6 (List.mem_of_getElem? (i := 47) rfl)) rfl
theorem wc_yX6_firstBest : Cond.code yX6_firstBest cX6_firstBest 8 (some .int) ∈ WS := ws_of (lt_6 (List.mem_of_getElem? (i := 48) rfl)) rfl
theorem wml_RL_169 : Cond.methodLink RL 169 yX11_lieTo ∈ WS := ws_of (lt_6 (List.mem_of_getElem? (i := 49) rfl)) rfl
theorem wi_yX11_lieTo : Cond.instanceMethod yX11_lieTo ∈ WS := ws_of (lt_6 (List.mem_of_getElem? (i := 50) rfl)) rfl
theorem wsel_yX11_lieTo : Cond.selects RX11 yX11_lieTo yX11_lieTo ∈ WS := ws_of (lt_6 (List.mem_of_getElem? (i := 51) rfl)) rfl
theorem wc_yX11_lieTo : Cond.code yX11_lieTo cX11_lieTo 15 (some .int) ∈ WS := ws_of (lt_6 (List.mem_of_getElem? (i := 52) rfl)) rfl
theorem wk_RX11_387 : Cond.constant RX11 387 (999999) ∈ WS := ws_of (lt_6 (List.mem_of_getElem? (i := 53) rfl)) rfl
theorem wml_RX11_388 : Cond.methodLink RX11 388 yX11_copyParts ∈ WS := ws_of (lt_6 (List.mem_of_getElem? (i := 54) rfl)) rfl
theorem wml_RX11_392 : Cond.methodLink RX11 392 yX1_bestOf ∈ WS := ws_of (lt_6 (List.mem_of_getElem? (i := 55) rfl)) rfl
theorem wml_RL_174 : Cond.methodLink RL 174 yX11_marked ∈ WS := ws_of (lt_6 (List.mem_of_getElem? (i := 56) rfl)) rfl
theorem wi_yX11_marked : Cond.instanceMethod yX11_marked ∈ WS := ws_of (lt_6 (List.mem_of_getElem? (i := 57) rfl)) rfl
theorem wsel_yX11_marked : Cond.selects RX11 yX11_marked yX11_marked ∈ WS := ws_of (lt_6 (List.mem_of_getElem? (i := 58) rfl)) rfl
theorem wc_yX11_marked : Cond.code yX11_marked cX11_marked 11 (some .int) ∈ WS := ws_of (lt_6 (List.mem_of_getElem? (i := 59) rfl)) rfl
theorem wml_RX11_395 : Cond.methodLink RX11 395 yJ6_bitCount_0f7a4 ∈ WS := ws_of (lt_6 (List.mem_of_getElem? (i := 60) rfl)) rfl
theorem wst_yJ6_bitCount_0f7a4 : Cond.static yJ6_bitCount_0f7a4 ∈ WS := ws_of (lt_6 (List.mem_of_getElem? (i := 61) rfl)) rfl
theorem wc_yJ6_bitCount_0f7a4 : Cond.code yJ6_bitCount_0f7a4 cJ6_bitCount_0f7a4 1 (some .int) ∈ WS := ws_of (lt_6 (List.mem_of_getElem? (i := 62) rfl)) rfl
theorem wk_RJ6_265 : Cond.constant RJ6 265 (1431655765) ∈ WS := ws_of (lt_6 (List.mem_of_getElem? (i := 63) rfl)) rfl
theorem wk_RJ6_266 : Cond.constant RJ6 266 (858993459) ∈ WS := ws_of (lt_6 (List.mem_of_getElem? (i := 64) rfl)) rfl
theorem wk_RJ6_267 : Cond.constant RJ6 267 (252645135) ∈ WS := ws_of (lt_6 (List.mem_of_getElem? (i := 65) rfl)) rfl
theorem wml_RX11_400 : Cond.methodLink RX11 400 yX11_partsMarked ∈ WS := ws_of (lt_6 (List.mem_of_getElem? (i := 66) rfl)) rfl
theorem wi_yX11_partsMarked : Cond.instanceMethod yX11_partsMarked ∈ WS := ws_of (lt_6 (List.mem_of_getElem? (i := 68) rfl)) rfl
theorem wc_yX11_partsMarked : Cond.code yX11_partsMarked cX11_partsMarked 6 (some .long) ∈ WS := ws_of (lt_6 (List.mem_of_getElem? (i := 69) rfl)) rfl
theorem wml_RL_178 : Cond.methodLink RL 178 yX11_tells ∈ WS := ws_of (lt_6 (List.mem_of_getElem? (i := 70) rfl)) rfl
theorem wi_yX11_tells : Cond.instanceMethod yX11_tells ∈ WS := ws_of (lt_6 (List.mem_of_getElem? (i := 71) rfl)) rfl
theorem wsel_yX11_tells : Cond.selects RX11 yX11_tells yX11_tells ∈ WS := ws_of (lt_6 (List.mem_of_getElem? (i := 72) rfl)) rfl
theorem wc_yX11_tells : Cond.code yX11_tells cX11_tells 5 (some .boolean) ∈ WS := ws_of (lt_6 (List.mem_of_getElem? (i := 73) rfl)) rfl
theorem wml_RL_182 : Cond.methodLink RL 182 yX11_dredged ∈ WS := ws_of (lt_6 (List.mem_of_getElem? (i := 74) rfl)) rfl
theorem wi_yX11_dredged : Cond.instanceMethod yX11_dredged ∈ WS := ws_of (lt_6 (List.mem_of_getElem? (i := 75) rfl)) rfl
theorem wsel_yX11_dredged : Cond.selects RX11 yX11_dredged yX11_dredged ∈ WS := ws_of (lt_6 (List.mem_of_getElem? (i := 76) rfl)) rfl
theorem wc_yX11_dredged : Cond.code yX11_dredged cX11_dredged 10 (some .int) ∈ WS := ws_of (lt_6 (List.mem_of_getElem? (i := 77) rfl)) rfl
theorem wml_RX11_403 : Cond.methodLink RX11 403 yX11_partsDredged ∈ WS := ws_of (lt_6 (List.mem_of_getElem? (i := 78) rfl)) rfl
theorem wi_yX11_partsDredged : Cond.instanceMethod yX11_partsDredged ∈ WS := ws_of (lt_6 (List.mem_of_getElem? (i := 80) rfl)) rfl
theorem wc_yX11_partsDredged : Cond.code yX11_partsDredged cX11_partsDredged 4 (some .long) ∈ WS := ws_of (lt_6 (List.mem_of_getElem? (i := 81) rfl)) rfl
theorem wml_RL_186 : Cond.methodLink RL 186 yX11_brush ∈ WS := ws_of (lt_6 (List.mem_of_getElem? (i := 82) rfl)) rfl
theorem wi_yX11_brush : Cond.instanceMethod yX11_brush ∈ WS := ws_of (lt_6 (List.mem_of_getElem? (i := 83) rfl)) rfl
theorem wsel_yX11_brush : Cond.selects RX11 yX11_brush yX11_brush ∈ WS := ws_of (lt_6 (List.mem_of_getElem? (i := 84) rfl)) rfl
theorem wc_yX11_brush : Cond.code yX11_brush cX11_brush 7 (some .boolean) ∈ WS := ws_of (lt_6 (List.mem_of_getElem? (i := 85) rfl)) rfl
theorem wml_RL_190 : Cond.methodLink RL 190 yX11_lighten ∈ WS := ws_of (lt_6 (List.mem_of_getElem? (i := 86) rfl)) rfl
theorem wi_yX11_lighten : Cond.instanceMethod yX11_lighten ∈ WS := ws_of (lt_6 (List.mem_of_getElem? (i := 87) rfl)) rfl
theorem wsel_yX11_lighten : Cond.selects RX11 yX11_lighten yX11_lighten ∈ WS := ws_of (lt_6 (List.mem_of_getElem? (i := 88) rfl)) rfl
theorem wc_yX11_lighten : Cond.code yX11_lighten cX11_lighten 5 (some .int) ∈ WS := ws_of (lt_6 (List.mem_of_getElem? (i := 89) rfl)) rfl
theorem wk_RX11_406 : Cond.constantLong RX11 406 (16) ∈ WS := ws_of (lt_6 (List.mem_of_getElem? (i := 90) rfl)) rfl
theorem wml_RL_194 : Cond.methodLink RL 194 yX11_play ∈ WS := ws_of (lt_6 (List.mem_of_getElem? (i := 91) rfl)) rfl
theorem wi_yX11_play : Cond.instanceMethod yX11_play ∈ WS := ws_of (lt_6 (List.mem_of_getElem? (i := 92) rfl)) rfl
theorem wsel_yX11_play : Cond.selects RX11 yX11_play yX11_play ∈ WS := ws_of (lt_6 (List.mem_of_getElem? (i := 93) rfl)) rfl
theorem wc_yX11_play : Cond.code yX11_play cX11_play 5 (some .int) ∈ WS := ws_of (lt_6 (List.mem_of_getElem? (i := 94) rfl)) rfl
theorem wml_RX11_408 : Cond.methodLink RX11 408 yX0_begin ∈ WS := ws_of (lt_6 (List.mem_of_getElem? (i := 95) rfl)) rfl
theorem wi_yX0_begin : Cond.instanceMethod yX0_begin ∈ WS := ws_of (lt_6 (List.mem_of_getElem? (i := 96) rfl)) rfl
theorem wsel_yX0_begin : Cond.selects RX0 yX0_begin yX0_begin ∈ WS := ws_of (lt_6 (List.mem_of_getElem? (i := 97) rfl)) rfl
theorem wc_yX0_begin : Cond.code yX0_begin cX0_begin 5 none ∈ WS := ws_of (lt_6 (List.mem_of_getElem? (i := 98) rfl)) rfl
theorem wnl_RX0_61 : Cond.methodLinkNest RX0 61 yX11_copyParts "PoleRiver" ∈ lw_tbl := lt_6 (List.mem_of_getElem? (i := 99) rfl)
theorem wml_RX0_65 : Cond.methodLink RX0 65 yJ7_fill_53178 ∈ WS := ws_of (lt_6 (List.mem_of_getElem? (i := 100) rfl)) rfl
theorem wml_RX0_71 : Cond.methodLink RX0 71 yX0_drawTruth ∈ WS := ws_of (lt_6 (List.mem_of_getElem? (i := 101) rfl)) rfl
theorem wi_yX0_drawTruth : Cond.instanceMethod yX0_drawTruth ∈ WS := ws_of (lt_6 (List.mem_of_getElem? (i := 103) rfl)) rfl
theorem wc_yX0_drawTruth : Cond.code yX0_drawTruth cX0_drawTruth 6 (some .int) ∈ WS := ws_of (lt_6 (List.mem_of_getElem? (i := 104) rfl)) rfl
theorem wml_RX0_82 : Cond.methodLink RX0 82 yX0_draw ∈ WS := ws_of (lt_6 (List.mem_of_getElem? (i := 105) rfl)) rfl
theorem wi_yX0_draw : Cond.instanceMethod yX0_draw ∈ WS := ws_of (lt_6 (List.mem_of_getElem? (i := 107) rfl)) rfl
theorem wc_yX0_draw : Cond.code yX0_draw cX0_draw 2 (some .int) ∈ WS := ws_of (lt_6 (List.mem_of_getElem? (i := 108) rfl)) rfl
theorem wk_RX0_75 : Cond.constant RX0 75 (65536) ∈ WS := ws_of (lt_6 (List.mem_of_getElem? (i := 109) rfl)) rfl
theorem wml_RX0_76 : Cond.methodLink RX0 76 yJ9_max_7cf53 ∈ WS := ws_of (lt_6 (List.mem_of_getElem? (i := 110) rfl)) rfl
theorem wml_RX0_86 : Cond.methodLink RX0 86 yX2_setCount ∈ WS := ws_of (lt_6 (List.mem_of_getElem? (i := 111) rfl)) rfl
theorem wk_RX0_91 : Cond.constantLong RX0 91 (1000) ∈ WS := ws_of (lt_6 (List.mem_of_getElem? (i := 112) rfl)) rfl
theorem wml_RX11_411 : Cond.methodLink RX11 411 yX0_follow ∈ WS := ws_of (lt_6 (List.mem_of_getElem? (i := 113) rfl)) rfl
theorem wi_yX0_follow : Cond.instanceMethod yX0_follow ∈ WS := ws_of (lt_6 (List.mem_of_getElem? (i := 114) rfl)) rfl
theorem wsel_yX0_follow : Cond.selects RX0 yX0_follow yX0_follow ∈ WS := ws_of (lt_6 (List.mem_of_getElem? (i := 115) rfl)) rfl
theorem wc_yX0_follow : Cond.code yX0_follow cX0_follow 4 (some .int) ∈ WS := ws_of (lt_6 (List.mem_of_getElem? (i := 116) rfl)) rfl
theorem wk_RX0_93 : Cond.constant RX0 93 (1000000) ∈ WS := ws_of (lt_6 (List.mem_of_getElem? (i := 117) rfl)) rfl
theorem wml_RX0_102 : Cond.methodLink RX0 102 yX0_lineBehindEnd ∈ WS := ws_of (lt_6 (List.mem_of_getElem? (i := 118) rfl)) rfl
theorem wi_yX0_lineBehindEnd : Cond.instanceMethod yX0_lineBehindEnd ∈ WS := ws_of (lt_6 (List.mem_of_getElem? (i := 120) rfl)) rfl
theorem wc_yX0_lineBehindEnd : Cond.code yX0_lineBehindEnd cX0_lineBehindEnd 3 (some .int) ∈ WS := ws_of (lt_6 (List.mem_of_getElem? (i := 121) rfl)) rfl
theorem wml_RX0_105 : Cond.methodLink RX0 105 yX0_goThrough ∈ WS := ws_of (lt_6 (List.mem_of_getElem? (i := 122) rfl)) rfl
theorem wi_yX0_goThrough : Cond.instanceMethod yX0_goThrough ∈ WS := ws_of (lt_6 (List.mem_of_getElem? (i := 124) rfl)) rfl
theorem wc_yX0_goThrough : Cond.code yX0_goThrough cX0_goThrough 2 (some .int) ∈ WS := ws_of (lt_6 (List.mem_of_getElem? (i := 125) rfl)) rfl
theorem wml_RX0_184 : Cond.methodLink RX0 184 yX1_look ∈ WS := ws_of (lt_6 (List.mem_of_getElem? (i := 126) rfl)) rfl
theorem wml_RX0_190 : Cond.methodLink RX0 190 yX1_search ∈ WS := ws_of (lt_6 (List.mem_of_getElem? (i := 127) rfl)) rfl
theorem wml_RX0_206 : Cond.methodLink RX0 206 yX1_chooseSurest ∈ WS := ws_of (lt_6 (List.mem_of_getElem? (i := 128) rfl)) rfl
theorem wml_RX0_219 : Cond.methodLink RX0 219 yJ6_bitCount_0f7a4 ∈ WS := ws_of (lt_6 (List.mem_of_getElem? (i := 129) rfl)) rfl
theorem wml_RX0_108 : Cond.methodLink RX0 108 yX0_doStep ∈ WS := ws_of (lt_6 (List.mem_of_getElem? (i := 130) rfl)) rfl
theorem wi_yX0_doStep : Cond.instanceMethod yX0_doStep ∈ WS := ws_of (lt_6 (List.mem_of_getElem? (i := 132) rfl)) rfl
theorem wc_yX0_doStep : Cond.code yX0_doStep cX0_doStep 5 (some .int) ∈ WS := ws_of (lt_6 (List.mem_of_getElem? (i := 133) rfl)) rfl
theorem wml_RX0_120 : Cond.methodLink RX0 120 yX0_takeSounding ∈ WS := ws_of (lt_6 (List.mem_of_getElem? (i := 134) rfl)) rfl
theorem wi_yX0_takeSounding : Cond.instanceMethod yX0_takeSounding ∈ WS := ws_of (lt_6 (List.mem_of_getElem? (i := 136) rfl)) rfl
theorem wc_yX0_takeSounding : Cond.code yX0_takeSounding cX0_takeSounding 5 none ∈ WS := ws_of (lt_6 (List.mem_of_getElem? (i := 137) rfl)) rfl
theorem wml_RX0_148 : Cond.methodLink RX0 148 yX0_cellOf ∈ WS := ws_of (lt_6 (List.mem_of_getElem? (i := 138) rfl)) rfl
theorem wi_yX0_cellOf : Cond.instanceMethod yX0_cellOf ∈ WS := ws_of (lt_6 (List.mem_of_getElem? (i := 140) rfl)) rfl
theorem wc_yX0_cellOf : Cond.code yX0_cellOf cX0_cellOf 2 (some .int) ∈ WS := ws_of (lt_6 (List.mem_of_getElem? (i := 141) rfl)) rfl
theorem wml_RX0_151 : Cond.methodLink RX0 151 yX2_stageOn ∈ WS := ws_of (lt_6 (List.mem_of_getElem? (i := 142) rfl)) rfl
theorem wml_RX0_154 : Cond.methodLink RX0 154 yX2_depthAt ∈ WS := ws_of (lt_6 (List.mem_of_getElem? (i := 143) rfl)) rfl
theorem wml_RX0_161 : Cond.methodLink RX0 161 yX9_hearPole ∈ WS := ws_of (lt_6 (List.mem_of_getElem? (i := 144) rfl)) rfl
theorem wml_RX0_124 : Cond.methodLink RX0 124 yX0_takeColour ∈ WS := ws_of (lt_6 (List.mem_of_getElem? (i := 145) rfl)) rfl
theorem wi_yX0_takeColour : Cond.instanceMethod yX0_takeColour ∈ WS := ws_of (lt_6 (List.mem_of_getElem? (i := 147) rfl)) rfl
theorem wc_yX0_takeColour : Cond.code yX0_takeColour cX0_takeColour 5 none ∈ WS := ws_of (lt_6 (List.mem_of_getElem? (i := 148) rfl)) rfl
theorem wml_RX0_170 : Cond.methodLink RX0 170 yX9_seeWater ∈ WS := ws_of (lt_6 (List.mem_of_getElem? (i := 149) rfl)) rfl
theorem wml_RX0_127 : Cond.methodLink RX0 127 yX0_waitDay ∈ WS := ws_of (lt_6 (List.mem_of_getElem? (i := 150) rfl)) rfl
theorem wi_yX0_waitDay : Cond.instanceMethod yX0_waitDay ∈ WS := ws_of (lt_6 (List.mem_of_getElem? (i := 152) rfl)) rfl
theorem wc_yX0_waitDay : Cond.code yX0_waitDay cX0_waitDay 3 none ∈ WS := ws_of (lt_6 (List.mem_of_getElem? (i := 153) rfl)) rfl
theorem wml_RX0_180 : Cond.methodLink RX0 180 yX9_passDay ∈ WS := ws_of (lt_6 (List.mem_of_getElem? (i := 154) rfl)) rfl
theorem wml_RX0_133 : Cond.methodLink RX0 133 yJ9_min_7cf53 ∈ WS := ws_of (lt_6 (List.mem_of_getElem? (i := 155) rfl)) rfl
theorem wml_RX0_136 : Cond.methodLink RX0 136 yX0_putOff ∈ WS := ws_of (lt_6 (List.mem_of_getElem? (i := 156) rfl)) rfl
theorem wi_yX0_putOff : Cond.instanceMethod yX0_putOff ∈ WS := ws_of (lt_6 (List.mem_of_getElem? (i := 158) rfl)) rfl
theorem wc_yX0_putOff : Cond.code yX0_putOff cX0_putOff 2 none ∈ WS := ws_of (lt_6 (List.mem_of_getElem? (i := 159) rfl)) rfl
theorem wml_RX0_139 : Cond.methodLink RX0 139 yX0_isSo ∈ WS := ws_of (lt_6 (List.mem_of_getElem? (i := 160) rfl)) rfl
theorem wi_yX0_isSo : Cond.instanceMethod yX0_isSo ∈ WS := ws_of (lt_6 (List.mem_of_getElem? (i := 162) rfl)) rfl
theorem wc_yX0_isSo : Cond.code yX0_isSo cX0_isSo 6 (some .boolean) ∈ WS := ws_of (lt_6 (List.mem_of_getElem? (i := 163) rfl)) rfl
theorem wml_RX0_194 : Cond.methodLink RX0 194 yX1_bestOf ∈ WS := ws_of (lt_6 (List.mem_of_getElem? (i := 164) rfl)) rfl
theorem wk_RX0_198 : Cond.constantLong RX0 198 (16) ∈ WS := ws_of (lt_6 (List.mem_of_getElem? (i := 165) rfl)) rfl
theorem wk_RX0_200 : Cond.constantLong RX0 200 (1000000) ∈ WS := ws_of (lt_6 (List.mem_of_getElem? (i := 166) rfl)) rfl
theorem wml_RX0_202 : Cond.methodLink RX0 202 yX9_partsWith ∈ WS := ws_of (lt_6 (List.mem_of_getElem? (i := 167) rfl)) rfl
theorem wml_RL_198 : Cond.methodLink RL 198 yX11_played ∈ WS := ws_of (lt_6 (List.mem_of_getElem? (i := 168) rfl)) rfl
theorem wi_yX11_played : Cond.instanceMethod yX11_played ∈ WS := ws_of (lt_6 (List.mem_of_getElem? (i := 169) rfl)) rfl
theorem wsel_yX11_played : Cond.selects RX11 yX11_played yX11_played ∈ WS := ws_of (lt_6 (List.mem_of_getElem? (i := 170) rfl)) rfl
theorem wc_yX11_played : Cond.code yX11_played cX11_played 2 (some .int) ∈ WS := ws_of (lt_6 (List.mem_of_getElem? (i := 171) rfl)) rfl
theorem wml_RL_202 : Cond.methodLink RL 202 yX11_tally ∈ WS := ws_of (lt_6 (List.mem_of_getElem? (i := 172) rfl)) rfl
theorem wi_yX11_tally : Cond.instanceMethod yX11_tally ∈ WS := ws_of (lt_6 (List.mem_of_getElem? (i := 173) rfl)) rfl
theorem wsel_yX11_tally : Cond.selects RX11 yX11_tally yX11_tally ∈ WS := ws_of (lt_6 (List.mem_of_getElem? (i := 174) rfl)) rfl
theorem wc_yX11_tally : Cond.code yX11_tally cX11_tally 8 (some .int) ∈ WS := ws_of (lt_6 (List.mem_of_getElem? (i := 175) rfl)) rfl
theorem wml_RL_206 : Cond.methodLink RL 206 yX11_mark ∈ WS := ws_of (lt_6 (List.mem_of_getElem? (i := 176) rfl)) rfl
theorem wi_yX11_mark : Cond.instanceMethod yX11_mark ∈ WS := ws_of (lt_6 (List.mem_of_getElem? (i := 177) rfl)) rfl
theorem wsel_yX11_mark : Cond.selects RX11 yX11_mark yX11_mark ∈ WS := ws_of (lt_6 (List.mem_of_getElem? (i := 178) rfl)) rfl
theorem wc_yX11_mark : Cond.code yX11_mark cX11_mark 1 (some .int) ∈ WS := ws_of (lt_6 (List.mem_of_getElem? (i := 179) rfl)) rfl
theorem wml_RX11_417 : Cond.methodLink RX11 417 yX7_copyFrom ∈ WS := ws_of (lt_6 (List.mem_of_getElem? (i := 180) rfl)) rfl
theorem wi_yX7_copyFrom : Cond.instanceMethod yX7_copyFrom ∈ WS := ws_of (lt_6 (List.mem_of_getElem? (i := 181) rfl)) rfl
theorem wsel_yX7_copyFrom : Cond.selects RX7 yX7_copyFrom yX7_copyFrom ∈ WS := ws_of (lt_6 (List.mem_of_getElem? (i := 182) rfl)) rfl
theorem wc_yX7_copyFrom : Cond.code yX7_copyFrom cX7_copyFrom 2 none ∈ WS := ws_of (lt_6 (List.mem_of_getElem? (i := 183) rfl)) rfl
theorem wml_RX7_36 : Cond.methodLink RX7 36 yX2_copyFrom ∈ WS := ws_of (lt_6 (List.mem_of_getElem? (i := 184) rfl)) rfl
theorem wi_yX2_copyFrom : Cond.instanceMethod yX2_copyFrom ∈ WS := ws_of (lt_6 (List.mem_of_getElem? (i := 185) rfl)) rfl
theorem wsel_yX2_copyFrom : Cond.selects RX2 yX2_copyFrom yX2_copyFrom ∈ WS := ws_of (lt_6 (List.mem_of_getElem? (i := 186) rfl)) rfl
theorem wc_yX2_copyFrom : Cond.code yX2_copyFrom cX2_copyFrom 2 none ∈ WS := ws_of (lt_6 (List.mem_of_getElem? (i := 187) rfl)) rfl
theorem wml_RX2_83 : Cond.methodLink RX2 83 arraycopyName ∈ WS := ws_of (lt_6 (List.mem_of_getElem? (i := 188) rfl)) rfl
theorem wml_RX7_40 : Cond.methodLink RX7 40 yX4_copyFrom ∈ WS := ws_of (lt_6 (List.mem_of_getElem? (i := 189) rfl)) rfl
theorem wi_yX4_copyFrom : Cond.instanceMethod yX4_copyFrom ∈ WS := ws_of (lt_6 (List.mem_of_getElem? (i := 190) rfl)) rfl
theorem wsel_yX4_copyFrom : Cond.selects RX4 yX4_copyFrom yX4_copyFrom ∈ WS := ws_of (lt_6 (List.mem_of_getElem? (i := 191) rfl)) rfl
theorem wc_yX4_copyFrom : Cond.code yX4_copyFrom cX4_copyFrom 2 none ∈ WS := ws_of (lt_6 (List.mem_of_getElem? (i := 192) rfl)) rfl
theorem wml_RX4_31 : Cond.methodLink RX4 31 arraycopyName ∈ WS := ws_of (lt_6 (List.mem_of_getElem? (i := 193) rfl)) rfl
theorem wnl_RX7_43 : Cond.methodLinkNest RX7 43 yX11_copyParts "PoleRiver" ∈ lw_tbl := lt_6 (List.mem_of_getElem? (i := 194) rfl)
theorem wml_RL_210 : Cond.methodLink RL 210 yX11_back ∈ WS := ws_of (lt_6 (List.mem_of_getElem? (i := 195) rfl)) rfl
theorem wi_yX11_back : Cond.instanceMethod yX11_back ∈ WS := ws_of (lt_6 (List.mem_of_getElem? (i := 196) rfl)) rfl
theorem wsel_yX11_back : Cond.selects RX11 yX11_back yX11_back ∈ WS := ws_of (lt_6 (List.mem_of_getElem? (i := 197) rfl)) rfl
theorem wc_yX11_back : Cond.code yX11_back cX11_back 1 (some .int) ∈ WS := ws_of (lt_6 (List.mem_of_getElem? (i := 198) rfl)) rfl
theorem wcl_RL_10 : Cond.classLink RL 10 RX12 ∈ WS := ws_of (lt_6 (List.mem_of_getElem? (i := 199) rfl)) rfl
theorem wnew_RX12 : Cond.instantiable RX12 54 ∈ WS := ws_of (lt_6 (List.mem_of_getElem? (i := 200) rfl)) rfl
theorem wml_RL_12 : Cond.methodLink RL 12 yX12_init ∈ WS := ws_of (lt_6 (List.mem_of_getElem? (i := 201) rfl)) rfl
theorem wi_yX12_init : Cond.instanceMethod yX12_init ∈ WS := ws_of (lt_6 (List.mem_of_getElem? (i := 202) rfl)) rfl
theorem wc_yX12_init : Cond.code yX12_init cX12_init 1 none ∈ WS := ws_of (lt_6 (List.mem_of_getElem? (i := 203) rfl)) rfl
theorem wml_RX12_1 : Cond.methodLink RX12 1 Lib.objectInit ∈ WS := ws_of (lt_6 (List.mem_of_getElem? (i := 204) rfl)) rfl
theorem wml_RX12_87 : Cond.methodLink RX12 87 yX12_plain ∈ WS := ws_of (lt_6 (List.mem_of_getElem? (i := 205) rfl)) rfl
theorem wi_yX12_plain : Cond.instanceMethod yX12_plain ∈ WS := ws_of (lt_6 (List.mem_of_getElem? (i := 207) rfl)) rfl
theorem wc_yX12_plain : Cond.code yX12_plain cX12_plain 3 none ∈ WS := ws_of (lt_6 (List.mem_of_getElem? (i := 208) rfl)) rfl
theorem wk_RX12_91 : Cond.constant RX12 91 (1000000) ∈ WS := ws_of (lt_6 (List.mem_of_getElem? (i := 209) rfl)) rfl
theorem wf_RX12_7 : Cond.fieldLink RX12 7 "PoleRiverModel" "at" "[I" ∈ WS := ws_of (lt_6 (List.mem_of_getElem? (i := 210) rfl)) rfl
theorem wf_RX12_13 : Cond.fieldLink RX12 13 "PoleRiverModel" "names" "[J" ∈ WS := ws_of (lt_6 (List.mem_of_getElem? (i := 211) rfl)) rfl
theorem wf_RX12_92 : Cond.fieldLink RX12 92 "PoleRiverModel" "status" "I" ∈ WS := ws_of (lt_6 (List.mem_of_getElem? (i := 212) rfl)) rfl
theorem wf_RX12_95 : Cond.fieldLink RX12 95 "PoleRiverModel" "top" "J" ∈ WS := ws_of (lt_6 (List.mem_of_getElem? (i := 213) rfl)) rfl
theorem wf_RX12_17 : Cond.fieldLink RX12 17 "PoleRiverModel" "bottom" "J" ∈ WS := ws_of (lt_6 (List.mem_of_getElem? (i := 214) rfl)) rfl
theorem wf_RX12_21 : Cond.fieldLink RX12 21 "PoleRiverModel" "sort" "[I" ∈ WS := ws_of (lt_6 (List.mem_of_getElem? (i := 215) rfl)) rfl
theorem wf_RX12_24 : Cond.fieldLink RX12 24 "PoleRiverModel" "trayMany" "[I" ∈ WS := ws_of (lt_6 (List.mem_of_getElem? (i := 216) rfl)) rfl
theorem wf_RX12_27 : Cond.fieldLink RX12 27 "PoleRiverModel" "trays" "[J" ∈ WS := ws_of (lt_6 (List.mem_of_getElem? (i := 217) rfl)) rfl
theorem wf_RX12_30 : Cond.fieldLink RX12 30 "PoleRiverModel" "tape" "[B" ∈ WS := ws_of (lt_6 (List.mem_of_getElem? (i := 218) rfl)) rfl
theorem wf_RX12_34 : Cond.fieldLink RX12 34 "PoleRiverModel" "text" "[B" ∈ WS := ws_of (lt_6 (List.mem_of_getElem? (i := 219) rfl)) rfl
theorem wf_RX12_115 : Cond.fieldLink RX12 115 "PoleRiverModel" "taped" "I" ∈ WS := ws_of (lt_6 (List.mem_of_getElem? (i := 220) rfl)) rfl
theorem wf_RX12_121 : Cond.fieldLink RX12 121 "PoleRiverModel" "size" "I" ∈ WS := ws_of (lt_6 (List.mem_of_getElem? (i := 221) rfl)) rfl
theorem wf_RX12_137 : Cond.fieldLink RX12 137 "PoleRiverModel" "token" "I" ∈ WS := ws_of (lt_6 (List.mem_of_getElem? (i := 222) rfl)) rfl
theorem wf_RX12_131 : Cond.fieldLink RX12 131 "PoleRiverModel" "from" "I" ∈ WS := ws_of (lt_6 (List.mem_of_getElem? (i := 223) rfl)) rfl
theorem wf_RX12_124 : Cond.fieldLink RX12 124 "PoleRiverModel" "end" "I" ∈ WS := ws_of (lt_6 (List.mem_of_getElem? (i := 224) rfl)) rfl
theorem wf_RX12_134 : Cond.fieldLink RX12 134 "PoleRiverModel" "value" "I" ∈ WS := ws_of (lt_6 (List.mem_of_getElem? (i := 225) rfl)) rfl
theorem wf_RX12_37 : Cond.fieldLink RX12 37 "PoleRiverModel" "faultKind" "I" ∈ WS := ws_of (lt_6 (List.mem_of_getElem? (i := 226) rfl)) rfl
theorem wf_RX12_41 : Cond.fieldLink RX12 41 "PoleRiverModel" "faultPlace" "I" ∈ WS := ws_of (lt_6 (List.mem_of_getElem? (i := 227) rfl)) rfl
theorem wf_RX12_162 : Cond.fieldLink RX12 162 "PoleRiverModel" "faults" "I" ∈ WS := ws_of (lt_6 (List.mem_of_getElem? (i := 228) rfl)) rfl
theorem wf_RX12_165 : Cond.fieldLink RX12 165 "PoleRiverModel" "seen" "I" ∈ WS := ws_of (lt_6 (List.mem_of_getElem? (i := 229) rfl)) rfl
theorem wf_RX12_191 : Cond.fieldLink RX12 191 "PoleRiverModel" "rowsTold" "I" ∈ WS := ws_of (lt_6 (List.mem_of_getElem? (i := 230) rfl)) rfl
theorem wf_RX12_44 : Cond.fieldLink RX12 44 "PoleRiverModel" "corner" "[I" ∈ WS := ws_of (lt_6 (List.mem_of_getElem? (i := 231) rfl)) rfl
theorem wf_RX12_240 : Cond.fieldLink RX12 240 "PoleRiverModel" "version" "I" ∈ WS := ws_of (lt_6 (List.mem_of_getElem? (i := 232) rfl)) rfl
theorem wf_RX12_47 : Cond.fieldLink RX12 47 "PoleRiverModel" "opened" "[I" ∈ WS := ws_of (lt_6 (List.mem_of_getElem? (i := 233) rfl)) rfl
theorem wf_RX12_251 : Cond.fieldLink RX12 251 "PoleRiverModel" "depth" "I" ∈ WS := ws_of (lt_6 (List.mem_of_getElem? (i := 234) rfl)) rfl
theorem wf_RX12_254 : Cond.fieldLink RX12 254 "PoleRiverModel" "steps" "I" ∈ WS := ws_of (lt_6 (List.mem_of_getElem? (i := 235) rfl)) rfl
theorem wf_RX12_50 : Cond.fieldLink RX12 50 "PoleRiverModel" "weights" "[J" ∈ WS := ws_of (lt_6 (List.mem_of_getElem? (i := 236) rfl)) rfl
theorem wf_RX12_53 : Cond.fieldLink RX12 53 "PoleRiverModel" "others" "[J" ∈ WS := ws_of (lt_6 (List.mem_of_getElem? (i := 237) rfl)) rfl
theorem wf_RX12_56 : Cond.fieldLink RX12 56 "PoleRiverModel" "minutesTo" "[I" ∈ WS := ws_of (lt_6 (List.mem_of_getElem? (i := 238) rfl)) rfl
theorem wf_RX12_59 : Cond.fieldLink RX12 59 "PoleRiverModel" "mayGo" "[Z" ∈ WS := ws_of (lt_6 (List.mem_of_getElem? (i := 239) rfl)) rfl
theorem wf_RX12_63 : Cond.fieldLink RX12 63 "PoleRiverModel" "fewest" "[I" ∈ WS := ws_of (lt_7 (List.mem_of_getElem? (i := 0) rfl)) rfl
theorem wf_RX12_66 : Cond.fieldLink RX12 66 "PoleRiverModel" "keptFrom" "I" ∈ WS := ws_of (lt_7 (List.mem_of_getElem? (i := 1) rfl)) rfl
theorem wf_RX12_356 : Cond.fieldLink RX12 356 "PoleRiverModel" "keptTo" "I" ∈ WS := ws_of (lt_7 (List.mem_of_getElem? (i := 2) rfl)) rfl
theorem wf_RX12_359 : Cond.fieldLink RX12 359 "PoleRiverModel" "keptNeed" "I" ∈ WS := ws_of (lt_7 (List.mem_of_getElem? (i := 3) rfl)) rfl
theorem wf_RX12_362 : Cond.fieldLink RX12 362 "PoleRiverModel" "keptVersion" "I" ∈ WS := ws_of (lt_7 (List.mem_of_getElem? (i := 4) rfl)) rfl
theorem wf_RX12_69 : Cond.fieldLink RX12 69 "PoleRiverModel" "wayCell" "[I" ∈ WS := ws_of (lt_7 (List.mem_of_getElem? (i := 5) rfl)) rfl
theorem wf_RX12_368 : Cond.fieldLink RX12 368 "PoleRiverModel" "wayMany" "I" ∈ WS := ws_of (lt_7 (List.mem_of_getElem? (i := 6) rfl)) rfl
theorem wf_RX12_72 : Cond.fieldLink RX12 72 "PoleRiverModel" "level" "[J" ∈ WS := ws_of (lt_7 (List.mem_of_getElem? (i := 7) rfl)) rfl
theorem wf_RX12_75 : Cond.fieldLink RX12 75 "PoleRiverModel" "keptParts" "[I" ∈ WS := ws_of (lt_7 (List.mem_of_getElem? (i := 8) rfl)) rfl
theorem wf_RX12_433 : Cond.fieldLink RX12 433 "PoleRiverModel" "keptDay" "I" ∈ WS := ws_of (lt_7 (List.mem_of_getElem? (i := 9) rfl)) rfl
theorem wf_RX12_436 : Cond.fieldLink RX12 436 "PoleRiverModel" "keptOff" "I" ∈ WS := ws_of (lt_7 (List.mem_of_getElem? (i := 10) rfl)) rfl
theorem wf_RX12_455 : Cond.fieldLink RX12 455 "PoleRiverModel" "drawn" "I" ∈ WS := ws_of (lt_7 (List.mem_of_getElem? (i := 11) rfl)) rfl
theorem wf_RX12_462 : Cond.fieldLink RX12 462 "PoleRiverModel" "truth" "I" ∈ WS := ws_of (lt_7 (List.mem_of_getElem? (i := 12) rfl)) rfl
theorem wf_RX12_467 : Cond.fieldLink RX12 467 "PoleRiverModel" "ranMinutes" "I" ∈ WS := ws_of (lt_7 (List.mem_of_getElem? (i := 13) rfl)) rfl
theorem wf_RX12_497 : Cond.fieldLink RX12 497 "PoleRiverModel" "ranSteps" "I" ∈ WS := ws_of (lt_7 (List.mem_of_getElem? (i := 14) rfl)) rfl
theorem wf_RX12_470 : Cond.fieldLink RX12 470 "PoleRiverModel" "ranSounded" "I" ∈ WS := ws_of (lt_7 (List.mem_of_getElem? (i := 15) rfl)) rfl
theorem wf_RX12_473 : Cond.fieldLink RX12 473 "PoleRiverModel" "ranDays" "I" ∈ WS := ws_of (lt_7 (List.mem_of_getElem? (i := 16) rfl)) rfl
theorem wf_RX12_476 : Cond.fieldLink RX12 476 "PoleRiverModel" "ranWent" "I" ∈ WS := ws_of (lt_7 (List.mem_of_getElem? (i := 17) rfl)) rfl
theorem wf_RX12_509 : Cond.fieldLink RX12 509 "PoleRiverModel" "ranLeft" "I" ∈ WS := ws_of (lt_7 (List.mem_of_getElem? (i := 18) rfl)) rfl
theorem wf_RX12_78 : Cond.fieldLink RX12 78 "PoleRiverModel" "ranEnd" "I" ∈ WS := ws_of (lt_7 (List.mem_of_getElem? (i := 19) rfl)) rfl
theorem wf_RX12_81 : Cond.fieldLink RX12 81 "PoleRiverModel" "rounds" "[I" ∈ WS := ws_of (lt_7 (List.mem_of_getElem? (i := 20) rfl)) rfl
theorem wf_RX12_84 : Cond.fieldLink RX12 84 "PoleRiverModel" "played" "[I" ∈ WS := ws_of (lt_7 (List.mem_of_getElem? (i := 21) rfl)) rfl
theorem wf_RX12_520 : Cond.fieldLink RX12 520 "PoleRiverModel" "isPlayed" "Z" ∈ WS := ws_of (lt_7 (List.mem_of_getElem? (i := 22) rfl)) rfl
theorem wf_RX12_524 : Cond.fieldLink RX12 524 "PoleRiverModel" "marks" "I" ∈ WS := ws_of (lt_7 (List.mem_of_getElem? (i := 23) rfl)) rfl
theorem wly_RX12_at : Cond.laysFinal RX12 "PoleRiverModel" "at" "[I" ∈ WS := ws_of (lt_7 (List.mem_of_getElem? (i := 24) rfl)) rfl
theorem wly_RX12_names : Cond.laysFinal RX12 "PoleRiverModel" "names" "[J" ∈ WS := ws_of (lt_7 (List.mem_of_getElem? (i := 26) rfl)) rfl
theorem wly_RX12_status : Cond.lays RX12 "PoleRiverModel" "status" "I" ∈ WS := ws_of (lt_7 (List.mem_of_getElem? (i := 28) rfl)) rfl
theorem wly_RX12_top : Cond.lays RX12 "PoleRiverModel" "top" "J" ∈ WS := ws_of (lt_7 (List.mem_of_getElem? (i := 30) rfl)) rfl
theorem wly_RX12_bottom : Cond.lays RX12 "PoleRiverModel" "bottom" "J" ∈ WS := ws_of (lt_7 (List.mem_of_getElem? (i := 32) rfl)) rfl
theorem wly_RX12_sort : Cond.laysFinal RX12 "PoleRiverModel" "sort" "[I" ∈ WS := ws_of (lt_7 (List.mem_of_getElem? (i := 34) rfl)) rfl
theorem wly_RX12_trayMany : Cond.laysFinal RX12 "PoleRiverModel" "trayMany" "[I" ∈ WS := ws_of (lt_7 (List.mem_of_getElem? (i := 36) rfl)) rfl
theorem wly_RX12_trays : Cond.laysFinal RX12 "PoleRiverModel" "trays" "[J" ∈ WS := ws_of (lt_7 (List.mem_of_getElem? (i := 38) rfl)) rfl
theorem wly_RX12_tape : Cond.laysFinal RX12 "PoleRiverModel" "tape" "[B" ∈ WS := ws_of (lt_7 (List.mem_of_getElem? (i := 40) rfl)) rfl
theorem wly_RX12_text : Cond.laysFinal RX12 "PoleRiverModel" "text" "[B" ∈ WS := ws_of (lt_7 (List.mem_of_getElem? (i := 42) rfl)) rfl
theorem wly_RX12_taped : Cond.lays RX12 "PoleRiverModel" "taped" "I" ∈ WS := ws_of (lt_7 (List.mem_of_getElem? (i := 44) rfl)) rfl
theorem wly_RX12_size : Cond.lays RX12 "PoleRiverModel" "size" "I" ∈ WS := ws_of (lt_7 (List.mem_of_getElem? (i := 46) rfl)) rfl
theorem wly_RX12_token : Cond.lays RX12 "PoleRiverModel" "token" "I" ∈ WS := ws_of (lt_7 (List.mem_of_getElem? (i := 48) rfl)) rfl
theorem wly_RX12_from : Cond.lays RX12 "PoleRiverModel" "from" "I" ∈ WS := ws_of (lt_7 (List.mem_of_getElem? (i := 50) rfl)) rfl
theorem wly_RX12_end : Cond.lays RX12 "PoleRiverModel" "end" "I" ∈ WS := ws_of (lt_7 (List.mem_of_getElem? (i := 52) rfl)) rfl
theorem wly_RX12_value : Cond.lays RX12 "PoleRiverModel" "value" "I" ∈ WS := ws_of (lt_7 (List.mem_of_getElem? (i := 54) rfl)) rfl
theorem wly_RX12_faultKind : Cond.lays RX12 "PoleRiverModel" "faultKind" "I" ∈ WS := ws_of (lt_7 (List.mem_of_getElem? (i := 56) rfl)) rfl
theorem wly_RX12_faultPlace : Cond.lays RX12 "PoleRiverModel" "faultPlace" "I" ∈ WS := ws_of (lt_7 (List.mem_of_getElem? (i := 58) rfl)) rfl
theorem wly_RX12_faults : Cond.lays RX12 "PoleRiverModel" "faults" "I" ∈ WS := ws_of (lt_7 (List.mem_of_getElem? (i := 60) rfl)) rfl
theorem wly_RX12_seen : Cond.lays RX12 "PoleRiverModel" "seen" "I" ∈ WS := ws_of (lt_7 (List.mem_of_getElem? (i := 62) rfl)) rfl
theorem wly_RX12_rowsTold : Cond.lays RX12 "PoleRiverModel" "rowsTold" "I" ∈ WS := ws_of (lt_7 (List.mem_of_getElem? (i := 64) rfl)) rfl
theorem wly_RX12_corner : Cond.laysFinal RX12 "PoleRiverModel" "corner" "[I" ∈ WS := ws_of (lt_7 (List.mem_of_getElem? (i := 66) rfl)) rfl
theorem wly_RX12_version : Cond.lays RX12 "PoleRiverModel" "version" "I" ∈ WS := ws_of (lt_7 (List.mem_of_getElem? (i := 68) rfl)) rfl
theorem wly_RX12_opened : Cond.laysFinal RX12 "PoleRiverModel" "opened" "[I" ∈ WS := ws_of (lt_7 (List.mem_of_getElem? (i := 70) rfl)) rfl
theorem wly_RX12_depth : Cond.lays RX12 "PoleRiverModel" "depth" "I" ∈ WS := ws_of (lt_7 (List.mem_of_getElem? (i := 72) rfl)) rfl
theorem wly_RX12_steps : Cond.lays RX12 "PoleRiverModel" "steps" "I" ∈ WS := ws_of (lt_7 (List.mem_of_getElem? (i := 74) rfl)) rfl
theorem wly_RX12_weights : Cond.laysFinal RX12 "PoleRiverModel" "weights" "[J" ∈ WS := ws_of (lt_7 (List.mem_of_getElem? (i := 76) rfl)) rfl
theorem wly_RX12_others : Cond.laysFinal RX12 "PoleRiverModel" "others" "[J" ∈ WS := ws_of (lt_7 (List.mem_of_getElem? (i := 78) rfl)) rfl
theorem wly_RX12_minutesTo : Cond.laysFinal RX12 "PoleRiverModel" "minutesTo" "[I" ∈ WS := ws_of (lt_7 (List.mem_of_getElem? (i := 80) rfl)) rfl
theorem wly_RX12_mayGo : Cond.laysFinal RX12 "PoleRiverModel" "mayGo" "[Z" ∈ WS := ws_of (lt_7 (List.mem_of_getElem? (i := 82) rfl)) rfl
theorem wly_RX12_fewest : Cond.laysFinal RX12 "PoleRiverModel" "fewest" "[I" ∈ WS := ws_of (lt_7 (List.mem_of_getElem? (i := 84) rfl)) rfl
theorem wly_RX12_keptFrom : Cond.lays RX12 "PoleRiverModel" "keptFrom" "I" ∈ WS := ws_of (lt_7 (List.mem_of_getElem? (i := 86) rfl)) rfl
theorem wly_RX12_keptTo : Cond.lays RX12 "PoleRiverModel" "keptTo" "I" ∈ WS := ws_of (lt_7 (List.mem_of_getElem? (i := 88) rfl)) rfl
theorem wly_RX12_keptNeed : Cond.lays RX12 "PoleRiverModel" "keptNeed" "I" ∈ WS := ws_of (lt_7 (List.mem_of_getElem? (i := 90) rfl)) rfl
theorem wly_RX12_keptVersion : Cond.lays RX12 "PoleRiverModel" "keptVersion" "I" ∈ WS := ws_of (lt_7 (List.mem_of_getElem? (i := 92) rfl)) rfl
theorem wly_RX12_wayCell : Cond.laysFinal RX12 "PoleRiverModel" "wayCell" "[I" ∈ WS := ws_of (lt_7 (List.mem_of_getElem? (i := 94) rfl)) rfl
theorem wly_RX12_wayMany : Cond.lays RX12 "PoleRiverModel" "wayMany" "I" ∈ WS := ws_of (lt_7 (List.mem_of_getElem? (i := 96) rfl)) rfl
theorem wly_RX12_level : Cond.laysFinal RX12 "PoleRiverModel" "level" "[J" ∈ WS := ws_of (lt_7 (List.mem_of_getElem? (i := 98) rfl)) rfl
theorem wly_RX12_keptParts : Cond.laysFinal RX12 "PoleRiverModel" "keptParts" "[I" ∈ WS := ws_of (lt_7 (List.mem_of_getElem? (i := 100) rfl)) rfl
theorem wly_RX12_keptDay : Cond.lays RX12 "PoleRiverModel" "keptDay" "I" ∈ WS := ws_of (lt_7 (List.mem_of_getElem? (i := 102) rfl)) rfl
theorem wly_RX12_keptOff : Cond.lays RX12 "PoleRiverModel" "keptOff" "I" ∈ WS := ws_of (lt_7 (List.mem_of_getElem? (i := 104) rfl)) rfl
theorem wly_RX12_drawn : Cond.lays RX12 "PoleRiverModel" "drawn" "I" ∈ WS := ws_of (lt_7 (List.mem_of_getElem? (i := 106) rfl)) rfl
theorem wly_RX12_truth : Cond.lays RX12 "PoleRiverModel" "truth" "I" ∈ WS := ws_of (lt_7 (List.mem_of_getElem? (i := 108) rfl)) rfl
theorem wly_RX12_ranMinutes : Cond.lays RX12 "PoleRiverModel" "ranMinutes" "I" ∈ WS := ws_of (lt_7 (List.mem_of_getElem? (i := 110) rfl)) rfl
theorem wly_RX12_ranSteps : Cond.lays RX12 "PoleRiverModel" "ranSteps" "I" ∈ WS := ws_of (lt_7 (List.mem_of_getElem? (i := 112) rfl)) rfl
theorem wly_RX12_ranSounded : Cond.lays RX12 "PoleRiverModel" "ranSounded" "I" ∈ WS := ws_of (lt_7 (List.mem_of_getElem? (i := 114) rfl)) rfl
theorem wly_RX12_ranDays : Cond.lays RX12 "PoleRiverModel" "ranDays" "I" ∈ WS := ws_of (lt_7 (List.mem_of_getElem? (i := 116) rfl)) rfl
theorem wly_RX12_ranWent : Cond.lays RX12 "PoleRiverModel" "ranWent" "I" ∈ WS := ws_of (lt_7 (List.mem_of_getElem? (i := 118) rfl)) rfl
theorem wly_RX12_ranLeft : Cond.lays RX12 "PoleRiverModel" "ranLeft" "I" ∈ WS := ws_of (lt_7 (List.mem_of_getElem? (i := 120) rfl)) rfl
theorem wly_RX12_ranEnd : Cond.lays RX12 "PoleRiverModel" "ranEnd" "I" ∈ WS := ws_of (lt_7 (List.mem_of_getElem? (i := 122) rfl)) rfl
theorem wly_RX12_rounds : Cond.laysFinal RX12 "PoleRiverModel" "rounds" "[I" ∈ WS := ws_of (lt_7 (List.mem_of_getElem? (i := 124) rfl)) rfl
theorem wly_RX12_played : Cond.laysFinal RX12 "PoleRiverModel" "played" "[I" ∈ WS := ws_of (lt_7 (List.mem_of_getElem? (i := 126) rfl)) rfl
theorem wly_RX12_isPlayed : Cond.lays RX12 "PoleRiverModel" "isPlayed" "Z" ∈ WS := ws_of (lt_7 (List.mem_of_getElem? (i := 128) rfl)) rfl
theorem wly_RX12_marks : Cond.lays RX12 "PoleRiverModel" "marks" "I" ∈ WS := ws_of (lt_7 (List.mem_of_getElem? (i := 130) rfl)) rfl
theorem wml_RL_17 : Cond.methodLink RL 17 yX12_status ∈ WS := ws_of (lt_7 (List.mem_of_getElem? (i := 133) rfl)) rfl
theorem wi_yX12_status : Cond.instanceMethod yX12_status ∈ WS := ws_of (lt_7 (List.mem_of_getElem? (i := 134) rfl)) rfl
theorem wsel_yX12_status : Cond.selects RX12 yX12_status yX12_status ∈ WS := ws_of (lt_7 (List.mem_of_getElem? (i := 135) rfl)) rfl
theorem wc_yX12_status : Cond.code yX12_status cX12_status 1 (some .int) ∈ WS := ws_of (lt_7 (List.mem_of_getElem? (i := 136) rfl)) rfl
theorem wml_RL_22 : Cond.methodLink RL 22 yX12_top ∈ WS := ws_of (lt_7 (List.mem_of_getElem? (i := 137) rfl)) rfl
theorem wi_yX12_top : Cond.instanceMethod yX12_top ∈ WS := ws_of (lt_7 (List.mem_of_getElem? (i := 138) rfl)) rfl
theorem wsel_yX12_top : Cond.selects RX12 yX12_top yX12_top ∈ WS := ws_of (lt_7 (List.mem_of_getElem? (i := 139) rfl)) rfl
theorem wc_yX12_top : Cond.code yX12_top cX12_top 1 (some .long) ∈ WS := ws_of (lt_7 (List.mem_of_getElem? (i := 140) rfl)) rfl
theorem wml_RL_26 : Cond.methodLink RL 26 yX12_bottom ∈ WS := ws_of (lt_7 (List.mem_of_getElem? (i := 141) rfl)) rfl
theorem wi_yX12_bottom : Cond.instanceMethod yX12_bottom ∈ WS := ws_of (lt_7 (List.mem_of_getElem? (i := 142) rfl)) rfl
theorem wsel_yX12_bottom : Cond.selects RX12 yX12_bottom yX12_bottom ∈ WS := ws_of (lt_7 (List.mem_of_getElem? (i := 143) rfl)) rfl
theorem wc_yX12_bottom : Cond.code yX12_bottom cX12_bottom 1 (some .long) ∈ WS := ws_of (lt_7 (List.mem_of_getElem? (i := 144) rfl)) rfl
theorem wml_RL_31 : Cond.methodLink RL 31 yX12_tray ∈ WS := ws_of (lt_7 (List.mem_of_getElem? (i := 145) rfl)) rfl
theorem wi_yX12_tray : Cond.instanceMethod yX12_tray ∈ WS := ws_of (lt_7 (List.mem_of_getElem? (i := 146) rfl)) rfl
theorem wsel_yX12_tray : Cond.selects RX12 yX12_tray yX12_tray ∈ WS := ws_of (lt_7 (List.mem_of_getElem? (i := 147) rfl)) rfl
theorem wc_yX12_tray : Cond.code yX12_tray cX12_tray 5 (some .boolean) ∈ WS := ws_of (lt_7 (List.mem_of_getElem? (i := 148) rfl)) rfl
theorem wml_RX12_102 : Cond.methodLink RX12 102 yX12_isTray ∈ WS := ws_of (lt_7 (List.mem_of_getElem? (i := 149) rfl)) rfl
theorem wst_yX12_isTray : Cond.static yX12_isTray ∈ WS := ws_of (lt_7 (List.mem_of_getElem? (i := 150) rfl)) rfl
theorem wc_yX12_isTray : Cond.code yX12_isTray cX12_isTray 1 (some .boolean) ∈ WS := ws_of (lt_7 (List.mem_of_getElem? (i := 151) rfl)) rfl
theorem wml_RX12_98 : Cond.methodLink RX12 98 yX12_is ∈ WS := ws_of (lt_7 (List.mem_of_getElem? (i := 152) rfl)) rfl
theorem wi_yX12_is : Cond.instanceMethod yX12_is ∈ WS := ws_of (lt_7 (List.mem_of_getElem? (i := 154) rfl)) rfl
theorem wc_yX12_is : Cond.code yX12_is cX12_is 2 (some .boolean) ∈ WS := ws_of (lt_7 (List.mem_of_getElem? (i := 155) rfl)) rfl
theorem wml_RL_38 : Cond.methodLink RL 38 yX12_write ∈ WS := ws_of (lt_7 (List.mem_of_getElem? (i := 156) rfl)) rfl
theorem wi_yX12_write : Cond.instanceMethod yX12_write ∈ WS := ws_of (lt_7 (List.mem_of_getElem? (i := 157) rfl)) rfl
theorem wsel_yX12_write : Cond.selects RX12 yX12_write yX12_write ∈ WS := ws_of (lt_7 (List.mem_of_getElem? (i := 158) rfl)) rfl
theorem wc_yX12_write : Cond.code yX12_write cX12_write 6 (some .boolean) ∈ WS := ws_of (lt_7 (List.mem_of_getElem? (i := 159) rfl)) rfl
theorem wml_RX12_105 : Cond.methodLink RX12 105 yX12_wrongPlace ∈ WS := ws_of (lt_7 (List.mem_of_getElem? (i := 160) rfl)) rfl
theorem wi_yX12_wrongPlace : Cond.instanceMethod yX12_wrongPlace ∈ WS := ws_of (lt_7 (List.mem_of_getElem? (i := 162) rfl)) rfl
theorem wc_yX12_wrongPlace : Cond.code yX12_wrongPlace cX12_wrongPlace 3 (some .int) ∈ WS := ws_of (lt_7 (List.mem_of_getElem? (i := 163) rfl)) rfl
theorem wml_RX12_109 : Cond.methodLink RX12 109 yX12_cut ∈ WS := ws_of (lt_7 (List.mem_of_getElem? (i := 164) rfl)) rfl
theorem wst_yX12_cut : Cond.static yX12_cut ∈ WS := ws_of (lt_7 (List.mem_of_getElem? (i := 165) rfl)) rfl
theorem wc_yX12_cut : Cond.code yX12_cut cX12_cut 3 (some .long) ∈ WS := ws_of (lt_7 (List.mem_of_getElem? (i := 166) rfl)) rfl
theorem wml_RL_43 : Cond.methodLink RL 43 yX12_read ∈ WS := ws_of (lt_7 (List.mem_of_getElem? (i := 167) rfl)) rfl
theorem wi_yX12_read : Cond.instanceMethod yX12_read ∈ WS := ws_of (lt_7 (List.mem_of_getElem? (i := 168) rfl)) rfl
theorem wsel_yX12_read : Cond.selects RX12 yX12_read yX12_read ∈ WS := ws_of (lt_7 (List.mem_of_getElem? (i := 169) rfl)) rfl
theorem wc_yX12_read : Cond.code yX12_read cX12_read 3 (some .long) ∈ WS := ws_of (lt_7 (List.mem_of_getElem? (i := 170) rfl)) rfl
theorem wk_RX12_113 : Cond.constantLong RX12 113 (-1) ∈ WS := ws_of (lt_7 (List.mem_of_getElem? (i := 171) rfl)) rfl
theorem wml_RL_48 : Cond.methodLink RL 48 yX12_pour ∈ WS := ws_of (lt_7 (List.mem_of_getElem? (i := 172) rfl)) rfl
theorem wi_yX12_pour : Cond.instanceMethod yX12_pour ∈ WS := ws_of (lt_7 (List.mem_of_getElem? (i := 173) rfl)) rfl
theorem wsel_yX12_pour : Cond.selects RX12 yX12_pour yX12_pour ∈ WS := ws_of (lt_7 (List.mem_of_getElem? (i := 174) rfl)) rfl
theorem wc_yX12_pour : Cond.code yX12_pour cX12_pour 8 (some .boolean) ∈ WS := ws_of (lt_7 (List.mem_of_getElem? (i := 175) rfl)) rfl
theorem wml_RL_53 : Cond.methodLink RL 53 yX12_feed ∈ WS := ws_of (lt_7 (List.mem_of_getElem? (i := 176) rfl)) rfl
theorem wi_yX12_feed : Cond.instanceMethod yX12_feed ∈ WS := ws_of (lt_7 (List.mem_of_getElem? (i := 177) rfl)) rfl
theorem wsel_yX12_feed : Cond.selects RX12 yX12_feed yX12_feed ∈ WS := ws_of (lt_7 (List.mem_of_getElem? (i := 178) rfl)) rfl
theorem wc_yX12_feed : Cond.code yX12_feed cX12_feed 6 (some .int) ∈ WS := ws_of (lt_7 (List.mem_of_getElem? (i := 179) rfl)) rfl
theorem wml_RX12_118 : Cond.methodLink RX12 118 yX12_four ∈ WS := ws_of (lt_7 (List.mem_of_getElem? (i := 180) rfl)) rfl
theorem wi_yX12_four : Cond.instanceMethod yX12_four ∈ WS := ws_of (lt_7 (List.mem_of_getElem? (i := 182) rfl)) rfl
theorem wc_yX12_four : Cond.code yX12_four cX12_four 3 none ∈ WS := ws_of (lt_7 (List.mem_of_getElem? (i := 183) rfl)) rfl
theorem wml_RL_66 : Cond.methodLink RL 66 yX12_fault ∈ WS := ws_of (lt_7 (List.mem_of_getElem? (i := 184) rfl)) rfl
theorem wi_yX12_fault : Cond.instanceMethod yX12_fault ∈ WS := ws_of (lt_7 (List.mem_of_getElem? (i := 185) rfl)) rfl
theorem wsel_yX12_fault : Cond.selects RX12 yX12_fault yX12_fault ∈ WS := ws_of (lt_7 (List.mem_of_getElem? (i := 186) rfl)) rfl
theorem wc_yX12_fault : Cond.code yX12_fault cX12_fault 2 (some .int) ∈ WS := ws_of (lt_7 (List.mem_of_getElem? (i := 187) rfl)) rfl
theorem wml_RL_58 : Cond.methodLink RL 58 yX12_river ∈ WS := ws_of (lt_7 (List.mem_of_getElem? (i := 188) rfl)) rfl
theorem wi_yX12_river : Cond.instanceMethod yX12_river ∈ WS := ws_of (lt_7 (List.mem_of_getElem? (i := 189) rfl)) rfl
theorem wsel_yX12_river : Cond.selects RX12 yX12_river yX12_river ∈ WS := ws_of (lt_7 (List.mem_of_getElem? (i := 190) rfl)) rfl
theorem wc_yX12_river : Cond.code yX12_river cX12_river 4 (some .int) ∈ WS := ws_of (lt_7 (List.mem_of_getElem? (i := 191) rfl)) rfl
theorem wml_RX12_230 : Cond.methodLink RX12 230 yX12_begins ∈ WS := ws_of (lt_7 (List.mem_of_getElem? (i := 192) rfl)) rfl
theorem wi_yX12_begins : Cond.instanceMethod yX12_begins ∈ WS := ws_of (lt_7 (List.mem_of_getElem? (i := 194) rfl)) rfl
theorem wc_yX12_begins : Cond.code yX12_begins cX12_begins 4 (some .boolean) ∈ WS := ws_of (lt_7 (List.mem_of_getElem? (i := 195) rfl)) rfl
theorem wml_RX12_168 : Cond.methodLink RX12 168 yX12_ahead ∈ WS := ws_of (lt_7 (List.mem_of_getElem? (i := 196) rfl)) rfl
theorem wi_yX12_ahead : Cond.instanceMethod yX12_ahead ∈ WS := ws_of (lt_7 (List.mem_of_getElem? (i := 198) rfl)) rfl
theorem wc_yX12_ahead : Cond.code yX12_ahead cX12_ahead 2 none ∈ WS := ws_of (lt_7 (List.mem_of_getElem? (i := 199) rfl)) rfl
theorem wml_RX12_127 : Cond.methodLink RX12 127 yX12_byteAt ∈ WS := ws_of (lt_7 (List.mem_of_getElem? (i := 200) rfl)) rfl
theorem wi_yX12_byteAt : Cond.instanceMethod yX12_byteAt ∈ WS := ws_of (lt_7 (List.mem_of_getElem? (i := 202) rfl)) rfl
theorem wc_yX12_byteAt : Cond.code yX12_byteAt cX12_byteAt 2 (some .int) ∈ WS := ws_of (lt_7 (List.mem_of_getElem? (i := 203) rfl)) rfl
theorem wml_RX12_140 : Cond.methodLink RX12 140 yX12_isSmall ∈ WS := ws_of (lt_7 (List.mem_of_getElem? (i := 204) rfl)) rfl
theorem wst_yX12_isSmall : Cond.static yX12_isSmall ∈ WS := ws_of (lt_7 (List.mem_of_getElem? (i := 205) rfl)) rfl
theorem wc_yX12_isSmall : Cond.code yX12_isSmall cX12_isSmall 1 (some .boolean) ∈ WS := ws_of (lt_7 (List.mem_of_getElem? (i := 206) rfl)) rfl
theorem wml_RX12_143 : Cond.methodLink RX12 143 yX12_isDigit ∈ WS := ws_of (lt_7 (List.mem_of_getElem? (i := 207) rfl)) rfl
theorem wst_yX12_isDigit : Cond.static yX12_isDigit ∈ WS := ws_of (lt_7 (List.mem_of_getElem? (i := 208) rfl)) rfl
theorem wc_yX12_isDigit : Cond.code yX12_isDigit cX12_isDigit 1 (some .boolean) ∈ WS := ws_of (lt_7 (List.mem_of_getElem? (i := 209) rfl)) rfl
theorem wk_RX12_146 : Cond.constant RX12 146 (100000) ∈ WS := ws_of (lt_7 (List.mem_of_getElem? (i := 210) rfl)) rfl
theorem wml_RX12_147 : Cond.methodLink RX12 147 yJ9_min_7cf53 ∈ WS := ws_of (lt_7 (List.mem_of_getElem? (i := 211) rfl)) rfl
theorem wml_RX12_185 : Cond.methodLink RX12 185 yX12_refuse ∈ WS := ws_of (lt_7 (List.mem_of_getElem? (i := 212) rfl)) rfl
theorem wi_yX12_refuse : Cond.instanceMethod yX12_refuse ∈ WS := ws_of (lt_7 (List.mem_of_getElem? (i := 214) rfl)) rfl
theorem wc_yX12_refuse : Cond.code yX12_refuse cX12_refuse 2 (some .int) ∈ WS := ws_of (lt_7 (List.mem_of_getElem? (i := 215) rfl)) rfl
theorem wml_RX12_203 : Cond.methodLink RX12 203 yX12_wantWord ∈ WS := ws_of (lt_7 (List.mem_of_getElem? (i := 217) rfl)) rfl
theorem wi_yX12_wantWord : Cond.instanceMethod yX12_wantWord ∈ WS := ws_of (lt_7 (List.mem_of_getElem? (i := 219) rfl)) rfl
theorem wc_yX12_wantWord : Cond.code yX12_wantWord cX12_wantWord 3 (some .boolean) ∈ WS := ws_of (lt_7 (List.mem_of_getElem? (i := 220) rfl)) rfl
theorem wml_RX12_177 : Cond.methodLink RX12 177 yX12_inWords ∈ WS := ws_of (lt_7 (List.mem_of_getElem? (i := 221) rfl)) rfl
theorem wi_yX12_inWords : Cond.instanceMethod yX12_inWords ∈ WS := ws_of (lt_7 (List.mem_of_getElem? (i := 223) rfl)) rfl
theorem wc_yX12_inWords : Cond.code yX12_inWords cX12_inWords 7 (some .int) ∈ WS := ws_of (lt_7 (List.mem_of_getElem? (i := 224) rfl)) rfl
theorem wml_RX12_152 : Cond.methodLink RX12 152 yJ0_length_8abf5 ∈ WS := ws_of (lt_7 (List.mem_of_getElem? (i := 225) rfl)) rfl
theorem wml_RX12_158 : Cond.methodLink RX12 158 yJ0_charAt_5068e ∈ WS := ws_of (lt_7 (List.mem_of_getElem? (i := 226) rfl)) rfl
theorem wml_RX12_174 : Cond.methodLink RX12 174 yX12_fails ∈ WS := ws_of (lt_7 (List.mem_of_getElem? (i := 227) rfl)) rfl
theorem wi_yX12_fails : Cond.instanceMethod yX12_fails ∈ WS := ws_of (lt_7 (List.mem_of_getElem? (i := 229) rfl)) rfl
theorem wc_yX12_fails : Cond.code yX12_fails cX12_fails 2 (some .boolean) ∈ WS := ws_of (lt_7 (List.mem_of_getElem? (i := 230) rfl)) rfl
theorem wml_RX12_207 : Cond.methodLink RX12 207 yX12_number ∈ WS := ws_of (lt_7 (List.mem_of_getElem? (i := 231) rfl)) rfl
theorem wi_yX12_number : Cond.instanceMethod yX12_number ∈ WS := ws_of (lt_7 (List.mem_of_getElem? (i := 233) rfl)) rfl
theorem wc_yX12_number : Cond.code yX12_number cX12_number 4 (some .boolean) ∈ WS := ws_of (lt_7 (List.mem_of_getElem? (i := 234) rfl)) rfl
theorem wml_RX12_227 : Cond.methodLink RX12 227 yX12_wantSign ∈ WS := ws_of (lt_7 (List.mem_of_getElem? (i := 235) rfl)) rfl
theorem wi_yX12_wantSign : Cond.instanceMethod yX12_wantSign ∈ WS := ws_of (lt_7 (List.mem_of_getElem? (i := 237) rfl)) rfl
theorem wc_yX12_wantSign : Cond.code yX12_wantSign cX12_wantSign 2 (some .boolean) ∈ WS := ws_of (lt_7 (List.mem_of_getElem? (i := 238) rfl)) rfl
theorem wml_RX12_171 : Cond.methodLink RX12 171 yX12_isSign ∈ WS := ws_of (lt_7 (List.mem_of_getElem? (i := 239) rfl)) rfl
theorem wi_yX12_isSign : Cond.instanceMethod yX12_isSign ∈ WS := ws_of (lt_8 (List.mem_of_getElem? (i := 1) rfl)) rfl
theorem wc_yX12_isSign : Cond.code yX12_isSign cX12_isSign 2 (some .boolean) ∈ WS := ws_of (lt_8 (List.mem_of_getElem? (i := 2) rfl)) rfl
theorem wml_RX12_234 : Cond.methodLink RX12 234 yX12_riverPart ∈ WS := ws_of (lt_8 (List.mem_of_getElem? (i := 3) rfl)) rfl
theorem wi_yX12_riverPart : Cond.instanceMethod yX12_riverPart ∈ WS := ws_of (lt_8 (List.mem_of_getElem? (i := 5) rfl)) rfl
theorem wc_yX12_riverPart : Cond.code yX12_riverPart cX12_riverPart 3 (some .boolean) ∈ WS := ws_of (lt_8 (List.mem_of_getElem? (i := 6) rfl)) rfl
theorem wml_RX12_211 : Cond.methodLink RX12 211 yX12_aRow ∈ WS := ws_of (lt_8 (List.mem_of_getElem? (i := 7) rfl)) rfl
theorem wi_yX12_aRow : Cond.instanceMethod yX12_aRow ∈ WS := ws_of (lt_8 (List.mem_of_getElem? (i := 9) rfl)) rfl
theorem wc_yX12_aRow : Cond.code yX12_aRow cX12_aRow 2 (some .boolean) ∈ WS := ws_of (lt_8 (List.mem_of_getElem? (i := 10) rfl)) rfl
theorem wml_RX12_215 : Cond.methodLink RX12 215 yX12_aBar ∈ WS := ws_of (lt_8 (List.mem_of_getElem? (i := 11) rfl)) rfl
theorem wi_yX12_aBar : Cond.instanceMethod yX12_aBar ∈ WS := ws_of (lt_8 (List.mem_of_getElem? (i := 13) rfl)) rfl
theorem wc_yX12_aBar : Cond.code yX12_aBar cX12_aBar 4 (some .boolean) ∈ WS := ws_of (lt_8 (List.mem_of_getElem? (i := 14) rfl)) rfl
theorem wml_RX12_196 : Cond.methodLink RX12 196 yX12_isName ∈ WS := ws_of (lt_8 (List.mem_of_getElem? (i := 15) rfl)) rfl
theorem wi_yX12_isName : Cond.instanceMethod yX12_isName ∈ WS := ws_of (lt_8 (List.mem_of_getElem? (i := 17) rfl)) rfl
theorem wc_yX12_isName : Cond.code yX12_isName cX12_isName 2 (some .boolean) ∈ WS := ws_of (lt_8 (List.mem_of_getElem? (i := 18) rfl)) rfl
theorem wml_RX12_200 : Cond.methodLink RX12 200 yX12_findHere ∈ WS := ws_of (lt_8 (List.mem_of_getElem? (i := 19) rfl)) rfl
theorem wi_yX12_findHere : Cond.instanceMethod yX12_findHere ∈ WS := ws_of (lt_8 (List.mem_of_getElem? (i := 21) rfl)) rfl
theorem wc_yX12_findHere : Cond.code yX12_findHere cX12_findHere 4 (some .int) ∈ WS := ws_of (lt_8 (List.mem_of_getElem? (i := 22) rfl)) rfl
theorem wml_RX12_181 : Cond.methodLink RX12 181 yX12_nameHere ∈ WS := ws_of (lt_8 (List.mem_of_getElem? (i := 23) rfl)) rfl
theorem wi_yX12_nameHere : Cond.instanceMethod yX12_nameHere ∈ WS := ws_of (lt_8 (List.mem_of_getElem? (i := 25) rfl)) rfl
theorem wc_yX12_nameHere : Cond.code yX12_nameHere cX12_nameHere 4 (some .long) ∈ WS := ws_of (lt_8 (List.mem_of_getElem? (i := 26) rfl)) rfl
theorem wml_RX12_218 : Cond.methodLink RX12 218 yX12_someCells ∈ WS := ws_of (lt_8 (List.mem_of_getElem? (i := 27) rfl)) rfl
theorem wi_yX12_someCells : Cond.instanceMethod yX12_someCells ∈ WS := ws_of (lt_8 (List.mem_of_getElem? (i := 29) rfl)) rfl
theorem wc_yX12_someCells : Cond.code yX12_someCells cX12_someCells 6 (some .boolean) ∈ WS := ws_of (lt_8 (List.mem_of_getElem? (i := 30) rfl)) rfl
theorem wml_RX12_221 : Cond.methodLink RX12 221 yX12_someStages ∈ WS := ws_of (lt_8 (List.mem_of_getElem? (i := 31) rfl)) rfl
theorem wi_yX12_someStages : Cond.instanceMethod yX12_someStages ∈ WS := ws_of (lt_8 (List.mem_of_getElem? (i := 33) rfl)) rfl
theorem wc_yX12_someStages : Cond.code yX12_someStages cX12_someStages 4 (some .boolean) ∈ WS := ws_of (lt_8 (List.mem_of_getElem? (i := 34) rfl)) rfl
theorem wml_RX12_224 : Cond.methodLink RX12 224 yX12_aBoat ∈ WS := ws_of (lt_8 (List.mem_of_getElem? (i := 35) rfl)) rfl
theorem wi_yX12_aBoat : Cond.instanceMethod yX12_aBoat ∈ WS := ws_of (lt_8 (List.mem_of_getElem? (i := 37) rfl)) rfl
theorem wc_yX12_aBoat : Cond.code yX12_aBoat cX12_aBoat 1 (some .boolean) ∈ WS := ws_of (lt_8 (List.mem_of_getElem? (i := 38) rfl)) rfl
theorem wml_RX12_237 : Cond.methodLink RX12 237 yX12_first ∈ WS := ws_of (lt_8 (List.mem_of_getElem? (i := 39) rfl)) rfl
theorem wi_yX12_first : Cond.instanceMethod yX12_first ∈ WS := ws_of (lt_8 (List.mem_of_getElem? (i := 41) rfl)) rfl
theorem wc_yX12_first : Cond.code yX12_first cX12_first 3 none ∈ WS := ws_of (lt_8 (List.mem_of_getElem? (i := 42) rfl)) rfl
theorem wml_RX12_263 : Cond.methodLink RX12 263 yX12_sets ∈ WS := ws_of (lt_8 (List.mem_of_getElem? (i := 43) rfl)) rfl
theorem wi_yX12_sets : Cond.instanceMethod yX12_sets ∈ WS := ws_of (lt_8 (List.mem_of_getElem? (i := 45) rfl)) rfl
theorem wc_yX12_sets : Cond.code yX12_sets cX12_sets 1 (some .int) ∈ WS := ws_of (lt_8 (List.mem_of_getElem? (i := 46) rfl)) rfl
theorem wml_RX12_269 : Cond.methodLink RX12 269 yX12_ofBar ∈ WS := ws_of (lt_8 (List.mem_of_getElem? (i := 47) rfl)) rfl
theorem wi_yX12_ofBar : Cond.instanceMethod yX12_ofBar ∈ WS := ws_of (lt_8 (List.mem_of_getElem? (i := 49) rfl)) rfl
theorem wc_yX12_ofBar : Cond.code yX12_ofBar cX12_ofBar 3 (some .int) ∈ WS := ws_of (lt_8 (List.mem_of_getElem? (i := 50) rfl)) rfl
theorem wml_RX12_302 : Cond.methodLink RX12 302 yX12_sharesOut ∈ WS := ws_of (lt_8 (List.mem_of_getElem? (i := 51) rfl)) rfl
theorem wi_yX12_sharesOut : Cond.instanceMethod yX12_sharesOut ∈ WS := ws_of (lt_8 (List.mem_of_getElem? (i := 53) rfl)) rfl
theorem wc_yX12_sharesOut : Cond.code yX12_sharesOut cX12_sharesOut 6 (some .boolean) ∈ WS := ws_of (lt_8 (List.mem_of_getElem? (i := 54) rfl)) rfl
theorem wk_RX12_300 : Cond.constantLong RX12 300 (1000000) ∈ WS := ws_of (lt_8 (List.mem_of_getElem? (i := 55) rfl)) rfl
theorem wml_RX12_243 : Cond.methodLink RX12 243 yX12_cells ∈ WS := ws_of (lt_8 (List.mem_of_getElem? (i := 56) rfl)) rfl
theorem wi_yX12_cells : Cond.instanceMethod yX12_cells ∈ WS := ws_of (lt_8 (List.mem_of_getElem? (i := 58) rfl)) rfl
theorem wc_yX12_cells : Cond.code yX12_cells cX12_cells 1 (some .int) ∈ WS := ws_of (lt_8 (List.mem_of_getElem? (i := 59) rfl)) rfl
theorem wml_RX12_246 : Cond.methodLink RX12 246 yX12_taken ∈ WS := ws_of (lt_8 (List.mem_of_getElem? (i := 60) rfl)) rfl
theorem wi_yX12_taken : Cond.instanceMethod yX12_taken ∈ WS := ws_of (lt_8 (List.mem_of_getElem? (i := 62) rfl)) rfl
theorem wc_yX12_taken : Cond.code yX12_taken cX12_taken 2 (some .int) ∈ WS := ws_of (lt_8 (List.mem_of_getElem? (i := 63) rfl)) rfl
theorem wml_RX12_188 : Cond.methodLink RX12 188 yX12_gives ∈ WS := ws_of (lt_8 (List.mem_of_getElem? (i := 64) rfl)) rfl
theorem wi_yX12_gives : Cond.instanceMethod yX12_gives ∈ WS := ws_of (lt_8 (List.mem_of_getElem? (i := 66) rfl)) rfl
theorem wc_yX12_gives : Cond.code yX12_gives cX12_gives 2 (some .int) ∈ WS := ws_of (lt_8 (List.mem_of_getElem? (i := 67) rfl)) rfl
theorem wml_RL_62 : Cond.methodLink RL 62 yX12_rule ∈ WS := ws_of (lt_8 (List.mem_of_getElem? (i := 68) rfl)) rfl
theorem wi_yX12_rule : Cond.instanceMethod yX12_rule ∈ WS := ws_of (lt_8 (List.mem_of_getElem? (i := 69) rfl)) rfl
theorem wsel_yX12_rule : Cond.selects RX12 yX12_rule yX12_rule ∈ WS := ws_of (lt_8 (List.mem_of_getElem? (i := 70) rfl)) rfl
theorem wc_yX12_rule : Cond.code yX12_rule cX12_rule 4 (some .int) ∈ WS := ws_of (lt_8 (List.mem_of_getElem? (i := 71) rfl)) rfl
theorem wml_RX12_260 : Cond.methodLink RX12 260 yX12_step ∈ WS := ws_of (lt_8 (List.mem_of_getElem? (i := 72) rfl)) rfl
theorem wi_yX12_step : Cond.instanceMethod yX12_step ∈ WS := ws_of (lt_8 (List.mem_of_getElem? (i := 74) rfl)) rfl
theorem wc_yX12_step : Cond.code yX12_step cX12_step 7 (some .boolean) ∈ WS := ws_of (lt_8 (List.mem_of_getElem? (i := 75) rfl)) rfl
theorem wml_RX12_257 : Cond.methodLink RX12 257 yX12_ruleName ∈ WS := ws_of (lt_8 (List.mem_of_getElem? (i := 77) rfl)) rfl
theorem wi_yX12_ruleName : Cond.instanceMethod yX12_ruleName ∈ WS := ws_of (lt_8 (List.mem_of_getElem? (i := 79) rfl)) rfl
theorem wc_yX12_ruleName : Cond.code yX12_ruleName cX12_ruleName 3 (some .boolean) ∈ WS := ws_of (lt_8 (List.mem_of_getElem? (i := 80) rfl)) rfl
theorem wml_RL_70 : Cond.methodLink RL 70 yX12_told ∈ WS := ws_of (lt_8 (List.mem_of_getElem? (i := 81) rfl)) rfl
theorem wi_yX12_told : Cond.instanceMethod yX12_told ∈ WS := ws_of (lt_8 (List.mem_of_getElem? (i := 82) rfl)) rfl
theorem wsel_yX12_told : Cond.selects RX12 yX12_told yX12_told ∈ WS := ws_of (lt_8 (List.mem_of_getElem? (i := 83) rfl)) rfl
theorem wc_yX12_told : Cond.code yX12_told cX12_told 2 (some .int) ∈ WS := ws_of (lt_8 (List.mem_of_getElem? (i := 84) rfl)) rfl
theorem wml_RL_75 : Cond.methodLink RL 75 yX12_bar ∈ WS := ws_of (lt_8 (List.mem_of_getElem? (i := 85) rfl)) rfl
theorem wi_yX12_bar : Cond.instanceMethod yX12_bar ∈ WS := ws_of (lt_8 (List.mem_of_getElem? (i := 86) rfl)) rfl
theorem wsel_yX12_bar : Cond.selects RX12 yX12_bar yX12_bar ∈ WS := ws_of (lt_8 (List.mem_of_getElem? (i := 87) rfl)) rfl
theorem wc_yX12_bar : Cond.code yX12_bar cX12_bar 5 (some .int) ∈ WS := ws_of (lt_8 (List.mem_of_getElem? (i := 88) rfl)) rfl
theorem wml_RX12_266 : Cond.methodLink RX12 266 yX12_isBar ∈ WS := ws_of (lt_8 (List.mem_of_getElem? (i := 89) rfl)) rfl
theorem wi_yX12_isBar : Cond.instanceMethod yX12_isBar ∈ WS := ws_of (lt_8 (List.mem_of_getElem? (i := 91) rfl)) rfl
theorem wc_yX12_isBar : Cond.code yX12_isBar cX12_isBar 2 (some .boolean) ∈ WS := ws_of (lt_8 (List.mem_of_getElem? (i := 92) rfl)) rfl
theorem wml_RX12_272 : Cond.methodLink RX12 272 yX12_cellOf ∈ WS := ws_of (lt_8 (List.mem_of_getElem? (i := 93) rfl)) rfl
theorem wi_yX12_cellOf : Cond.instanceMethod yX12_cellOf ∈ WS := ws_of (lt_8 (List.mem_of_getElem? (i := 95) rfl)) rfl
theorem wc_yX12_cellOf : Cond.code yX12_cellOf cX12_cellOf 3 (some .int) ∈ WS := ws_of (lt_8 (List.mem_of_getElem? (i := 96) rfl)) rfl
theorem wml_RL_79 : Cond.methodLink RL 79 yX12_barOf ∈ WS := ws_of (lt_8 (List.mem_of_getElem? (i := 97) rfl)) rfl
theorem wi_yX12_barOf : Cond.instanceMethod yX12_barOf ∈ WS := ws_of (lt_8 (List.mem_of_getElem? (i := 98) rfl)) rfl
theorem wsel_yX12_barOf : Cond.selects RX12 yX12_barOf yX12_barOf ∈ WS := ws_of (lt_8 (List.mem_of_getElem? (i := 99) rfl)) rfl
theorem wc_yX12_barOf : Cond.code yX12_barOf cX12_barOf 2 (some .int) ∈ WS := ws_of (lt_8 (List.mem_of_getElem? (i := 100) rfl)) rfl
theorem wml_RX12_275 : Cond.methodLink RX12 275 yX12_isCell ∈ WS := ws_of (lt_8 (List.mem_of_getElem? (i := 101) rfl)) rfl
theorem wi_yX12_isCell : Cond.instanceMethod yX12_isCell ∈ WS := ws_of (lt_8 (List.mem_of_getElem? (i := 103) rfl)) rfl
theorem wc_yX12_isCell : Cond.code yX12_isCell cX12_isCell 3 (some .boolean) ∈ WS := ws_of (lt_8 (List.mem_of_getElem? (i := 104) rfl)) rfl
theorem wml_RL_83 : Cond.methodLink RL 83 yX12_stage ∈ WS := ws_of (lt_8 (List.mem_of_getElem? (i := 105) rfl)) rfl
theorem wi_yX12_stage : Cond.instanceMethod yX12_stage ∈ WS := ws_of (lt_8 (List.mem_of_getElem? (i := 106) rfl)) rfl
theorem wsel_yX12_stage : Cond.selects RX12 yX12_stage yX12_stage ∈ WS := ws_of (lt_8 (List.mem_of_getElem? (i := 107) rfl)) rfl
theorem wc_yX12_stage : Cond.code yX12_stage cX12_stage 2 (some .int) ∈ WS := ws_of (lt_8 (List.mem_of_getElem? (i := 108) rfl)) rfl
theorem wk_RX12_279 : Cond.constantLong RX12 279 (99) ∈ WS := ws_of (lt_8 (List.mem_of_getElem? (i := 109) rfl)) rfl
theorem wml_RX12_281 : Cond.methodLink RX12 281 yX12_isFrom ∈ WS := ws_of (lt_8 (List.mem_of_getElem? (i := 110) rfl)) rfl
theorem wst_yX12_isFrom : Cond.static yX12_isFrom ∈ WS := ws_of (lt_8 (List.mem_of_getElem? (i := 111) rfl)) rfl
theorem wc_yX12_isFrom : Cond.code yX12_isFrom cX12_isFrom 6 (some .boolean) ∈ WS := ws_of (lt_8 (List.mem_of_getElem? (i := 112) rfl)) rfl
theorem wml_RX12_285 : Cond.methodLink RX12 285 yX12_stageOf ∈ WS := ws_of (lt_8 (List.mem_of_getElem? (i := 113) rfl)) rfl
theorem wi_yX12_stageOf : Cond.instanceMethod yX12_stageOf ∈ WS := ws_of (lt_8 (List.mem_of_getElem? (i := 115) rfl)) rfl
theorem wc_yX12_stageOf : Cond.code yX12_stageOf cX12_stageOf 2 (some .int) ∈ WS := ws_of (lt_8 (List.mem_of_getElem? (i := 116) rfl)) rfl
theorem wml_RL_87 : Cond.methodLink RL 87 yX12_depth ∈ WS := ws_of (lt_8 (List.mem_of_getElem? (i := 117) rfl)) rfl
theorem wi_yX12_depth : Cond.instanceMethod yX12_depth ∈ WS := ws_of (lt_8 (List.mem_of_getElem? (i := 118) rfl)) rfl
theorem wsel_yX12_depth : Cond.selects RX12 yX12_depth yX12_depth ∈ WS := ws_of (lt_8 (List.mem_of_getElem? (i := 119) rfl)) rfl
theorem wc_yX12_depth : Cond.code yX12_depth cX12_depth 3 (some .int) ∈ WS := ws_of (lt_8 (List.mem_of_getElem? (i := 120) rfl)) rfl
theorem wml_RX12_288 : Cond.methodLink RX12 288 yX12_isSet ∈ WS := ws_of (lt_8 (List.mem_of_getElem? (i := 121) rfl)) rfl
theorem wi_yX12_isSet : Cond.instanceMethod yX12_isSet ∈ WS := ws_of (lt_8 (List.mem_of_getElem? (i := 123) rfl)) rfl
theorem wc_yX12_isSet : Cond.code yX12_isSet cX12_isSet 2 (some .boolean) ∈ WS := ws_of (lt_8 (List.mem_of_getElem? (i := 124) rfl)) rfl
theorem wml_RX12_291 : Cond.methodLink RX12 291 yX12_depthOf ∈ WS := ws_of (lt_8 (List.mem_of_getElem? (i := 125) rfl)) rfl
theorem wi_yX12_depthOf : Cond.instanceMethod yX12_depthOf ∈ WS := ws_of (lt_8 (List.mem_of_getElem? (i := 127) rfl)) rfl
theorem wc_yX12_depthOf : Cond.code yX12_depthOf cX12_depthOf 4 (some .int) ∈ WS := ws_of (lt_8 (List.mem_of_getElem? (i := 128) rfl)) rfl
theorem wml_RL_91 : Cond.methodLink RL 91 yX12_open ∈ WS := ws_of (lt_8 (List.mem_of_getElem? (i := 129) rfl)) rfl
theorem wi_yX12_open : Cond.instanceMethod yX12_open ∈ WS := ws_of (lt_8 (List.mem_of_getElem? (i := 130) rfl)) rfl
theorem wsel_yX12_open : Cond.selects RX12 yX12_open yX12_open ∈ WS := ws_of (lt_8 (List.mem_of_getElem? (i := 131) rfl)) rfl
theorem wc_yX12_open : Cond.code yX12_open cX12_open 2 (some .int) ∈ WS := ws_of (lt_8 (List.mem_of_getElem? (i := 132) rfl)) rfl
theorem wml_RX12_297 : Cond.methodLink RX12 297 yX12_openOf ∈ WS := ws_of (lt_8 (List.mem_of_getElem? (i := 133) rfl)) rfl
theorem wi_yX12_openOf : Cond.instanceMethod yX12_openOf ∈ WS := ws_of (lt_8 (List.mem_of_getElem? (i := 135) rfl)) rfl
theorem wc_yX12_openOf : Cond.code yX12_openOf cX12_openOf 2 (some .int) ∈ WS := ws_of (lt_8 (List.mem_of_getElem? (i := 136) rfl)) rfl
theorem wml_RX12_294 : Cond.methodLink RX12 294 yX12_passes ∈ WS := ws_of (lt_8 (List.mem_of_getElem? (i := 137) rfl)) rfl
theorem wi_yX12_passes : Cond.instanceMethod yX12_passes ∈ WS := ws_of (lt_8 (List.mem_of_getElem? (i := 139) rfl)) rfl
theorem wc_yX12_passes : Cond.code yX12_passes cX12_passes 3 (some .boolean) ∈ WS := ws_of (lt_8 (List.mem_of_getElem? (i := 140) rfl)) rfl
theorem wml_RL_95 : Cond.methodLink RL 95 yX12_part ∈ WS := ws_of (lt_8 (List.mem_of_getElem? (i := 141) rfl)) rfl
theorem wi_yX12_part : Cond.instanceMethod yX12_part ∈ WS := ws_of (lt_8 (List.mem_of_getElem? (i := 142) rfl)) rfl
theorem wsel_yX12_part : Cond.selects RX12 yX12_part yX12_part ∈ WS := ws_of (lt_8 (List.mem_of_getElem? (i := 143) rfl)) rfl
theorem wc_yX12_part : Cond.code yX12_part cX12_part 2 (some .int) ∈ WS := ws_of (lt_8 (List.mem_of_getElem? (i := 144) rfl)) rfl
theorem wml_RL_100 : Cond.methodLink RL 100 yX12_there ∈ WS := ws_of (lt_8 (List.mem_of_getElem? (i := 145) rfl)) rfl
theorem wi_yX12_there : Cond.instanceMethod yX12_there ∈ WS := ws_of (lt_8 (List.mem_of_getElem? (i := 146) rfl)) rfl
theorem wsel_yX12_there : Cond.selects RX12 yX12_there yX12_there ∈ WS := ws_of (lt_8 (List.mem_of_getElem? (i := 147) rfl)) rfl
theorem wc_yX12_there : Cond.code yX12_there cX12_there 2 (some .boolean) ∈ WS := ws_of (lt_8 (List.mem_of_getElem? (i := 148) rfl)) rfl
theorem wml_RX12_308 : Cond.methodLink RX12 308 yX12_partsOf ∈ WS := ws_of (lt_8 (List.mem_of_getElem? (i := 149) rfl)) rfl
theorem wi_yX12_partsOf : Cond.instanceMethod yX12_partsOf ∈ WS := ws_of (lt_8 (List.mem_of_getElem? (i := 151) rfl)) rfl
theorem wc_yX12_partsOf : Cond.code yX12_partsOf cX12_partsOf 6 (some .long) ∈ WS := ws_of (lt_8 (List.mem_of_getElem? (i := 152) rfl)) rfl
theorem wml_RX12_312 : Cond.methodLink RX12 312 yX12_tellsBy ∈ WS := ws_of (lt_8 (List.mem_of_getElem? (i := 153) rfl)) rfl
theorem wi_yX12_tellsBy : Cond.instanceMethod yX12_tellsBy ∈ WS := ws_of (lt_8 (List.mem_of_getElem? (i := 155) rfl)) rfl
theorem wc_yX12_tellsBy : Cond.code yX12_tellsBy cX12_tellsBy 11 (some .boolean) ∈ WS := ws_of (lt_8 (List.mem_of_getElem? (i := 156) rfl)) rfl
theorem wml_RL_104 : Cond.methodLink RL 104 yX12_chance ∈ WS := ws_of (lt_8 (List.mem_of_getElem? (i := 157) rfl)) rfl
theorem wi_yX12_chance : Cond.instanceMethod yX12_chance ∈ WS := ws_of (lt_8 (List.mem_of_getElem? (i := 158) rfl)) rfl
theorem wsel_yX12_chance : Cond.selects RX12 yX12_chance yX12_chance ∈ WS := ws_of (lt_8 (List.mem_of_getElem? (i := 159) rfl)) rfl
theorem wc_yX12_chance : Cond.code yX12_chance cX12_chance 2 (some .boolean) ∈ WS := ws_of (lt_8 (List.mem_of_getElem? (i := 160) rfl)) rfl
theorem wml_RL_108 : Cond.methodLink RL 108 yX12_pass ∈ WS := ws_of (lt_8 (List.mem_of_getElem? (i := 161) rfl)) rfl
theorem wi_yX12_pass : Cond.instanceMethod yX12_pass ∈ WS := ws_of (lt_8 (List.mem_of_getElem? (i := 162) rfl)) rfl
theorem wsel_yX12_pass : Cond.selects RX12 yX12_pass yX12_pass ∈ WS := ws_of (lt_8 (List.mem_of_getElem? (i := 163) rfl)) rfl
theorem wc_yX12_pass : Cond.code yX12_pass cX12_pass 3 (some .int) ∈ WS := ws_of (lt_8 (List.mem_of_getElem? (i := 164) rfl)) rfl
theorem wk_RX12_316 : Cond.constantLong RX12 316 (9) ∈ WS := ws_of (lt_8 (List.mem_of_getElem? (i := 165) rfl)) rfl
theorem wml_RX12_318 : Cond.methodLink RX12 318 yX12_passDay ∈ WS := ws_of (lt_8 (List.mem_of_getElem? (i := 166) rfl)) rfl
theorem wi_yX12_passDay : Cond.instanceMethod yX12_passDay ∈ WS := ws_of (lt_8 (List.mem_of_getElem? (i := 168) rfl)) rfl
theorem wc_yX12_passDay : Cond.code yX12_passDay cX12_passDay 9 none ∈ WS := ws_of (lt_8 (List.mem_of_getElem? (i := 169) rfl)) rfl
theorem wml_RL_113 : Cond.methodLink RL 113 yX12_sound ∈ WS := ws_of (lt_8 (List.mem_of_getElem? (i := 170) rfl)) rfl
theorem wi_yX12_sound : Cond.instanceMethod yX12_sound ∈ WS := ws_of (lt_8 (List.mem_of_getElem? (i := 171) rfl)) rfl
theorem wsel_yX12_sound : Cond.selects RX12 yX12_sound yX12_sound ∈ WS := ws_of (lt_8 (List.mem_of_getElem? (i := 172) rfl)) rfl
theorem wc_yX12_sound : Cond.code yX12_sound cX12_sound 3 (some .boolean) ∈ WS := ws_of (lt_8 (List.mem_of_getElem? (i := 173) rfl)) rfl
theorem wk_RX12_322 : Cond.constantLong RX12 322 (-9) ∈ WS := ws_of (lt_8 (List.mem_of_getElem? (i := 174) rfl)) rfl
theorem wk_RX12_324 : Cond.constantLong RX12 324 (30) ∈ WS := ws_of (lt_8 (List.mem_of_getElem? (i := 175) rfl)) rfl
theorem wml_RX12_326 : Cond.methodLink RX12 326 yX12_sounds ∈ WS := ws_of (lt_8 (List.mem_of_getElem? (i := 176) rfl)) rfl
theorem wi_yX12_sounds : Cond.instanceMethod yX12_sounds ∈ WS := ws_of (lt_8 (List.mem_of_getElem? (i := 178) rfl)) rfl
theorem wc_yX12_sounds : Cond.code yX12_sounds cX12_sounds 4 (some .boolean) ∈ WS := ws_of (lt_8 (List.mem_of_getElem? (i := 179) rfl)) rfl
theorem wml_RX12_305 : Cond.methodLink RX12 305 yX12_weighs ∈ WS := ws_of (lt_8 (List.mem_of_getElem? (i := 180) rfl)) rfl
theorem wi_yX12_weighs : Cond.instanceMethod yX12_weighs ∈ WS := ws_of (lt_8 (List.mem_of_getElem? (i := 182) rfl)) rfl
theorem wc_yX12_weighs : Cond.code yX12_weighs cX12_weighs 3 (some .int) ∈ WS := ws_of (lt_8 (List.mem_of_getElem? (i := 183) rfl)) rfl
theorem wml_RL_118 : Cond.methodLink RL 118 yX12_colour ∈ WS := ws_of (lt_8 (List.mem_of_getElem? (i := 184) rfl)) rfl
theorem wi_yX12_colour : Cond.instanceMethod yX12_colour ∈ WS := ws_of (lt_8 (List.mem_of_getElem? (i := 185) rfl)) rfl
theorem wsel_yX12_colour : Cond.selects RX12 yX12_colour yX12_colour ∈ WS := ws_of (lt_8 (List.mem_of_getElem? (i := 186) rfl)) rfl
theorem wc_yX12_colour : Cond.code yX12_colour cX12_colour 3 (some .boolean) ∈ WS := ws_of (lt_8 (List.mem_of_getElem? (i := 187) rfl)) rfl
theorem wml_RX12_329 : Cond.methodLink RX12 329 yX12_colours ∈ WS := ws_of (lt_8 (List.mem_of_getElem? (i := 188) rfl)) rfl
theorem wi_yX12_colours : Cond.instanceMethod yX12_colours ∈ WS := ws_of (lt_8 (List.mem_of_getElem? (i := 190) rfl)) rfl
theorem wc_yX12_colours : Cond.code yX12_colours cX12_colours 6 (some .boolean) ∈ WS := ws_of (lt_8 (List.mem_of_getElem? (i := 191) rfl)) rfl
theorem wml_RL_122 : Cond.methodLink RL 122 yX12_off ∈ WS := ws_of (lt_8 (List.mem_of_getElem? (i := 192) rfl)) rfl
theorem wi_yX12_off : Cond.instanceMethod yX12_off ∈ WS := ws_of (lt_8 (List.mem_of_getElem? (i := 193) rfl)) rfl
theorem wsel_yX12_off : Cond.selects RX12 yX12_off yX12_off ∈ WS := ws_of (lt_8 (List.mem_of_getElem? (i := 194) rfl)) rfl
theorem wc_yX12_off : Cond.code yX12_off cX12_off 2 (some .boolean) ∈ WS := ws_of (lt_8 (List.mem_of_getElem? (i := 195) rfl)) rfl
theorem wml_RL_127 : Cond.methodLink RL 127 yX12_forget ∈ WS := ws_of (lt_8 (List.mem_of_getElem? (i := 196) rfl)) rfl
theorem wi_yX12_forget : Cond.instanceMethod yX12_forget ∈ WS := ws_of (lt_8 (List.mem_of_getElem? (i := 197) rfl)) rfl
theorem wsel_yX12_forget : Cond.selects RX12 yX12_forget yX12_forget ∈ WS := ws_of (lt_8 (List.mem_of_getElem? (i := 198) rfl)) rfl
theorem wc_yX12_forget : Cond.code yX12_forget cX12_forget 1 (some .boolean) ∈ WS := ws_of (lt_8 (List.mem_of_getElem? (i := 199) rfl)) rfl
theorem wml_RL_131 : Cond.methodLink RL 131 yX12_minutes ∈ WS := ws_of (lt_8 (List.mem_of_getElem? (i := 200) rfl)) rfl
theorem wi_yX12_minutes : Cond.instanceMethod yX12_minutes ∈ WS := ws_of (lt_8 (List.mem_of_getElem? (i := 201) rfl)) rfl
theorem wsel_yX12_minutes : Cond.selects RX12 yX12_minutes yX12_minutes ∈ WS := ws_of (lt_8 (List.mem_of_getElem? (i := 202) rfl)) rfl
theorem wc_yX12_minutes : Cond.code yX12_minutes cX12_minutes 9 (some .int) ∈ WS := ws_of (lt_8 (List.mem_of_getElem? (i := 203) rfl)) rfl
theorem wml_RX12_342 : Cond.methodLink RX12 342 yX12_wrongWay ∈ WS := ws_of (lt_8 (List.mem_of_getElem? (i := 204) rfl)) rfl
theorem wi_yX12_wrongWay : Cond.instanceMethod yX12_wrongWay ∈ WS := ws_of (lt_8 (List.mem_of_getElem? (i := 206) rfl)) rfl
theorem wc_yX12_wrongWay : Cond.code yX12_wrongWay cX12_wrongWay 5 (some .int) ∈ WS := ws_of (lt_8 (List.mem_of_getElem? (i := 207) rfl)) rfl
theorem wml_RX12_339 : Cond.methodLink RX12 339 yX12_headingTo ∈ WS := ws_of (lt_8 (List.mem_of_getElem? (i := 208) rfl)) rfl
theorem wi_yX12_headingTo : Cond.instanceMethod yX12_headingTo ∈ WS := ws_of (lt_8 (List.mem_of_getElem? (i := 210) rfl)) rfl
theorem wc_yX12_headingTo : Cond.code yX12_headingTo cX12_headingTo 4 (some .int) ∈ WS := ws_of (lt_8 (List.mem_of_getElem? (i := 211) rfl)) rfl
theorem wml_RX12_333 : Cond.methodLink RX12 333 yX12_leads ∈ WS := ws_of (lt_8 (List.mem_of_getElem? (i := 212) rfl)) rfl
theorem wi_yX12_leads : Cond.instanceMethod yX12_leads ∈ WS := ws_of (lt_8 (List.mem_of_getElem? (i := 214) rfl)) rfl
theorem wc_yX12_leads : Cond.code yX12_leads cX12_leads 5 (some .int) ∈ WS := ws_of (lt_8 (List.mem_of_getElem? (i := 215) rfl)) rfl
theorem wml_RX12_345 : Cond.methodLink RX12 345 yX12_stepMinutes ∈ WS := ws_of (lt_8 (List.mem_of_getElem? (i := 216) rfl)) rfl
theorem wi_yX12_stepMinutes : Cond.instanceMethod yX12_stepMinutes ∈ WS := ws_of (lt_8 (List.mem_of_getElem? (i := 218) rfl)) rfl
theorem wc_yX12_stepMinutes : Cond.code yX12_stepMinutes cX12_stepMinutes 4 (some .int) ∈ WS := ws_of (lt_8 (List.mem_of_getElem? (i := 219) rfl)) rfl
theorem wml_RX12_336 : Cond.methodLink RX12 336 yJ9_abs_0f7a4 ∈ WS := ws_of (lt_8 (List.mem_of_getElem? (i := 220) rfl)) rfl
theorem wst_yJ9_abs_0f7a4 : Cond.static yJ9_abs_0f7a4 ∈ WS := ws_of (lt_8 (List.mem_of_getElem? (i := 221) rfl)) rfl
theorem wc_yJ9_abs_0f7a4 : Cond.code yJ9_abs_0f7a4 cJ9_abs_0f7a4 1 (some .int) ∈ WS := ws_of (lt_8 (List.mem_of_getElem? (i := 222) rfl)) rfl
theorem wml_RL_136 : Cond.methodLink RL 136 yX12_struck ∈ WS := ws_of (lt_8 (List.mem_of_getElem? (i := 223) rfl)) rfl
theorem wi_yX12_struck : Cond.instanceMethod yX12_struck ∈ WS := ws_of (lt_8 (List.mem_of_getElem? (i := 224) rfl)) rfl
theorem wsel_yX12_struck : Cond.selects RX12 yX12_struck yX12_struck ∈ WS := ws_of (lt_8 (List.mem_of_getElem? (i := 225) rfl)) rfl
theorem wc_yX12_struck : Cond.code yX12_struck cX12_struck 6 (some .int) ∈ WS := ws_of (lt_8 (List.mem_of_getElem? (i := 226) rfl)) rfl
theorem wml_RX12_348 : Cond.methodLink RX12 348 yX12_struckAt ∈ WS := ws_of (lt_8 (List.mem_of_getElem? (i := 227) rfl)) rfl
theorem wi_yX12_struckAt : Cond.instanceMethod yX12_struckAt ∈ WS := ws_of (lt_8 (List.mem_of_getElem? (i := 229) rfl)) rfl
theorem wc_yX12_struckAt : Cond.code yX12_struckAt cX12_struckAt 5 (some .int) ∈ WS := ws_of (lt_8 (List.mem_of_getElem? (i := 230) rfl)) rfl
theorem wml_RL_140 : Cond.methodLink RL 140 yX12_sure ∈ WS := ws_of (lt_8 (List.mem_of_getElem? (i := 231) rfl)) rfl
theorem wi_yX12_sure : Cond.instanceMethod yX12_sure ∈ WS := ws_of (lt_8 (List.mem_of_getElem? (i := 232) rfl)) rfl
theorem wsel_yX12_sure : Cond.selects RX12 yX12_sure yX12_sure ∈ WS := ws_of (lt_8 (List.mem_of_getElem? (i := 233) rfl)) rfl
theorem wc_yX12_sure : Cond.code yX12_sure cX12_sure 7 (some .boolean) ∈ WS := ws_of (lt_8 (List.mem_of_getElem? (i := 234) rfl)) rfl
theorem wml_RL_144 : Cond.methodLink RL 144 yX12_soonest ∈ WS := ws_of (lt_8 (List.mem_of_getElem? (i := 235) rfl)) rfl
theorem wi_yX12_soonest : Cond.instanceMethod yX12_soonest ∈ WS := ws_of (lt_8 (List.mem_of_getElem? (i := 236) rfl)) rfl
theorem wsel_yX12_soonest : Cond.selects RX12 yX12_soonest yX12_soonest ∈ WS := ws_of (lt_8 (List.mem_of_getElem? (i := 237) rfl)) rfl
theorem wc_yX12_soonest : Cond.code yX12_soonest cX12_soonest 4 (some .int) ∈ WS := ws_of (lt_8 (List.mem_of_getElem? (i := 238) rfl)) rfl
theorem wml_RX12_371 : Cond.methodLink RX12 371 yX12_readies ∈ WS := ws_of (lt_8 (List.mem_of_getElem? (i := 239) rfl)) rfl
theorem wi_yX12_readies : Cond.instanceMethod yX12_readies ∈ WS := ws_of (lt_9 (List.mem_of_getElem? (i := 1) rfl)) rfl
theorem wc_yX12_readies : Cond.code yX12_readies cX12_readies 5 none ∈ WS := ws_of (lt_9 (List.mem_of_getElem? (i := 2) rfl)) rfl
theorem wml_RX12_365 : Cond.methodLink RX12 365 yX12_reckons ∈ WS := ws_of (lt_9 (List.mem_of_getElem? (i := 3) rfl)) rfl
theorem wi_yX12_reckons : Cond.instanceMethod yX12_reckons ∈ WS := ws_of (lt_9 (List.mem_of_getElem? (i := 5) rfl)) rfl
theorem wc_yX12_reckons : Cond.code yX12_reckons cX12_reckons 6 none ∈ WS := ws_of (lt_9 (List.mem_of_getElem? (i := 6) rfl)) rfl
theorem wk_RX12_352 : Cond.constant RX12 352 (100000000) ∈ WS := ws_of (lt_9 (List.mem_of_getElem? (i := 7) rfl)) rfl
theorem wml_RX12_353 : Cond.methodLink RX12 353 yX12_betters ∈ WS := ws_of (lt_9 (List.mem_of_getElem? (i := 8) rfl)) rfl
theorem wi_yX12_betters : Cond.instanceMethod yX12_betters ∈ WS := ws_of (lt_9 (List.mem_of_getElem? (i := 10) rfl)) rfl
theorem wc_yX12_betters : Cond.code yX12_betters cX12_betters 8 (some .boolean) ∈ WS := ws_of (lt_9 (List.mem_of_getElem? (i := 11) rfl)) rfl
theorem wml_RX12_374 : Cond.methodLink RX12 374 yX12_walks ∈ WS := ws_of (lt_9 (List.mem_of_getElem? (i := 12) rfl)) rfl
theorem wi_yX12_walks : Cond.instanceMethod yX12_walks ∈ WS := ws_of (lt_9 (List.mem_of_getElem? (i := 14) rfl)) rfl
theorem wc_yX12_walks : Cond.code yX12_walks cX12_walks 10 none ∈ WS := ws_of (lt_9 (List.mem_of_getElem? (i := 15) rfl)) rfl
theorem wml_RL_148 : Cond.methodLink RL 148 yX12_surest ∈ WS := ws_of (lt_9 (List.mem_of_getElem? (i := 16) rfl)) rfl
theorem wi_yX12_surest : Cond.instanceMethod yX12_surest ∈ WS := ws_of (lt_9 (List.mem_of_getElem? (i := 17) rfl)) rfl
theorem wsel_yX12_surest : Cond.selects RX12 yX12_surest yX12_surest ∈ WS := ws_of (lt_9 (List.mem_of_getElem? (i := 18) rfl)) rfl
theorem wc_yX12_surest : Cond.code yX12_surest cX12_surest 4 (some .int) ∈ WS := ws_of (lt_9 (List.mem_of_getElem? (i := 19) rfl)) rfl
theorem wml_RX12_378 : Cond.methodLink RX12 378 yX12_areCells ∈ WS := ws_of (lt_9 (List.mem_of_getElem? (i := 20) rfl)) rfl
theorem wi_yX12_areCells : Cond.instanceMethod yX12_areCells ∈ WS := ws_of (lt_9 (List.mem_of_getElem? (i := 22) rfl)) rfl
theorem wc_yX12_areCells : Cond.code yX12_areCells cX12_areCells 3 (some .boolean) ∈ WS := ws_of (lt_9 (List.mem_of_getElem? (i := 23) rfl)) rfl
theorem wml_RX12_381 : Cond.methodLink RX12 381 yX12_surestOf ∈ WS := ws_of (lt_9 (List.mem_of_getElem? (i := 24) rfl)) rfl
theorem wi_yX12_surestOf : Cond.instanceMethod yX12_surestOf ∈ WS := ws_of (lt_9 (List.mem_of_getElem? (i := 26) rfl)) rfl
theorem wc_yX12_surestOf : Cond.code yX12_surestOf cX12_surestOf 7 (some .int) ∈ WS := ws_of (lt_9 (List.mem_of_getElem? (i := 27) rfl)) rfl
theorem wml_RL_152 : Cond.methodLink RL 152 yX12_mean ∈ WS := ws_of (lt_9 (List.mem_of_getElem? (i := 28) rfl)) rfl
theorem wi_yX12_mean : Cond.instanceMethod yX12_mean ∈ WS := ws_of (lt_9 (List.mem_of_getElem? (i := 29) rfl)) rfl
theorem wsel_yX12_mean : Cond.selects RX12 yX12_mean yX12_mean ∈ WS := ws_of (lt_9 (List.mem_of_getElem? (i := 30) rfl)) rfl
theorem wc_yX12_mean : Cond.code yX12_mean cX12_mean 5 (some .int) ∈ WS := ws_of (lt_9 (List.mem_of_getElem? (i := 31) rfl)) rfl
theorem wml_RX12_384 : Cond.methodLink RX12 384 yX12_meanOf ∈ WS := ws_of (lt_9 (List.mem_of_getElem? (i := 32) rfl)) rfl
theorem wi_yX12_meanOf : Cond.instanceMethod yX12_meanOf ∈ WS := ws_of (lt_9 (List.mem_of_getElem? (i := 34) rfl)) rfl
theorem wc_yX12_meanOf : Cond.code yX12_meanOf cX12_meanOf 5 (some .long) ∈ WS := ws_of (lt_9 (List.mem_of_getElem? (i := 35) rfl)) rfl
theorem wml_RL_156 : Cond.methodLink RL 156 yX12_length ∈ WS := ws_of (lt_9 (List.mem_of_getElem? (i := 36) rfl)) rfl
theorem wi_yX12_length : Cond.instanceMethod yX12_length ∈ WS := ws_of (lt_9 (List.mem_of_getElem? (i := 37) rfl)) rfl
theorem wsel_yX12_length : Cond.selects RX12 yX12_length yX12_length ∈ WS := ws_of (lt_9 (List.mem_of_getElem? (i := 38) rfl)) rfl
theorem wc_yX12_length : Cond.code yX12_length cX12_length 1 (some .int) ∈ WS := ws_of (lt_9 (List.mem_of_getElem? (i := 39) rfl)) rfl
theorem wml_RL_160 : Cond.methodLink RL 160 yX12_way ∈ WS := ws_of (lt_9 (List.mem_of_getElem? (i := 40) rfl)) rfl
theorem wi_yX12_way : Cond.instanceMethod yX12_way ∈ WS := ws_of (lt_9 (List.mem_of_getElem? (i := 41) rfl)) rfl
theorem wsel_yX12_way : Cond.selects RX12 yX12_way yX12_way ∈ WS := ws_of (lt_9 (List.mem_of_getElem? (i := 42) rfl)) rfl
theorem wc_yX12_way : Cond.code yX12_way cX12_way 2 (some .int) ∈ WS := ws_of (lt_9 (List.mem_of_getElem? (i := 43) rfl)) rfl
theorem wml_RL_164 : Cond.methodLink RL 164 yX12_worth ∈ WS := ws_of (lt_9 (List.mem_of_getElem? (i := 44) rfl)) rfl
theorem wi_yX12_worth : Cond.instanceMethod yX12_worth ∈ WS := ws_of (lt_9 (List.mem_of_getElem? (i := 45) rfl)) rfl
theorem wsel_yX12_worth : Cond.selects RX12 yX12_worth yX12_worth ∈ WS := ws_of (lt_9 (List.mem_of_getElem? (i := 46) rfl)) rfl
theorem wc_yX12_worth : Cond.code yX12_worth cX12_worth 8 (some .boolean) ∈ WS := ws_of (lt_9 (List.mem_of_getElem? (i := 47) rfl)) rfl
theorem wml_RX12_425 : Cond.methodLink RX12 425 yX12_thinks ∈ WS := ws_of (lt_9 (List.mem_of_getElem? (i := 48) rfl)) rfl
theorem wi_yX12_thinks : Cond.instanceMethod yX12_thinks ∈ WS := ws_of (lt_9 (List.mem_of_getElem? (i := 50) rfl)) rfl
theorem wc_yX12_thinks : Cond.code yX12_thinks cX12_thinks 2 none ∈ WS := ws_of (lt_9 (List.mem_of_getElem? (i := 51) rfl)) rfl
theorem wml_RX12_428 : Cond.methodLink RX12 428 yX12_bestBar ∈ WS := ws_of (lt_9 (List.mem_of_getElem? (i := 52) rfl)) rfl
theorem wi_yX12_bestBar : Cond.instanceMethod yX12_bestBar ∈ WS := ws_of (lt_9 (List.mem_of_getElem? (i := 54) rfl)) rfl
theorem wc_yX12_bestBar : Cond.code yX12_bestBar cX12_bestBar 8 (some .int) ∈ WS := ws_of (lt_9 (List.mem_of_getElem? (i := 55) rfl)) rfl
theorem wml_RX12_392 : Cond.methodLink RX12 392 yX12_hasCell ∈ WS := ws_of (lt_9 (List.mem_of_getElem? (i := 56) rfl)) rfl
theorem wi_yX12_hasCell : Cond.instanceMethod yX12_hasCell ∈ WS := ws_of (lt_9 (List.mem_of_getElem? (i := 58) rfl)) rfl
theorem wc_yX12_hasCell : Cond.code yX12_hasCell cX12_hasCell 2 (some .boolean) ∈ WS := ws_of (lt_9 (List.mem_of_getElem? (i := 59) rfl)) rfl
theorem wml_RX12_422 : Cond.methodLink RX12 422 yX12_worthOf ∈ WS := ws_of (lt_9 (List.mem_of_getElem? (i := 60) rfl)) rfl
theorem wi_yX12_worthOf : Cond.instanceMethod yX12_worthOf ∈ WS := ws_of (lt_9 (List.mem_of_getElem? (i := 62) rfl)) rfl
theorem wc_yX12_worthOf : Cond.code yX12_worthOf cX12_worthOf 3 (some .long) ∈ WS := ws_of (lt_9 (List.mem_of_getElem? (i := 63) rfl)) rfl
theorem wml_RX12_395 : Cond.methodLink RX12 395 yX12_worthOf1 ∈ WS := ws_of (lt_9 (List.mem_of_getElem? (i := 64) rfl)) rfl
theorem wi_yX12_worthOf1 : Cond.instanceMethod yX12_worthOf1 ∈ WS := ws_of (lt_9 (List.mem_of_getElem? (i := 66) rfl)) rfl
theorem wc_yX12_worthOf1 : Cond.code yX12_worthOf1 cX12_worthOf1 6 (some .long) ∈ WS := ws_of (lt_9 (List.mem_of_getElem? (i := 67) rfl)) rfl
theorem wml_RX12_398 : Cond.methodLink RX12 398 yX12_readFrom ∈ WS := ws_of (lt_9 (List.mem_of_getElem? (i := 68) rfl)) rfl
theorem wi_yX12_readFrom : Cond.instanceMethod yX12_readFrom ∈ WS := ws_of (lt_9 (List.mem_of_getElem? (i := 70) rfl)) rfl
theorem wc_yX12_readFrom : Cond.code yX12_readFrom cX12_readFrom 2 (some .int) ∈ WS := ws_of (lt_9 (List.mem_of_getElem? (i := 71) rfl)) rfl
theorem wml_RX12_401 : Cond.methodLink RX12 401 yX12_readTo ∈ WS := ws_of (lt_9 (List.mem_of_getElem? (i := 72) rfl)) rfl
theorem wi_yX12_readTo : Cond.instanceMethod yX12_readTo ∈ WS := ws_of (lt_9 (List.mem_of_getElem? (i := 74) rfl)) rfl
theorem wc_yX12_readTo : Cond.code yX12_readTo cX12_readTo 2 (some .int) ∈ WS := ws_of (lt_9 (List.mem_of_getElem? (i := 75) rfl)) rfl
theorem wml_RX12_404 : Cond.methodLink RX12 404 yX12_reads ∈ WS := ws_of (lt_9 (List.mem_of_getElem? (i := 76) rfl)) rfl
theorem wi_yX12_reads : Cond.instanceMethod yX12_reads ∈ WS := ws_of (lt_9 (List.mem_of_getElem? (i := 78) rfl)) rfl
theorem wc_yX12_reads : Cond.code yX12_reads cX12_reads 8 (some .boolean) ∈ WS := ws_of (lt_9 (List.mem_of_getElem? (i := 79) rfl)) rfl
theorem wml_RX12_407 : Cond.methodLink RX12 407 yX12_worth0 ∈ WS := ws_of (lt_9 (List.mem_of_getElem? (i := 80) rfl)) rfl
theorem wi_yX12_worth0 : Cond.instanceMethod yX12_worth0 ∈ WS := ws_of (lt_9 (List.mem_of_getElem? (i := 82) rfl)) rfl
theorem wc_yX12_worth0 : Cond.code yX12_worth0 cX12_worth0 8 (some .long) ∈ WS := ws_of (lt_9 (List.mem_of_getElem? (i := 83) rfl)) rfl
theorem wml_RX12_388 : Cond.methodLink RX12 388 yJ9_max_f86c9 ∈ WS := ws_of (lt_9 (List.mem_of_getElem? (i := 84) rfl)) rfl
theorem wml_RX12_410 : Cond.methodLink RX12 410 yX12_worthOf2 ∈ WS := ws_of (lt_9 (List.mem_of_getElem? (i := 85) rfl)) rfl
theorem wi_yX12_worthOf2 : Cond.instanceMethod yX12_worthOf2 ∈ WS := ws_of (lt_9 (List.mem_of_getElem? (i := 87) rfl)) rfl
theorem wc_yX12_worthOf2 : Cond.code yX12_worthOf2 cX12_worthOf2 6 (some .long) ∈ WS := ws_of (lt_9 (List.mem_of_getElem? (i := 88) rfl)) rfl
theorem wml_RX12_413 : Cond.methodLink RX12 413 yX12_worth1 ∈ WS := ws_of (lt_9 (List.mem_of_getElem? (i := 89) rfl)) rfl
theorem wi_yX12_worth1 : Cond.instanceMethod yX12_worth1 ∈ WS := ws_of (lt_9 (List.mem_of_getElem? (i := 91) rfl)) rfl
theorem wc_yX12_worth1 : Cond.code yX12_worth1 cX12_worth1 5 (some .long) ∈ WS := ws_of (lt_9 (List.mem_of_getElem? (i := 92) rfl)) rfl
theorem wml_RX12_419 : Cond.methodLink RX12 419 yX12_worthOf3 ∈ WS := ws_of (lt_9 (List.mem_of_getElem? (i := 93) rfl)) rfl
theorem wi_yX12_worthOf3 : Cond.instanceMethod yX12_worthOf3 ∈ WS := ws_of (lt_9 (List.mem_of_getElem? (i := 95) rfl)) rfl
theorem wc_yX12_worthOf3 : Cond.code yX12_worthOf3 cX12_worthOf3 5 (some .long) ∈ WS := ws_of (lt_9 (List.mem_of_getElem? (i := 96) rfl)) rfl
theorem wml_RX12_416 : Cond.methodLink RX12 416 yX12_worth2 ∈ WS := ws_of (lt_9 (List.mem_of_getElem? (i := 97) rfl)) rfl
theorem wi_yX12_worth2 : Cond.instanceMethod yX12_worth2 ∈ WS := ws_of (lt_9 (List.mem_of_getElem? (i := 99) rfl)) rfl
theorem wc_yX12_worth2 : Cond.code yX12_worth2 cX12_worth2 5 (some .long) ∈ WS := ws_of (lt_9 (List.mem_of_getElem? (i := 100) rfl)) rfl
theorem wk_RX12_431 : Cond.constantLong RX12 431 (32) ∈ WS := ws_of (lt_9 (List.mem_of_getElem? (i := 101) rfl)) rfl
theorem wml_RL_168 : Cond.methodLink RL 168 yX12_next ∈ WS := ws_of (lt_9 (List.mem_of_getElem? (i := 102) rfl)) rfl
theorem wi_yX12_next : Cond.instanceMethod yX12_next ∈ WS := ws_of (lt_9 (List.mem_of_getElem? (i := 103) rfl)) rfl
theorem wsel_yX12_next : Cond.selects RX12 yX12_next yX12_next ∈ WS := ws_of (lt_9 (List.mem_of_getElem? (i := 104) rfl)) rfl
theorem wc_yX12_next : Cond.code yX12_next cX12_next 5 (some .int) ∈ WS := ws_of (lt_9 (List.mem_of_getElem? (i := 105) rfl)) rfl
theorem wml_RL_173 : Cond.methodLink RL 173 yX12_lieTo ∈ WS := ws_of (lt_9 (List.mem_of_getElem? (i := 106) rfl)) rfl
theorem wi_yX12_lieTo : Cond.instanceMethod yX12_lieTo ∈ WS := ws_of (lt_9 (List.mem_of_getElem? (i := 107) rfl)) rfl
theorem wsel_yX12_lieTo : Cond.selects RX12 yX12_lieTo yX12_lieTo ∈ WS := ws_of (lt_9 (List.mem_of_getElem? (i := 108) rfl)) rfl
theorem wc_yX12_lieTo : Cond.code yX12_lieTo cX12_lieTo 14 (some .int) ∈ WS := ws_of (lt_9 (List.mem_of_getElem? (i := 109) rfl)) rfl
theorem wk_RX12_439 : Cond.constantLong RX12 439 (999999) ∈ WS := ws_of (lt_9 (List.mem_of_getElem? (i := 110) rfl)) rfl
theorem wml_RX12_441 : Cond.methodLink RX12 441 yX12_keeps ∈ WS := ws_of (lt_9 (List.mem_of_getElem? (i := 111) rfl)) rfl
theorem wi_yX12_keeps : Cond.instanceMethod yX12_keeps ∈ WS := ws_of (lt_9 (List.mem_of_getElem? (i := 113) rfl)) rfl
theorem wc_yX12_keeps : Cond.code yX12_keeps cX12_keeps 2 none ∈ WS := ws_of (lt_9 (List.mem_of_getElem? (i := 114) rfl)) rfl
theorem wml_RX12_444 : Cond.methodLink RX12 444 yX12_brings ∈ WS := ws_of (lt_9 (List.mem_of_getElem? (i := 115) rfl)) rfl
theorem wi_yX12_brings : Cond.instanceMethod yX12_brings ∈ WS := ws_of (lt_9 (List.mem_of_getElem? (i := 117) rfl)) rfl
theorem wc_yX12_brings : Cond.code yX12_brings cX12_brings 2 none ∈ WS := ws_of (lt_9 (List.mem_of_getElem? (i := 118) rfl)) rfl
theorem wml_RL_177 : Cond.methodLink RL 177 yX12_marked ∈ WS := ws_of (lt_9 (List.mem_of_getElem? (i := 119) rfl)) rfl
theorem wi_yX12_marked : Cond.instanceMethod yX12_marked ∈ WS := ws_of (lt_9 (List.mem_of_getElem? (i := 120) rfl)) rfl
theorem wsel_yX12_marked : Cond.selects RX12 yX12_marked yX12_marked ∈ WS := ws_of (lt_9 (List.mem_of_getElem? (i := 121) rfl)) rfl
theorem wc_yX12_marked : Cond.code yX12_marked cX12_marked 10 (some .int) ∈ WS := ws_of (lt_9 (List.mem_of_getElem? (i := 122) rfl)) rfl
theorem wml_RX12_447 : Cond.methodLink RX12 447 yX12_bits ∈ WS := ws_of (lt_9 (List.mem_of_getElem? (i := 123) rfl)) rfl
theorem wst_yX12_bits : Cond.static yX12_bits ∈ WS := ws_of (lt_9 (List.mem_of_getElem? (i := 124) rfl)) rfl
theorem wc_yX12_bits : Cond.code yX12_bits cX12_bits 3 (some .int) ∈ WS := ws_of (lt_9 (List.mem_of_getElem? (i := 125) rfl)) rfl
theorem wml_RX12_450 : Cond.methodLink RX12 450 yX12_markedBy ∈ WS := ws_of (lt_9 (List.mem_of_getElem? (i := 126) rfl)) rfl
theorem wi_yX12_markedBy : Cond.instanceMethod yX12_markedBy ∈ WS := ws_of (lt_9 (List.mem_of_getElem? (i := 128) rfl)) rfl
theorem wc_yX12_markedBy : Cond.code yX12_markedBy cX12_markedBy 8 (some .long) ∈ WS := ws_of (lt_9 (List.mem_of_getElem? (i := 129) rfl)) rfl
theorem wml_RL_181 : Cond.methodLink RL 181 yX12_tells ∈ WS := ws_of (lt_9 (List.mem_of_getElem? (i := 130) rfl)) rfl
theorem wi_yX12_tells : Cond.instanceMethod yX12_tells ∈ WS := ws_of (lt_9 (List.mem_of_getElem? (i := 131) rfl)) rfl
theorem wsel_yX12_tells : Cond.selects RX12 yX12_tells yX12_tells ∈ WS := ws_of (lt_9 (List.mem_of_getElem? (i := 132) rfl)) rfl
theorem wc_yX12_tells : Cond.code yX12_tells cX12_tells 7 (some .boolean) ∈ WS := ws_of (lt_9 (List.mem_of_getElem? (i := 133) rfl)) rfl
theorem wml_RL_185 : Cond.methodLink RL 185 yX12_dredged ∈ WS := ws_of (lt_9 (List.mem_of_getElem? (i := 134) rfl)) rfl
theorem wi_yX12_dredged : Cond.instanceMethod yX12_dredged ∈ WS := ws_of (lt_9 (List.mem_of_getElem? (i := 135) rfl)) rfl
theorem wsel_yX12_dredged : Cond.selects RX12 yX12_dredged yX12_dredged ∈ WS := ws_of (lt_9 (List.mem_of_getElem? (i := 136) rfl)) rfl
theorem wc_yX12_dredged : Cond.code yX12_dredged cX12_dredged 10 (some .int) ∈ WS := ws_of (lt_9 (List.mem_of_getElem? (i := 137) rfl)) rfl
theorem wml_RL_189 : Cond.methodLink RL 189 yX12_brush ∈ WS := ws_of (lt_9 (List.mem_of_getElem? (i := 138) rfl)) rfl
theorem wi_yX12_brush : Cond.instanceMethod yX12_brush ∈ WS := ws_of (lt_9 (List.mem_of_getElem? (i := 139) rfl)) rfl
theorem wsel_yX12_brush : Cond.selects RX12 yX12_brush yX12_brush ∈ WS := ws_of (lt_9 (List.mem_of_getElem? (i := 140) rfl)) rfl
theorem wc_yX12_brush : Cond.code yX12_brush cX12_brush 9 (some .boolean) ∈ WS := ws_of (lt_9 (List.mem_of_getElem? (i := 141) rfl)) rfl
theorem wk_RX12_453 : Cond.constantLong RX12 453 (16) ∈ WS := ws_of (lt_9 (List.mem_of_getElem? (i := 142) rfl)) rfl
theorem wml_RL_193 : Cond.methodLink RL 193 yX12_lighten ∈ WS := ws_of (lt_9 (List.mem_of_getElem? (i := 143) rfl)) rfl
theorem wi_yX12_lighten : Cond.instanceMethod yX12_lighten ∈ WS := ws_of (lt_9 (List.mem_of_getElem? (i := 144) rfl)) rfl
theorem wsel_yX12_lighten : Cond.selects RX12 yX12_lighten yX12_lighten ∈ WS := ws_of (lt_9 (List.mem_of_getElem? (i := 145) rfl)) rfl
theorem wc_yX12_lighten : Cond.code yX12_lighten cX12_lighten 8 (some .int) ∈ WS := ws_of (lt_9 (List.mem_of_getElem? (i := 146) rfl)) rfl
theorem wml_RL_197 : Cond.methodLink RL 197 yX12_play ∈ WS := ws_of (lt_9 (List.mem_of_getElem? (i := 147) rfl)) rfl
theorem wi_yX12_play : Cond.instanceMethod yX12_play ∈ WS := ws_of (lt_9 (List.mem_of_getElem? (i := 148) rfl)) rfl
theorem wsel_yX12_play : Cond.selects RX12 yX12_play yX12_play ∈ WS := ws_of (lt_9 (List.mem_of_getElem? (i := 149) rfl)) rfl
theorem wc_yX12_play : Cond.code yX12_play cX12_play 4 (some .int) ∈ WS := ws_of (lt_9 (List.mem_of_getElem? (i := 150) rfl)) rfl
theorem wk_RX12_512 : Cond.constantLong RX12 512 (9999) ∈ WS := ws_of (lt_9 (List.mem_of_getElem? (i := 151) rfl)) rfl
theorem wml_RX12_514 : Cond.methodLink RX12 514 yX12_plays ∈ WS := ws_of (lt_9 (List.mem_of_getElem? (i := 152) rfl)) rfl
theorem wi_yX12_plays : Cond.instanceMethod yX12_plays ∈ WS := ws_of (lt_9 (List.mem_of_getElem? (i := 154) rfl)) rfl
theorem wc_yX12_plays : Cond.code yX12_plays cX12_plays 5 none ∈ WS := ws_of (lt_9 (List.mem_of_getElem? (i := 155) rfl)) rfl
theorem wml_RX12_500 : Cond.methodLink RX12 500 yX12_drawTruth ∈ WS := ws_of (lt_9 (List.mem_of_getElem? (i := 156) rfl)) rfl
theorem wi_yX12_drawTruth : Cond.instanceMethod yX12_drawTruth ∈ WS := ws_of (lt_9 (List.mem_of_getElem? (i := 158) rfl)) rfl
theorem wc_yX12_drawTruth : Cond.code yX12_drawTruth cX12_drawTruth 5 none ∈ WS := ws_of (lt_9 (List.mem_of_getElem? (i := 159) rfl)) rfl
theorem wml_RX12_459 : Cond.methodLink RX12 459 yX12_draw ∈ WS := ws_of (lt_9 (List.mem_of_getElem? (i := 160) rfl)) rfl
theorem wi_yX12_draw : Cond.instanceMethod yX12_draw ∈ WS := ws_of (lt_9 (List.mem_of_getElem? (i := 162) rfl)) rfl
theorem wc_yX12_draw : Cond.code yX12_draw cX12_draw 2 (some .int) ∈ WS := ws_of (lt_9 (List.mem_of_getElem? (i := 163) rfl)) rfl
theorem wk_RX12_458 : Cond.constant RX12 458 (65536) ∈ WS := ws_of (lt_9 (List.mem_of_getElem? (i := 164) rfl)) rfl
theorem wk_RX12_465 : Cond.constantLong RX12 465 (1000) ∈ WS := ws_of (lt_9 (List.mem_of_getElem? (i := 165) rfl)) rfl
theorem wml_RX12_503 : Cond.methodLink RX12 503 yX12_does ∈ WS := ws_of (lt_9 (List.mem_of_getElem? (i := 166) rfl)) rfl
theorem wi_yX12_does : Cond.instanceMethod yX12_does ∈ WS := ws_of (lt_9 (List.mem_of_getElem? (i := 168) rfl)) rfl
theorem wc_yX12_does : Cond.code yX12_does cX12_does 10 (some .int) ∈ WS := ws_of (lt_9 (List.mem_of_getElem? (i := 169) rfl)) rfl
theorem wml_RX12_479 : Cond.methodLink RX12 479 yX12_soundsAt ∈ WS := ws_of (lt_9 (List.mem_of_getElem? (i := 170) rfl)) rfl
theorem wi_yX12_soundsAt : Cond.instanceMethod yX12_soundsAt ∈ WS := ws_of (lt_9 (List.mem_of_getElem? (i := 172) rfl)) rfl
theorem wc_yX12_soundsAt : Cond.code yX12_soundsAt cX12_soundsAt 4 none ∈ WS := ws_of (lt_9 (List.mem_of_getElem? (i := 173) rfl)) rfl
theorem wml_RX12_482 : Cond.methodLink RX12 482 yX12_coloursAt ∈ WS := ws_of (lt_9 (List.mem_of_getElem? (i := 174) rfl)) rfl
theorem wi_yX12_coloursAt : Cond.instanceMethod yX12_coloursAt ∈ WS := ws_of (lt_9 (List.mem_of_getElem? (i := 176) rfl)) rfl
theorem wc_yX12_coloursAt : Cond.code yX12_coloursAt cX12_coloursAt 4 none ∈ WS := ws_of (lt_9 (List.mem_of_getElem? (i := 177) rfl)) rfl
theorem wml_RX12_485 : Cond.methodLink RX12 485 yX12_waits ∈ WS := ws_of (lt_9 (List.mem_of_getElem? (i := 178) rfl)) rfl
theorem wi_yX12_waits : Cond.instanceMethod yX12_waits ∈ WS := ws_of (lt_9 (List.mem_of_getElem? (i := 180) rfl)) rfl
theorem wc_yX12_waits : Cond.code yX12_waits cX12_waits 3 none ∈ WS := ws_of (lt_9 (List.mem_of_getElem? (i := 181) rfl)) rfl
theorem wml_RX12_488 : Cond.methodLink RX12 488 yJ9_max_7cf53 ∈ WS := ws_of (lt_9 (List.mem_of_getElem? (i := 182) rfl)) rfl
theorem wml_RX12_490 : Cond.methodLink RX12 490 yX12_holds ∈ WS := ws_of (lt_9 (List.mem_of_getElem? (i := 183) rfl)) rfl
theorem wi_yX12_holds : Cond.instanceMethod yX12_holds ∈ WS := ws_of (lt_9 (List.mem_of_getElem? (i := 185) rfl)) rfl
theorem wc_yX12_holds : Cond.code yX12_holds cX12_holds 8 (some .boolean) ∈ WS := ws_of (lt_9 (List.mem_of_getElem? (i := 186) rfl)) rfl
theorem wml_RX12_494 : Cond.methodLink RX12 494 yX12_goes ∈ WS := ws_of (lt_9 (List.mem_of_getElem? (i := 187) rfl)) rfl
theorem wi_yX12_goes : Cond.instanceMethod yX12_goes ∈ WS := ws_of (lt_9 (List.mem_of_getElem? (i := 189) rfl)) rfl
theorem wc_yX12_goes : Cond.code yX12_goes cX12_goes 3 none ∈ WS := ws_of (lt_9 (List.mem_of_getElem? (i := 190) rfl)) rfl
theorem wml_RX12_506 : Cond.methodLink RX12 506 yX12_behindEnds ∈ WS := ws_of (lt_9 (List.mem_of_getElem? (i := 191) rfl)) rfl
theorem wi_yX12_behindEnds : Cond.instanceMethod yX12_behindEnds ∈ WS := ws_of (lt_9 (List.mem_of_getElem? (i := 193) rfl)) rfl
theorem wc_yX12_behindEnds : Cond.code yX12_behindEnds cX12_behindEnds 5 (some .int) ∈ WS := ws_of (lt_9 (List.mem_of_getElem? (i := 194) rfl)) rfl
theorem wml_RX12_517 : Cond.methodLink RX12 517 yX12_tellsPlayed ∈ WS := ws_of (lt_9 (List.mem_of_getElem? (i := 195) rfl)) rfl
theorem wi_yX12_tellsPlayed : Cond.instanceMethod yX12_tellsPlayed ∈ WS := ws_of (lt_9 (List.mem_of_getElem? (i := 197) rfl)) rfl
theorem wc_yX12_tellsPlayed : Cond.code yX12_tellsPlayed cX12_tellsPlayed 1 none ∈ WS := ws_of (lt_9 (List.mem_of_getElem? (i := 198) rfl)) rfl
theorem wml_RL_201 : Cond.methodLink RL 201 yX12_played ∈ WS := ws_of (lt_9 (List.mem_of_getElem? (i := 199) rfl)) rfl
theorem wi_yX12_played : Cond.instanceMethod yX12_played ∈ WS := ws_of (lt_9 (List.mem_of_getElem? (i := 200) rfl)) rfl
theorem wsel_yX12_played : Cond.selects RX12 yX12_played yX12_played ∈ WS := ws_of (lt_9 (List.mem_of_getElem? (i := 201) rfl)) rfl
theorem wc_yX12_played : Cond.code yX12_played cX12_played 2 (some .int) ∈ WS := ws_of (lt_9 (List.mem_of_getElem? (i := 202) rfl)) rfl
theorem wml_RL_205 : Cond.methodLink RL 205 yX12_tally ∈ WS := ws_of (lt_9 (List.mem_of_getElem? (i := 203) rfl)) rfl
theorem wi_yX12_tally : Cond.instanceMethod yX12_tally ∈ WS := ws_of (lt_9 (List.mem_of_getElem? (i := 204) rfl)) rfl
theorem wsel_yX12_tally : Cond.selects RX12 yX12_tally yX12_tally ∈ WS := ws_of (lt_9 (List.mem_of_getElem? (i := 205) rfl)) rfl
theorem wc_yX12_tally : Cond.code yX12_tally cX12_tally 8 (some .int) ∈ WS := ws_of (lt_9 (List.mem_of_getElem? (i := 206) rfl)) rfl
theorem wml_RL_209 : Cond.methodLink RL 209 yX12_mark ∈ WS := ws_of (lt_9 (List.mem_of_getElem? (i := 207) rfl)) rfl
theorem wi_yX12_mark : Cond.instanceMethod yX12_mark ∈ WS := ws_of (lt_9 (List.mem_of_getElem? (i := 208) rfl)) rfl
theorem wsel_yX12_mark : Cond.selects RX12 yX12_mark yX12_mark ∈ WS := ws_of (lt_9 (List.mem_of_getElem? (i := 209) rfl)) rfl
theorem wc_yX12_mark : Cond.code yX12_mark cX12_mark 1 (some .int) ∈ WS := ws_of (lt_9 (List.mem_of_getElem? (i := 210) rfl)) rfl
theorem wml_RX12_527 : Cond.methodLink RX12 527 yX12_copies ∈ WS := ws_of (lt_9 (List.mem_of_getElem? (i := 211) rfl)) rfl
theorem wi_yX12_copies : Cond.instanceMethod yX12_copies ∈ WS := ws_of (lt_9 (List.mem_of_getElem? (i := 213) rfl)) rfl
theorem wc_yX12_copies : Cond.code yX12_copies cX12_copies 4 none ∈ WS := ws_of (lt_9 (List.mem_of_getElem? (i := 214) rfl)) rfl
theorem wml_RL_213 : Cond.methodLink RL 213 yX12_back ∈ WS := ws_of (lt_9 (List.mem_of_getElem? (i := 215) rfl)) rfl
theorem wi_yX12_back : Cond.instanceMethod yX12_back ∈ WS := ws_of (lt_9 (List.mem_of_getElem? (i := 216) rfl)) rfl
theorem wsel_yX12_back : Cond.selects RX12 yX12_back yX12_back ∈ WS := ws_of (lt_9 (List.mem_of_getElem? (i := 217) rfl)) rfl
theorem wc_yX12_back : Cond.code yX12_back cX12_back 1 (some .int) ∈ WS := ws_of (lt_9 (List.mem_of_getElem? (i := 218) rfl)) rfl
theorem wk_RL_32 : Cond.constantLong RL 32 (4294967295) ∈ WS := ws_of (lt_9 (List.mem_of_getElem? (i := 219) rfl)) rfl
theorem wf_RJ0_9 : Cond.fieldLink RJ0 9 "java/lang/String" "value" "[B" ∈ WS := ws_of (lt_9 (List.mem_of_getElem? (i := 220) rfl)) rfl
theorem wf_RJ0_15 : Cond.fieldLink RJ0 15 "java/lang/String" "coder" "B" ∈ WS := ws_of (lt_9 (List.mem_of_getElem? (i := 221) rfl)) rfl
theorem wsel_yX9_shareOut : Cond.selects RX9 yX9_shareOut yX9_shareOut ∈ WS := ws_of (lp_1 (q := (yX9_shareOut, 1)) (List.mem_of_getElem? (i := 0) rfl)) rfl
theorem wsel_yX11_refuse : Cond.selects RX11 yX11_refuse yX11_refuse ∈ WS := ws_of (lp_1 (q := (yX11_refuse, 19)) (List.mem_of_getElem? (i := 1) rfl)) rfl
theorem wsel_yX11_agree : Cond.selects RX11 yX11_agree yX11_agree ∈ WS := ws_of (lp_1 (q := (yX11_agree, 19)) (List.mem_of_getElem? (i := 2) rfl)) rfl
theorem wsel_yX11_placeStatus : Cond.selects RX11 yX11_placeStatus yX11_placeStatus ∈ WS := ws_of (lp_1 (q := (yX11_placeStatus, 19)) (List.mem_of_getElem? (i := 3) rfl)) rfl
theorem wsel_yX11_fail : Cond.selects RX11 yX11_fail yX11_fail ∈ WS := ws_of (lp_1 (q := (yX11_fail, 19)) (List.mem_of_getElem? (i := 4) rfl)) rfl
theorem wsel_yX3_takeSize : Cond.selects RX3 yX3_takeSize yX3_takeSize ∈ WS := ws_of (lp_1 (q := (yX3_takeSize, 7)) (List.mem_of_getElem? (i := 5) rfl)) rfl
theorem wsel_yX3_takePart : Cond.selects RX3 yX3_takePart yX3_takePart ∈ WS := ws_of (lp_1 (q := (yX3_takePart, 7)) (List.mem_of_getElem? (i := 6) rfl)) rfl
theorem wsel_yX3_takeRow : Cond.selects RX3 yX3_takeRow yX3_takeRow ∈ WS := ws_of (lp_1 (q := (yX3_takeRow, 7)) (List.mem_of_getElem? (i := 7) rfl)) rfl
theorem wsel_yX3_takeBar : Cond.selects RX3 yX3_takeBar yX3_takeBar ∈ WS := ws_of (lp_1 (q := (yX3_takeBar, 7)) (List.mem_of_getElem? (i := 8) rfl)) rfl
theorem wsel_yX8_isReserved : Cond.selects RX8 yX8_isReserved yX8_isReserved ∈ WS := ws_of (lp_1 (q := (yX8_isReserved, 11)) (List.mem_of_getElem? (i := 9) rfl)) rfl
theorem wsel_yX3_takeAt : Cond.selects RX3 yX3_takeAt yX3_takeAt ∈ WS := ws_of (lp_1 (q := (yX3_takeAt, 7)) (List.mem_of_getElem? (i := 10) rfl)) rfl
theorem wsel_yX3_giveCells : Cond.selects RX3 yX3_giveCells yX3_giveCells ∈ WS := ws_of (lp_1 (q := (yX3_giveCells, 7)) (List.mem_of_getElem? (i := 11) rfl)) rfl
theorem wsel_yX3_takeStage : Cond.selects RX3 yX3_takeStage yX3_takeStage ∈ WS := ws_of (lp_1 (q := (yX3_takeStage, 7)) (List.mem_of_getElem? (i := 12) rfl)) rfl
theorem wsel_yX3_takeBoat : Cond.selects RX3 yX3_takeBoat yX3_takeBoat ∈ WS := ws_of (lp_1 (q := (yX3_takeBoat, 7)) (List.mem_of_getElem? (i := 13) rfl)) rfl
theorem wsel_yX3_takePole : Cond.selects RX3 yX3_takePole yX3_takePole ∈ WS := ws_of (lp_1 (q := (yX3_takePole, 7)) (List.mem_of_getElem? (i := 14) rfl)) rfl
theorem wsel_yX3_takeColour : Cond.selects RX3 yX3_takeColour yX3_takeColour ∈ WS := ws_of (lp_1 (q := (yX3_takeColour, 7)) (List.mem_of_getElem? (i := 15) rfl)) rfl
theorem wsel_yX11_startAfresh : Cond.selects RX11 yX11_startAfresh yX11_startAfresh ∈ WS := ws_of (lp_2 (q := (yX11_startAfresh, 19)) (List.mem_of_getElem? (i := 0) rfl)) rfl
theorem wsel_yX11_answer : Cond.selects RX11 yX11_answer yX11_answer ∈ WS := ws_of (lp_2 (q := (yX11_answer, 19)) (List.mem_of_getElem? (i := 1) rfl)) rfl
theorem wsel_yX5_takeEnd : Cond.selects RX5 yX5_takeEnd yX5_takeEnd ∈ WS := ws_of (lp_2 (q := (yX5_takeEnd, 5)) (List.mem_of_getElem? (i := 2) rfl)) rfl
theorem wsel_yX5_takeStep : Cond.selects RX5 yX5_takeStep yX5_takeStep ∈ WS := ws_of (lp_2 (q := (yX5_takeStep, 5)) (List.mem_of_getElem? (i := 3) rfl)) rfl
theorem wsel_yX5_wordOfStep : Cond.selects RX5 yX5_wordOfStep yX5_wordOfStep ∈ WS := ws_of (lp_2 (q := (yX5_wordOfStep, 5)) (List.mem_of_getElem? (i := 4) rfl)) rfl
theorem wsel_yX5_takeRest : Cond.selects RX5 yX5_takeRest yX5_takeRest ∈ WS := ws_of (lp_2 (q := (yX5_takeRest, 5)) (List.mem_of_getElem? (i := 5) rfl)) rfl
theorem wsel_yX5_takeBarName : Cond.selects RX5 yX5_takeBarName yX5_takeBarName ∈ WS := ws_of (lp_2 (q := (yX5_takeBarName, 5)) (List.mem_of_getElem? (i := 6) rfl)) rfl
theorem wsel_yX5_takeCount : Cond.selects RX5 yX5_takeCount yX5_takeCount ∈ WS := ws_of (lp_2 (q := (yX5_takeCount, 5)) (List.mem_of_getElem? (i := 7) rfl)) rfl
theorem wsel_yX5_takeWhat : Cond.selects RX5 yX5_takeWhat yX5_takeWhat ∈ WS := ws_of (lp_2 (q := (yX5_takeWhat, 5)) (List.mem_of_getElem? (i := 8) rfl)) rfl
theorem wsel_yX11_isBar : Cond.selects RX11 yX11_isBar yX11_isBar ∈ WS := ws_of (lp_2 (q := (yX11_isBar, 19)) (List.mem_of_getElem? (i := 9) rfl)) rfl
theorem wsel_yX11_isCell : Cond.selects RX11 yX11_isCell yX11_isCell ∈ WS := ws_of (lp_2 (q := (yX11_isCell, 19)) (List.mem_of_getElem? (i := 10) rfl)) rfl
theorem wsel_yX11_isSet : Cond.selects RX11 yX11_isSet yX11_isSet ∈ WS := ws_of (lp_2 (q := (yX11_isSet, 19)) (List.mem_of_getElem? (i := 11) rfl)) rfl
theorem wsel_yX11_tellFraction : Cond.selects RX11 yX11_tellFraction yX11_tellFraction ∈ WS := ws_of (lp_2 (q := (yX11_tellFraction, 19)) (List.mem_of_getElem? (i := 12) rfl)) rfl
theorem wsel_yX11_wayStatus : Cond.selects RX11 yX11_wayStatus yX11_wayStatus ∈ WS := ws_of (lp_2 (q := (yX11_wayStatus, 19)) (List.mem_of_getElem? (i := 13) rfl)) rfl
theorem wsel_yX1_hasWayByLess : Cond.selects RX1 yX1_hasWayByLess yX1_hasWayByLess ∈ WS := ws_of (lp_2 (q := (yX1_hasWayByLess, 19)) (List.mem_of_getElem? (i := 14) rfl)) rfl
theorem wsel_yX1_cellsBy : Cond.selects RX1 yX1_cellsBy yX1_cellsBy ∈ WS := ws_of (lp_2 (q := (yX1_cellsBy, 19)) (List.mem_of_getElem? (i := 15) rfl)) rfl
theorem wsel_yX1_reaches : Cond.selects RX1 yX1_reaches yX1_reaches ∈ WS := ws_of (lp_3 (q := (yX1_reaches, 19)) (List.mem_of_getElem? (i := 0) rfl)) rfl
theorem wsel_yX1_spread : Cond.selects RX1 yX1_spread yX1_spread ∈ WS := ws_of (lp_3 (q := (yX1_spread, 19)) (List.mem_of_getElem? (i := 1) rfl)) rfl
theorem wsel_yX1_settle : Cond.selects RX1 yX1_settle yX1_settle ∈ WS := ws_of (lp_3 (q := (yX1_settle, 19)) (List.mem_of_getElem? (i := 2) rfl)) rfl
theorem wsel_yX1_minutesBy : Cond.selects RX1 yX1_minutesBy yX1_minutesBy ∈ WS := ws_of (lp_3 (q := (yX1_minutesBy, 19)) (List.mem_of_getElem? (i := 3) rfl)) rfl
theorem wsel_yX1_soonestHeading : Cond.selects RX1 yX1_soonestHeading yX1_soonestHeading ∈ WS := ws_of (lp_3 (q := (yX1_soonestHeading, 19)) (List.mem_of_getElem? (i := 4) rfl)) rfl
theorem wsel_yX11_choiceStatus : Cond.selects RX11 yX11_choiceStatus yX11_choiceStatus ∈ WS := ws_of (lp_3 (q := (yX11_choiceStatus, 19)) (List.mem_of_getElem? (i := 5) rfl)) rfl
theorem wsel_yX1_sumUp : Cond.selects RX1 yX1_sumUp yX1_sumUp ∈ WS := ws_of (lp_3 (q := (yX1_sumUp, 19)) (List.mem_of_getElem? (i := 6) rfl)) rfl
theorem wsel_yX1_sumWithout : Cond.selects RX1 yX1_sumWithout yX1_sumWithout ∈ WS := ws_of (lp_3 (q := (yX1_sumWithout, 19)) (List.mem_of_getElem? (i := 7) rfl)) rfl
theorem wsel_yX1_likelyThere : Cond.selects RX1 yX1_likelyThere yX1_likelyThere ∈ WS := ws_of (lp_3 (q := (yX1_likelyThere, 19)) (List.mem_of_getElem? (i := 8) rfl)) rfl
theorem wsel_yX6_worthOf : Cond.selects RX6 yX6_worthOf yX6_worthOf ∈ WS := ws_of (lp_3 (q := (yX6_worthOf, 5)) (List.mem_of_getElem? (i := 9) rfl)) rfl
theorem wsel_yX6_worthAt : Cond.selects RX6 yX6_worthAt yX6_worthAt ∈ WS := ws_of (lp_3 (q := (yX6_worthAt, 5)) (List.mem_of_getElem? (i := 10) rfl)) rfl
theorem wsel_yX6_worthBehind : Cond.selects RX6 yX6_worthBehind yX6_worthBehind ∈ WS := ws_of (lp_3 (q := (yX6_worthBehind, 5)) (List.mem_of_getElem? (i := 11) rfl)) rfl
theorem wsel_yX11_partsMarked : Cond.selects RX11 yX11_partsMarked yX11_partsMarked ∈ WS := ws_of (lp_3 (q := (yX11_partsMarked, 19)) (List.mem_of_getElem? (i := 12) rfl)) rfl
theorem wsel_yX11_partsDredged : Cond.selects RX11 yX11_partsDredged yX11_partsDredged ∈ WS := ws_of (lp_3 (q := (yX11_partsDredged, 19)) (List.mem_of_getElem? (i := 13) rfl)) rfl
theorem wsel_yX0_drawTruth : Cond.selects RX0 yX0_drawTruth yX0_drawTruth ∈ WS := ws_of (lp_3 (q := (yX0_drawTruth, 12)) (List.mem_of_getElem? (i := 14) rfl)) rfl
theorem wsel_yX0_draw : Cond.selects RX0 yX0_draw yX0_draw ∈ WS := ws_of (lp_3 (q := (yX0_draw, 12)) (List.mem_of_getElem? (i := 15) rfl)) rfl
theorem wsel_yX0_lineBehindEnd : Cond.selects RX0 yX0_lineBehindEnd yX0_lineBehindEnd ∈ WS := ws_of (lp_4 (q := (yX0_lineBehindEnd, 12)) (List.mem_of_getElem? (i := 0) rfl)) rfl
theorem wsel_yX0_goThrough : Cond.selects RX0 yX0_goThrough yX0_goThrough ∈ WS := ws_of (lp_4 (q := (yX0_goThrough, 12)) (List.mem_of_getElem? (i := 1) rfl)) rfl
theorem wsel_yX0_doStep : Cond.selects RX0 yX0_doStep yX0_doStep ∈ WS := ws_of (lp_4 (q := (yX0_doStep, 12)) (List.mem_of_getElem? (i := 2) rfl)) rfl
theorem wsel_yX0_takeSounding : Cond.selects RX0 yX0_takeSounding yX0_takeSounding ∈ WS := ws_of (lp_4 (q := (yX0_takeSounding, 12)) (List.mem_of_getElem? (i := 3) rfl)) rfl
theorem wsel_yX0_cellOf : Cond.selects RX0 yX0_cellOf yX0_cellOf ∈ WS := ws_of (lp_4 (q := (yX0_cellOf, 12)) (List.mem_of_getElem? (i := 4) rfl)) rfl
theorem wsel_yX0_takeColour : Cond.selects RX0 yX0_takeColour yX0_takeColour ∈ WS := ws_of (lp_4 (q := (yX0_takeColour, 12)) (List.mem_of_getElem? (i := 5) rfl)) rfl
theorem wsel_yX0_waitDay : Cond.selects RX0 yX0_waitDay yX0_waitDay ∈ WS := ws_of (lp_4 (q := (yX0_waitDay, 12)) (List.mem_of_getElem? (i := 6) rfl)) rfl
theorem wsel_yX0_putOff : Cond.selects RX0 yX0_putOff yX0_putOff ∈ WS := ws_of (lp_4 (q := (yX0_putOff, 12)) (List.mem_of_getElem? (i := 7) rfl)) rfl
theorem wsel_yX0_isSo : Cond.selects RX0 yX0_isSo yX0_isSo ∈ WS := ws_of (lp_4 (q := (yX0_isSo, 12)) (List.mem_of_getElem? (i := 8) rfl)) rfl
theorem wsel_yX12_plain : Cond.selects RX12 yX12_plain yX12_plain ∈ WS := ws_of (lp_4 (q := (yX12_plain, 54)) (List.mem_of_getElem? (i := 9) rfl)) rfl
theorem wsel_yX12_is : Cond.selects RX12 yX12_is yX12_is ∈ WS := ws_of (lp_4 (q := (yX12_is, 54)) (List.mem_of_getElem? (i := 10) rfl)) rfl
theorem wsel_yX12_wrongPlace : Cond.selects RX12 yX12_wrongPlace yX12_wrongPlace ∈ WS := ws_of (lp_4 (q := (yX12_wrongPlace, 54)) (List.mem_of_getElem? (i := 11) rfl)) rfl
theorem wsel_yX12_four : Cond.selects RX12 yX12_four yX12_four ∈ WS := ws_of (lp_4 (q := (yX12_four, 54)) (List.mem_of_getElem? (i := 12) rfl)) rfl
theorem wsel_yX12_begins : Cond.selects RX12 yX12_begins yX12_begins ∈ WS := ws_of (lp_4 (q := (yX12_begins, 54)) (List.mem_of_getElem? (i := 13) rfl)) rfl
theorem wsel_yX12_ahead : Cond.selects RX12 yX12_ahead yX12_ahead ∈ WS := ws_of (lp_4 (q := (yX12_ahead, 54)) (List.mem_of_getElem? (i := 14) rfl)) rfl
theorem wsel_yX12_byteAt : Cond.selects RX12 yX12_byteAt yX12_byteAt ∈ WS := ws_of (lp_4 (q := (yX12_byteAt, 54)) (List.mem_of_getElem? (i := 15) rfl)) rfl
theorem wsel_yX12_refuse : Cond.selects RX12 yX12_refuse yX12_refuse ∈ WS := ws_of (lp_5 (q := (yX12_refuse, 54)) (List.mem_of_getElem? (i := 0) rfl)) rfl
theorem wsel_yX12_wantWord : Cond.selects RX12 yX12_wantWord yX12_wantWord ∈ WS := ws_of (lp_5 (q := (yX12_wantWord, 54)) (List.mem_of_getElem? (i := 1) rfl)) rfl
theorem wsel_yX12_inWords : Cond.selects RX12 yX12_inWords yX12_inWords ∈ WS := ws_of (lp_5 (q := (yX12_inWords, 54)) (List.mem_of_getElem? (i := 2) rfl)) rfl
theorem wsel_yX12_fails : Cond.selects RX12 yX12_fails yX12_fails ∈ WS := ws_of (lp_5 (q := (yX12_fails, 54)) (List.mem_of_getElem? (i := 3) rfl)) rfl
theorem wsel_yX12_number : Cond.selects RX12 yX12_number yX12_number ∈ WS := ws_of (lp_5 (q := (yX12_number, 54)) (List.mem_of_getElem? (i := 4) rfl)) rfl
theorem wsel_yX12_wantSign : Cond.selects RX12 yX12_wantSign yX12_wantSign ∈ WS := ws_of (lp_5 (q := (yX12_wantSign, 54)) (List.mem_of_getElem? (i := 5) rfl)) rfl
theorem wsel_yX12_isSign : Cond.selects RX12 yX12_isSign yX12_isSign ∈ WS := ws_of (lp_5 (q := (yX12_isSign, 54)) (List.mem_of_getElem? (i := 6) rfl)) rfl
theorem wsel_yX12_riverPart : Cond.selects RX12 yX12_riverPart yX12_riverPart ∈ WS := ws_of (lp_5 (q := (yX12_riverPart, 54)) (List.mem_of_getElem? (i := 7) rfl)) rfl
theorem wsel_yX12_aRow : Cond.selects RX12 yX12_aRow yX12_aRow ∈ WS := ws_of (lp_5 (q := (yX12_aRow, 54)) (List.mem_of_getElem? (i := 8) rfl)) rfl
theorem wsel_yX12_aBar : Cond.selects RX12 yX12_aBar yX12_aBar ∈ WS := ws_of (lp_5 (q := (yX12_aBar, 54)) (List.mem_of_getElem? (i := 9) rfl)) rfl
theorem wsel_yX12_isName : Cond.selects RX12 yX12_isName yX12_isName ∈ WS := ws_of (lp_5 (q := (yX12_isName, 54)) (List.mem_of_getElem? (i := 10) rfl)) rfl
theorem wsel_yX12_findHere : Cond.selects RX12 yX12_findHere yX12_findHere ∈ WS := ws_of (lp_5 (q := (yX12_findHere, 54)) (List.mem_of_getElem? (i := 11) rfl)) rfl
theorem wsel_yX12_nameHere : Cond.selects RX12 yX12_nameHere yX12_nameHere ∈ WS := ws_of (lp_5 (q := (yX12_nameHere, 54)) (List.mem_of_getElem? (i := 12) rfl)) rfl
theorem wsel_yX12_someCells : Cond.selects RX12 yX12_someCells yX12_someCells ∈ WS := ws_of (lp_5 (q := (yX12_someCells, 54)) (List.mem_of_getElem? (i := 13) rfl)) rfl
theorem wsel_yX12_someStages : Cond.selects RX12 yX12_someStages yX12_someStages ∈ WS := ws_of (lp_5 (q := (yX12_someStages, 54)) (List.mem_of_getElem? (i := 14) rfl)) rfl
theorem wsel_yX12_aBoat : Cond.selects RX12 yX12_aBoat yX12_aBoat ∈ WS := ws_of (lp_5 (q := (yX12_aBoat, 54)) (List.mem_of_getElem? (i := 15) rfl)) rfl
theorem wsel_yX12_first : Cond.selects RX12 yX12_first yX12_first ∈ WS := ws_of (lp_6 (q := (yX12_first, 54)) (List.mem_of_getElem? (i := 0) rfl)) rfl
theorem wsel_yX12_sets : Cond.selects RX12 yX12_sets yX12_sets ∈ WS := ws_of (lp_6 (q := (yX12_sets, 54)) (List.mem_of_getElem? (i := 1) rfl)) rfl
theorem wsel_yX12_ofBar : Cond.selects RX12 yX12_ofBar yX12_ofBar ∈ WS := ws_of (lp_6 (q := (yX12_ofBar, 54)) (List.mem_of_getElem? (i := 2) rfl)) rfl
theorem wsel_yX12_sharesOut : Cond.selects RX12 yX12_sharesOut yX12_sharesOut ∈ WS := ws_of (lp_6 (q := (yX12_sharesOut, 54)) (List.mem_of_getElem? (i := 3) rfl)) rfl
theorem wsel_yX12_cells : Cond.selects RX12 yX12_cells yX12_cells ∈ WS := ws_of (lp_6 (q := (yX12_cells, 54)) (List.mem_of_getElem? (i := 4) rfl)) rfl
theorem wsel_yX12_taken : Cond.selects RX12 yX12_taken yX12_taken ∈ WS := ws_of (lp_6 (q := (yX12_taken, 54)) (List.mem_of_getElem? (i := 5) rfl)) rfl
theorem wsel_yX12_gives : Cond.selects RX12 yX12_gives yX12_gives ∈ WS := ws_of (lp_6 (q := (yX12_gives, 54)) (List.mem_of_getElem? (i := 6) rfl)) rfl
theorem wsel_yX12_step : Cond.selects RX12 yX12_step yX12_step ∈ WS := ws_of (lp_6 (q := (yX12_step, 54)) (List.mem_of_getElem? (i := 7) rfl)) rfl
theorem wsel_yX12_ruleName : Cond.selects RX12 yX12_ruleName yX12_ruleName ∈ WS := ws_of (lp_6 (q := (yX12_ruleName, 54)) (List.mem_of_getElem? (i := 8) rfl)) rfl
theorem wsel_yX12_isBar : Cond.selects RX12 yX12_isBar yX12_isBar ∈ WS := ws_of (lp_6 (q := (yX12_isBar, 54)) (List.mem_of_getElem? (i := 9) rfl)) rfl
theorem wsel_yX12_cellOf : Cond.selects RX12 yX12_cellOf yX12_cellOf ∈ WS := ws_of (lp_6 (q := (yX12_cellOf, 54)) (List.mem_of_getElem? (i := 10) rfl)) rfl
theorem wsel_yX12_isCell : Cond.selects RX12 yX12_isCell yX12_isCell ∈ WS := ws_of (lp_6 (q := (yX12_isCell, 54)) (List.mem_of_getElem? (i := 11) rfl)) rfl
theorem wsel_yX12_stageOf : Cond.selects RX12 yX12_stageOf yX12_stageOf ∈ WS := ws_of (lp_6 (q := (yX12_stageOf, 54)) (List.mem_of_getElem? (i := 12) rfl)) rfl
theorem wsel_yX12_isSet : Cond.selects RX12 yX12_isSet yX12_isSet ∈ WS := ws_of (lp_6 (q := (yX12_isSet, 54)) (List.mem_of_getElem? (i := 13) rfl)) rfl
theorem wsel_yX12_depthOf : Cond.selects RX12 yX12_depthOf yX12_depthOf ∈ WS := ws_of (lp_6 (q := (yX12_depthOf, 54)) (List.mem_of_getElem? (i := 14) rfl)) rfl
theorem wsel_yX12_openOf : Cond.selects RX12 yX12_openOf yX12_openOf ∈ WS := ws_of (lp_6 (q := (yX12_openOf, 54)) (List.mem_of_getElem? (i := 15) rfl)) rfl
theorem wsel_yX12_passes : Cond.selects RX12 yX12_passes yX12_passes ∈ WS := ws_of (lp_7 (q := (yX12_passes, 54)) (List.mem_of_getElem? (i := 0) rfl)) rfl
theorem wsel_yX12_partsOf : Cond.selects RX12 yX12_partsOf yX12_partsOf ∈ WS := ws_of (lp_7 (q := (yX12_partsOf, 54)) (List.mem_of_getElem? (i := 1) rfl)) rfl
theorem wsel_yX12_tellsBy : Cond.selects RX12 yX12_tellsBy yX12_tellsBy ∈ WS := ws_of (lp_7 (q := (yX12_tellsBy, 54)) (List.mem_of_getElem? (i := 2) rfl)) rfl
theorem wsel_yX12_passDay : Cond.selects RX12 yX12_passDay yX12_passDay ∈ WS := ws_of (lp_7 (q := (yX12_passDay, 54)) (List.mem_of_getElem? (i := 3) rfl)) rfl
theorem wsel_yX12_sounds : Cond.selects RX12 yX12_sounds yX12_sounds ∈ WS := ws_of (lp_7 (q := (yX12_sounds, 54)) (List.mem_of_getElem? (i := 4) rfl)) rfl
theorem wsel_yX12_weighs : Cond.selects RX12 yX12_weighs yX12_weighs ∈ WS := ws_of (lp_7 (q := (yX12_weighs, 54)) (List.mem_of_getElem? (i := 5) rfl)) rfl
theorem wsel_yX12_colours : Cond.selects RX12 yX12_colours yX12_colours ∈ WS := ws_of (lp_7 (q := (yX12_colours, 54)) (List.mem_of_getElem? (i := 6) rfl)) rfl
theorem wsel_yX12_wrongWay : Cond.selects RX12 yX12_wrongWay yX12_wrongWay ∈ WS := ws_of (lp_7 (q := (yX12_wrongWay, 54)) (List.mem_of_getElem? (i := 7) rfl)) rfl
theorem wsel_yX12_headingTo : Cond.selects RX12 yX12_headingTo yX12_headingTo ∈ WS := ws_of (lp_7 (q := (yX12_headingTo, 54)) (List.mem_of_getElem? (i := 8) rfl)) rfl
theorem wsel_yX12_leads : Cond.selects RX12 yX12_leads yX12_leads ∈ WS := ws_of (lp_7 (q := (yX12_leads, 54)) (List.mem_of_getElem? (i := 9) rfl)) rfl
theorem wsel_yX12_stepMinutes : Cond.selects RX12 yX12_stepMinutes yX12_stepMinutes ∈ WS := ws_of (lp_7 (q := (yX12_stepMinutes, 54)) (List.mem_of_getElem? (i := 10) rfl)) rfl
theorem wsel_yX12_struckAt : Cond.selects RX12 yX12_struckAt yX12_struckAt ∈ WS := ws_of (lp_7 (q := (yX12_struckAt, 54)) (List.mem_of_getElem? (i := 11) rfl)) rfl
theorem wsel_yX12_readies : Cond.selects RX12 yX12_readies yX12_readies ∈ WS := ws_of (lp_7 (q := (yX12_readies, 54)) (List.mem_of_getElem? (i := 12) rfl)) rfl
theorem wsel_yX12_reckons : Cond.selects RX12 yX12_reckons yX12_reckons ∈ WS := ws_of (lp_7 (q := (yX12_reckons, 54)) (List.mem_of_getElem? (i := 13) rfl)) rfl
theorem wsel_yX12_betters : Cond.selects RX12 yX12_betters yX12_betters ∈ WS := ws_of (lp_7 (q := (yX12_betters, 54)) (List.mem_of_getElem? (i := 14) rfl)) rfl
theorem wsel_yX12_walks : Cond.selects RX12 yX12_walks yX12_walks ∈ WS := ws_of (lp_7 (q := (yX12_walks, 54)) (List.mem_of_getElem? (i := 15) rfl)) rfl
theorem wsel_yX12_areCells : Cond.selects RX12 yX12_areCells yX12_areCells ∈ WS := ws_of (lp_8 (q := (yX12_areCells, 54)) (List.mem_of_getElem? (i := 0) rfl)) rfl
theorem wsel_yX12_surestOf : Cond.selects RX12 yX12_surestOf yX12_surestOf ∈ WS := ws_of (lp_8 (q := (yX12_surestOf, 54)) (List.mem_of_getElem? (i := 1) rfl)) rfl
theorem wsel_yX12_meanOf : Cond.selects RX12 yX12_meanOf yX12_meanOf ∈ WS := ws_of (lp_8 (q := (yX12_meanOf, 54)) (List.mem_of_getElem? (i := 2) rfl)) rfl
theorem wsel_yX12_thinks : Cond.selects RX12 yX12_thinks yX12_thinks ∈ WS := ws_of (lp_8 (q := (yX12_thinks, 54)) (List.mem_of_getElem? (i := 3) rfl)) rfl
theorem wsel_yX12_bestBar : Cond.selects RX12 yX12_bestBar yX12_bestBar ∈ WS := ws_of (lp_8 (q := (yX12_bestBar, 54)) (List.mem_of_getElem? (i := 4) rfl)) rfl
theorem wsel_yX12_hasCell : Cond.selects RX12 yX12_hasCell yX12_hasCell ∈ WS := ws_of (lp_8 (q := (yX12_hasCell, 54)) (List.mem_of_getElem? (i := 5) rfl)) rfl
theorem wsel_yX12_worthOf : Cond.selects RX12 yX12_worthOf yX12_worthOf ∈ WS := ws_of (lp_8 (q := (yX12_worthOf, 54)) (List.mem_of_getElem? (i := 6) rfl)) rfl
theorem wsel_yX12_worthOf1 : Cond.selects RX12 yX12_worthOf1 yX12_worthOf1 ∈ WS := ws_of (lp_8 (q := (yX12_worthOf1, 54)) (List.mem_of_getElem? (i := 7) rfl)) rfl
theorem wsel_yX12_readFrom : Cond.selects RX12 yX12_readFrom yX12_readFrom ∈ WS := ws_of (lp_8 (q := (yX12_readFrom, 54)) (List.mem_of_getElem? (i := 8) rfl)) rfl
theorem wsel_yX12_readTo : Cond.selects RX12 yX12_readTo yX12_readTo ∈ WS := ws_of (lp_8 (q := (yX12_readTo, 54)) (List.mem_of_getElem? (i := 9) rfl)) rfl
theorem wsel_yX12_reads : Cond.selects RX12 yX12_reads yX12_reads ∈ WS := ws_of (lp_8 (q := (yX12_reads, 54)) (List.mem_of_getElem? (i := 10) rfl)) rfl
theorem wsel_yX12_worth0 : Cond.selects RX12 yX12_worth0 yX12_worth0 ∈ WS := ws_of (lp_8 (q := (yX12_worth0, 54)) (List.mem_of_getElem? (i := 11) rfl)) rfl
theorem wsel_yX12_worthOf2 : Cond.selects RX12 yX12_worthOf2 yX12_worthOf2 ∈ WS := ws_of (lp_8 (q := (yX12_worthOf2, 54)) (List.mem_of_getElem? (i := 12) rfl)) rfl
theorem wsel_yX12_worth1 : Cond.selects RX12 yX12_worth1 yX12_worth1 ∈ WS := ws_of (lp_8 (q := (yX12_worth1, 54)) (List.mem_of_getElem? (i := 13) rfl)) rfl
theorem wsel_yX12_worthOf3 : Cond.selects RX12 yX12_worthOf3 yX12_worthOf3 ∈ WS := ws_of (lp_8 (q := (yX12_worthOf3, 54)) (List.mem_of_getElem? (i := 14) rfl)) rfl
theorem wsel_yX12_worth2 : Cond.selects RX12 yX12_worth2 yX12_worth2 ∈ WS := ws_of (lp_8 (q := (yX12_worth2, 54)) (List.mem_of_getElem? (i := 15) rfl)) rfl
theorem wsel_yX12_keeps : Cond.selects RX12 yX12_keeps yX12_keeps ∈ WS := ws_of (lp_9 (q := (yX12_keeps, 54)) (List.mem_of_getElem? (i := 0) rfl)) rfl
theorem wsel_yX12_brings : Cond.selects RX12 yX12_brings yX12_brings ∈ WS := ws_of (lp_9 (q := (yX12_brings, 54)) (List.mem_of_getElem? (i := 1) rfl)) rfl
theorem wsel_yX12_markedBy : Cond.selects RX12 yX12_markedBy yX12_markedBy ∈ WS := ws_of (lp_9 (q := (yX12_markedBy, 54)) (List.mem_of_getElem? (i := 2) rfl)) rfl
theorem wsel_yX12_plays : Cond.selects RX12 yX12_plays yX12_plays ∈ WS := ws_of (lp_9 (q := (yX12_plays, 54)) (List.mem_of_getElem? (i := 3) rfl)) rfl
theorem wsel_yX12_drawTruth : Cond.selects RX12 yX12_drawTruth yX12_drawTruth ∈ WS := ws_of (lp_9 (q := (yX12_drawTruth, 54)) (List.mem_of_getElem? (i := 4) rfl)) rfl
theorem wsel_yX12_draw : Cond.selects RX12 yX12_draw yX12_draw ∈ WS := ws_of (lp_9 (q := (yX12_draw, 54)) (List.mem_of_getElem? (i := 5) rfl)) rfl
theorem wsel_yX12_does : Cond.selects RX12 yX12_does yX12_does ∈ WS := ws_of (lp_9 (q := (yX12_does, 54)) (List.mem_of_getElem? (i := 6) rfl)) rfl
theorem wsel_yX12_soundsAt : Cond.selects RX12 yX12_soundsAt yX12_soundsAt ∈ WS := ws_of (lp_9 (q := (yX12_soundsAt, 54)) (List.mem_of_getElem? (i := 7) rfl)) rfl
theorem wsel_yX12_coloursAt : Cond.selects RX12 yX12_coloursAt yX12_coloursAt ∈ WS := ws_of (lp_9 (q := (yX12_coloursAt, 54)) (List.mem_of_getElem? (i := 8) rfl)) rfl
theorem wsel_yX12_waits : Cond.selects RX12 yX12_waits yX12_waits ∈ WS := ws_of (lp_9 (q := (yX12_waits, 54)) (List.mem_of_getElem? (i := 9) rfl)) rfl
theorem wsel_yX12_holds : Cond.selects RX12 yX12_holds yX12_holds ∈ WS := ws_of (lp_9 (q := (yX12_holds, 54)) (List.mem_of_getElem? (i := 10) rfl)) rfl
theorem wsel_yX12_goes : Cond.selects RX12 yX12_goes yX12_goes ∈ WS := ws_of (lp_9 (q := (yX12_goes, 54)) (List.mem_of_getElem? (i := 11) rfl)) rfl
theorem wsel_yX12_behindEnds : Cond.selects RX12 yX12_behindEnds yX12_behindEnds ∈ WS := ws_of (lp_9 (q := (yX12_behindEnds, 54)) (List.mem_of_getElem? (i := 12) rfl)) rfl
theorem wsel_yX12_tellsPlayed : Cond.selects RX12 yX12_tellsPlayed yX12_tellsPlayed ∈ WS := ws_of (lp_9 (q := (yX12_tellsPlayed, 54)) (List.mem_of_getElem? (i := 13) rfl)) rfl
theorem wsel_yX12_copies : Cond.selects RX12 yX12_copies yX12_copies ∈ WS := ws_of (lp_9 (q := (yX12_copies, 54)) (List.mem_of_getElem? (i := 14) rfl)) rfl
theorem wsr_RX3_57 : Cond.stringRef RX3 57 "size" ∈ lw_tbl := lt_3 (List.mem_of_getElem? (i := 208) rfl)
theorem wsr_RX3_79 : Cond.stringRef RX3 79 "row" ∈ lw_tbl := lt_4 (List.mem_of_getElem? (i := 54) rfl)
theorem wsr_RX3_88 : Cond.stringRef RX3 88 "bar" ∈ lw_tbl := lt_4 (List.mem_of_getElem? (i := 63) rfl)
theorem wsr_RX8_91 : Cond.stringRef RX8 91 "size row bar takes chance goes comes at to stage less boat draft load straight slant turn lost pole colour " ∈ lw_tbl := lt_4 (List.mem_of_getElem? (i := 76) rfl)
theorem wsr_RX3_159 : Cond.stringRef RX3 159 "takes" ∈ lw_tbl := lt_4 (List.mem_of_getElem? (i := 81) rfl)
theorem wsr_RX3_163 : Cond.stringRef RX3 163 "chance" ∈ lw_tbl := lt_4 (List.mem_of_getElem? (i := 82) rfl)
theorem wsr_RX3_168 : Cond.stringRef RX3 168 "goes" ∈ lw_tbl := lt_4 (List.mem_of_getElem? (i := 83) rfl)
theorem wsr_RX3_172 : Cond.stringRef RX3 172 "comes" ∈ lw_tbl := lt_4 (List.mem_of_getElem? (i := 84) rfl)
theorem wsr_RX3_93 : Cond.stringRef RX3 93 "at" ∈ lw_tbl := lt_4 (List.mem_of_getElem? (i := 85) rfl)
theorem wsr_RX3_176 : Cond.stringRef RX3 176 "to" ∈ lw_tbl := lt_4 (List.mem_of_getElem? (i := 90) rfl)
theorem wsr_RX3_98 : Cond.stringRef RX3 98 "stage" ∈ lw_tbl := lt_4 (List.mem_of_getElem? (i := 95) rfl)
theorem wsr_RX3_185 : Cond.stringRef RX3 185 "less" ∈ lw_tbl := lt_4 (List.mem_of_getElem? (i := 100) rfl)
theorem wsr_RX3_103 : Cond.stringRef RX3 103 "boat" ∈ lw_tbl := lt_4 (List.mem_of_getElem? (i := 101) rfl)
theorem wsr_RX3_190 : Cond.stringRef RX3 190 "draft" ∈ lw_tbl := lt_4 (List.mem_of_getElem? (i := 106) rfl)
theorem wsr_RX3_194 : Cond.stringRef RX3 194 "load" ∈ lw_tbl := lt_4 (List.mem_of_getElem? (i := 107) rfl)
theorem wsr_RX3_204 : Cond.stringRef RX3 204 "straight" ∈ lw_tbl := lt_4 (List.mem_of_getElem? (i := 111) rfl)
theorem wsr_RX3_208 : Cond.stringRef RX3 208 "slant" ∈ lw_tbl := lt_4 (List.mem_of_getElem? (i := 112) rfl)
theorem wsr_RX3_212 : Cond.stringRef RX3 212 "turn" ∈ lw_tbl := lt_4 (List.mem_of_getElem? (i := 113) rfl)
theorem wsr_RX3_216 : Cond.stringRef RX3 216 "lost" ∈ lw_tbl := lt_4 (List.mem_of_getElem? (i := 114) rfl)
theorem wsr_RX3_108 : Cond.stringRef RX3 108 "pole" ∈ lw_tbl := lt_4 (List.mem_of_getElem? (i := 115) rfl)
theorem wsr_RX3_113 : Cond.stringRef RX3 113 "colour" ∈ lw_tbl := lt_4 (List.mem_of_getElem? (i := 120) rfl)
theorem wsr_RX5_48 : Cond.stringRef RX5 48 "end" ∈ lw_tbl := lt_4 (List.mem_of_getElem? (i := 147) rfl)
theorem wsr_RX5_89 : Cond.stringRef RX5 89 "sound" ∈ lw_tbl := lt_4 (List.mem_of_getElem? (i := 168) rfl)
theorem wsr_RX5_91 : Cond.stringRef RX5 91 "colour" ∈ lw_tbl := lt_4 (List.mem_of_getElem? (i := 169) rfl)
theorem wsr_RX5_93 : Cond.stringRef RX5 93 "wait" ∈ lw_tbl := lt_4 (List.mem_of_getElem? (i := 170) rfl)
theorem wsr_RX5_95 : Cond.stringRef RX5 95 "off" ∈ lw_tbl := lt_4 (List.mem_of_getElem? (i := 171) rfl)
theorem wsr_RX5_97 : Cond.stringRef RX5 97 "when" ∈ lw_tbl := lt_4 (List.mem_of_getElem? (i := 172) rfl)
theorem wsr_RX5_99 : Cond.stringRef RX5 99 "loop" ∈ lw_tbl := lt_4 (List.mem_of_getElem? (i := 173) rfl)
theorem wsr_RX5_101 : Cond.stringRef RX5 101 "go" ∈ lw_tbl := lt_4 (List.mem_of_getElem? (i := 174) rfl)
theorem wsr_RX5_103 : Cond.stringRef RX5 103 "stop" ∈ lw_tbl := lt_4 (List.mem_of_getElem? (i := 175) rfl)
theorem wsr_RX5_115 : Cond.stringRef RX5 115 "sure" ∈ lw_tbl := lt_4 (List.mem_of_getElem? (i := 196) rfl)
theorem wsr_RX5_120 : Cond.stringRef RX5 120 "there" ∈ lw_tbl := lt_4 (List.mem_of_getElem? (i := 197) rfl)
theorem wsr_RX5_122 : Cond.stringRef RX5 122 "gone" ∈ lw_tbl := lt_4 (List.mem_of_getElem? (i := 198) rfl)
theorem wsr_RX12_194 : Cond.stringRef RX12 194 " size row bar takes chance goes comes at to stage less boat draft load straight slant turn lost pole colour " ∈ lw_tbl := lt_7 (List.mem_of_getElem? (i := 216) rfl)
theorem wsr_RX12_249 : Cond.stringRef RX12 249 " sound colour wait off when loop end go stop there gone sure " ∈ lw_tbl := lt_8 (List.mem_of_getElem? (i := 76) rfl)
theorem inRX0 : ∀ w ∈ wsX00, w ∈ WS := by
  intro w hw
  obtain ⟨k, hk, rfl⟩ := List.mem_map.mp hw
  have hk := List.mem_range.mp hk
  match k, hk with
  | 0, _ => exact wly_RX0_thinker
  | 1, _ => exact wly_RX0_ground
  | 2, _ => exact wly_RX0_tally
  | 3, _ => exact wly_RX0_parts
  | 4, _ => exact wly_RX0_turnsLeft
  | 5, _ => exact wly_RX0_river
  | 6, _ => exact wly_RX0_rule
  | 7, _ => exact wly_RX0_from
  | 8, _ => exact wly_RX0_to
  | 9, _ => exact wly_RX0_day
  | 10, _ => exact wly_RX0_off
  | 11, _ => exact wly_RX0_seed
  | k + 12, h => exact absurd h (by omega)
theorem inRX1 : ∀ w ∈ wsX10, w ∈ WS := by
  intro w hw
  obtain ⟨k, hk, rfl⟩ := List.mem_map.mp hw
  have hk := List.mem_range.mp hk
  match k, hk with
  | 0, _ => exact wly_RX1_hasWay
  | 1, _ => exact wly_RX1_leastSets
  | 2, _ => exact wly_RX1_leastCount
  | 3, _ => exact wly_RX1_sums
  | 4, _ => exact wly_RX1_barCells
  | 5, _ => exact wly_RX1_rest
  | 6, _ => exact wly_RX1_kept
  | 7, _ => exact wly_RX1_keptCells
  | 8, _ => exact wly_RX1_chosen
  | 9, _ => exact wly_RX1_chosenMinutes
  | 10, _ => exact wly_RX1_chosenParts
  | 11, _ => exact wly_RX1_river
  | 12, _ => exact wly_RX1_stage
  | 13, _ => exact wly_RX1_need
  | 14, _ => exact wly_RX1_from
  | 15, _ => exact wly_RX1_to
  | 16, _ => exact wly_RX1_openCells
  | 17, _ => exact wly_RX1_leftEdge
  | 18, _ => exact wly_RX1_rightEdge
  | k + 19, h => exact absurd h (by omega)
theorem inRX2 : ∀ w ∈ wsX20, w ∈ WS := by
  intro w hw
  obtain ⟨k, hk, rfl⟩ := List.mem_map.mp hw
  have hk := List.mem_range.mp hk
  match k, hk with
  | 0, _ => exact wly_RX2_width
  | 1, _ => exact wly_RX2_height
  | 2, _ => exact wly_RX2_bars
  | 3, _ => exact wly_RX2_draft
  | 4, _ => exact wly_RX2_load
  | 5, _ => exact wly_RX2_straight
  | 6, _ => exact wly_RX2_slant
  | 7, _ => exact wly_RX2_turn
  | 8, _ => exact wly_RX2_lost
  | 9, _ => exact wly_RX2_pole
  | 10, _ => exact wly_RX2_water
  | 11, _ => exact wly_RX2_depths
  | 12, _ => exact wly_RX2_owners
  | 13, _ => exact wly_RX2_stages
  | 14, _ => exact wly_RX2_names
  | 15, _ => exact wly_RX2_takes
  | 16, _ => exact wly_RX2_chances
  | 17, _ => exact wly_RX2_goes
  | 18, _ => exact wly_RX2_comes
  | 19, _ => exact wly_RX2_least
  | k + 20, h => exact absurd h (by omega)
theorem inRX3 : ∀ w ∈ wsX30, w ∈ WS := by
  intro w hw
  obtain ⟨k, hk, rfl⟩ := List.mem_map.mp hw
  have hk := List.mem_range.mp hk
  match k, hk with
  | 0, _ => exact wly_RX3_text
  | 1, _ => exact wly_RX3_river
  | 2, _ => exact wly_RX3_rows
  | 3, _ => exact wly_RX3_hasStage
  | 4, _ => exact wly_RX3_hasBoat
  | 5, _ => exact wly_RX3_hasPole
  | 6, _ => exact wly_RX3_hasColour
  | k + 7, h => exact absurd h (by omega)
theorem inRX4 : ∀ w ∈ wsX40, w ∈ WS := by
  intro w hw
  obtain ⟨k, hk, rfl⟩ := List.mem_map.mp hw
  have hk := List.mem_range.mp hk
  match k, hk with
  | 0, _ => exact wly_RX4_lines
  | 1, _ => exact wly_RX4_steps
  | 2, _ => exact wly_RX4_does
  | 3, _ => exact wly_RX4_bars
  | 4, _ => exact wly_RX4_numbers
  | 5, _ => exact wly_RX4_partners
  | k + 6, h => exact absurd h (by omega)
theorem inRX5 : ∀ w ∈ wsX50, w ∈ WS := by
  intro w hw
  obtain ⟨k, hk, rfl⟩ := List.mem_map.mp hw
  have hk := List.mem_range.mp hk
  match k, hk with
  | 0, _ => exact wly_RX5_text
  | 1, _ => exact wly_RX5_opened
  | 2, _ => exact wly_RX5_rule
  | 3, _ => exact wly_RX5_river
  | 4, _ => exact wly_RX5_deep
  | k + 5, h => exact absurd h (by omega)
theorem inRX6 : ∀ w ∈ wsX60, w ∈ WS := by
  intro w hw
  obtain ⟨k, hk, rfl⟩ := List.mem_map.mp hw
  have hk := List.mem_range.mp hk
  match k, hk with
  | 0, _ => exact wly_RX6_ground
  | 1, _ => exact wly_RX6_weights
  | 2, _ => exact wly_RX6_river
  | 3, _ => exact wly_RX6_stage
  | 4, _ => exact wly_RX6_canSound
  | k + 5, h => exact absurd h (by omega)
theorem inRX7 : ∀ w ∈ wsX70, w ∈ WS := by
  intro w hw
  obtain ⟨k, hk, rfl⟩ := List.mem_map.mp hw
  have hk := List.mem_range.mp hk
  match k, hk with
  | 0, _ => exact wly_RX7_river
  | 1, _ => exact wly_RX7_rule
  | 2, _ => exact wly_RX7_parts
  | 3, _ => exact wly_RX7_day
  | 4, _ => exact wly_RX7_off
  | k + 5, h => exact absurd h (by omega)
theorem inRX8 : ∀ w ∈ wsX80, w ∈ WS := by
  intro w hw
  obtain ⟨k, hk, rfl⟩ := List.mem_map.mp hw
  have hk := List.mem_range.mp hk
  match k, hk with
  | 0, _ => exact wly_RX8_bytes
  | 1, _ => exact wly_RX8_many
  | 2, _ => exact wly_RX8_limit
  | 3, _ => exact wly_RX8_at
  | 4, _ => exact wly_RX8_kind
  | 5, _ => exact wly_RX8_begin
  | 6, _ => exact wly_RX8_word
  | 7, _ => exact wly_RX8_number
  | 8, _ => exact wly_RX8_taken
  | 9, _ => exact wly_RX8_fault
  | 10, _ => exact wly_RX8_place
  | k + 11, h => exact absurd h (by omega)
theorem inRX9 : ∀ w ∈ wsX90, w ∈ WS := by
  intro w hw
  obtain ⟨k, hk, rfl⟩ := List.mem_map.mp hw
  have hk := List.mem_range.mp hk
  match k, hk with
  | 0, _ => exact wly_RX9_weights
  | k + 1, h => exact absurd h (by omega)
theorem inRX10 : ∀ w ∈ wsX100, w ∈ WS := by
  intro w hw
  obtain ⟨k, hk, rfl⟩ := List.mem_map.mp hw
  have hk := List.mem_range.mp hk
  match k, hk with
  | 0, _ => exact wly_RX10_row
  | 1, _ => exact wly_RX10_sort
  | 2, _ => exact wly_RX10_many
  | k + 3, h => exact absurd h (by omega)
theorem inRX11 : ∀ w ∈ wsX110, w ∈ WS := by
  intro w hw
  obtain ⟨k, hk, rfl⟩ := List.mem_map.mp hw
  have hk := List.mem_range.mp hk
  match k, hk with
  | 0, _ => exact wly_RX11_trays
  | 1, _ => exact wly_RX11_now
  | 2, _ => exact wly_RX11_marks
  | 3, _ => exact wly_RX11_spareRiver
  | 4, _ => exact wly_RX11_spareRule
  | 5, _ => exact wly_RX11_text
  | 6, _ => exact wly_RX11_riverReader
  | 7, _ => exact wly_RX11_ruleReader
  | 8, _ => exact wly_RX11_thinker
  | 9, _ => exact wly_RX11_ground
  | 10, _ => exact wly_RX11_scout
  | 11, _ => exact wly_RX11_game
  | 12, _ => exact wly_RX11_guess
  | 13, _ => exact wly_RX11_lastGame
  | 14, _ => exact wly_RX11_hasPlayed
  | 15, _ => exact wly_RX11_markCount
  | 16, _ => exact wly_RX11_status
  | 17, _ => exact wly_RX11_top
  | 18, _ => exact wly_RX11_bottom
  | k + 19, h => exact absurd h (by omega)
theorem inRX12 : ∀ w ∈ wsX120, w ∈ WS := by
  intro w hw
  obtain ⟨k, hk, rfl⟩ := List.mem_map.mp hw
  have hk := List.mem_range.mp hk
  match k, hk with
  | 0, _ => exact wly_RX12_at
  | 1, _ => exact wly_RX12_names
  | 2, _ => exact wly_RX12_status
  | 3, _ => exact wly_RX12_top
  | 4, _ => exact wly_RX12_bottom
  | 5, _ => exact wly_RX12_sort
  | 6, _ => exact wly_RX12_trayMany
  | 7, _ => exact wly_RX12_trays
  | 8, _ => exact wly_RX12_tape
  | 9, _ => exact wly_RX12_text
  | 10, _ => exact wly_RX12_taped
  | 11, _ => exact wly_RX12_size
  | 12, _ => exact wly_RX12_token
  | 13, _ => exact wly_RX12_from
  | 14, _ => exact wly_RX12_end
  | 15, _ => exact wly_RX12_value
  | 16, _ => exact wly_RX12_faultKind
  | 17, _ => exact wly_RX12_faultPlace
  | 18, _ => exact wly_RX12_faults
  | 19, _ => exact wly_RX12_seen
  | 20, _ => exact wly_RX12_rowsTold
  | 21, _ => exact wly_RX12_corner
  | 22, _ => exact wly_RX12_version
  | 23, _ => exact wly_RX12_opened
  | 24, _ => exact wly_RX12_depth
  | 25, _ => exact wly_RX12_steps
  | 26, _ => exact wly_RX12_weights
  | 27, _ => exact wly_RX12_others
  | 28, _ => exact wly_RX12_minutesTo
  | 29, _ => exact wly_RX12_mayGo
  | 30, _ => exact wly_RX12_fewest
  | 31, _ => exact wly_RX12_keptFrom
  | 32, _ => exact wly_RX12_keptTo
  | 33, _ => exact wly_RX12_keptNeed
  | 34, _ => exact wly_RX12_keptVersion
  | 35, _ => exact wly_RX12_wayCell
  | 36, _ => exact wly_RX12_wayMany
  | 37, _ => exact wly_RX12_level
  | 38, _ => exact wly_RX12_keptParts
  | 39, _ => exact wly_RX12_keptDay
  | 40, _ => exact wly_RX12_keptOff
  | 41, _ => exact wly_RX12_drawn
  | 42, _ => exact wly_RX12_truth
  | 43, _ => exact wly_RX12_ranMinutes
  | 44, _ => exact wly_RX12_ranSteps
  | 45, _ => exact wly_RX12_ranSounded
  | 46, _ => exact wly_RX12_ranDays
  | 47, _ => exact wly_RX12_ranWent
  | 48, _ => exact wly_RX12_ranLeft
  | 49, _ => exact wly_RX12_ranEnd
  | 50, _ => exact wly_RX12_rounds
  | 51, _ => exact wly_RX12_played
  | 52, _ => exact wly_RX12_isPlayed
  | 53, _ => exact wly_RX12_marks
  | k + 54, h => exact absurd h (by omega)
