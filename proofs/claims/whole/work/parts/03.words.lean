def TG : List Cond := lw_tbl.filter goodWord
theorem tg_of {w : Cond} (h : w ∈ lw_tbl) (g : goodWord w = true) : w ∈ TG := List.mem_filter.mpr ⟨h, g⟩
theorem tg_in {w : Cond} (h : w ∈ TG) : w ∈ lw_tbl := (List.mem_filter.mp h).1
theorem tg_good {w : Cond} (h : w ∈ TG) : goodWord w = true := (List.mem_filter.mp h).2
theorem tg_1 {w : Cond} {i : Nat} (h : tables_1_1[i]? = some w) (g : goodWord w = true) : w ∈ TG := tg_of (List.mem_append_right _ (List.mem_append_left _ (List.mem_of_getElem? h))) g
theorem tg_2 {w : Cond} {i : Nat} (h : tables_1_2[i]? = some w) (g : goodWord w = true) : w ∈ TG := tg_of (List.mem_append_right _ (List.mem_append_right _ (List.mem_append_left _ (List.mem_of_getElem? h)))) g
theorem tg_3 {w : Cond} {i : Nat} (h : tables_1_3[i]? = some w) (g : goodWord w = true) : w ∈ TG := tg_of (List.mem_append_right _ (List.mem_append_right _ (List.mem_append_right _ (List.mem_append_left _ (List.mem_of_getElem? h))))) g
theorem tg_4 {w : Cond} {i : Nat} (h : tables_1_4[i]? = some w) (g : goodWord w = true) : w ∈ TG := tg_of (List.mem_append_right _ (List.mem_append_right _ (List.mem_append_right _ (List.mem_append_right _ (List.mem_of_getElem? h))))) g
theorem tg_p {w : Cond} {i : Nat} (h : (k2_sels lw_privs)[i]? = some w) (g : goodWord w = true) : w ∈ TG := tg_of (List.mem_append_left _ (List.mem_of_getElem? h)) g
theorem tg_c {y : MethodName} {c : ByteArray} {n : Nat} {r : Option FieldType} : GoodIn (Cond.code y c n r :: TG) TG := fun w h => ⟨List.mem_cons_of_mem _ h, good_of_word (tg_good h)⟩
theorem tg_cc {y y2 : MethodName} {c c2 : ByteArray} {n n2 : Nat} {r r2 : Option FieldType} (h2 : Cond.code y2 c2 n2 r2 ∈ TG) : GoodIn (Cond.code y c n r :: TG) (Cond.code y2 c2 n2 r2 :: TG) := fun w h => by
  rcases List.mem_cons.mp h with rfl | h
  · exact tg_c _ h2
  · exact tg_c _ h
theorem ws_X4_wantedByAsking : Cond.selects RX4 yX4_wantedByAsking yX4_wantedByAsking ∈ TG := tg_p (i := 0) rfl rfl
theorem ws_X4_wantedByToken : Cond.selects RX4 yX4_wantedByToken yX4_wantedByToken ∈ TG := tg_p (i := 1) rfl rfl
theorem ws_X4_enter : Cond.selects RX4 yX4_enter yX4_enter ∈ TG := tg_p (i := 2) rfl rfl
theorem ws_X4_queue : Cond.selects RX4 yX4_queue yX4_queue ∈ TG := tg_p (i := 3) rfl rfl
theorem ws_X4_followRules : Cond.selects RX4 yX4_followRules yX4_followRules ∈ TG := tg_p (i := 4) rfl rfl
theorem ws_X5_settled : Cond.selects RX5 yX5_settled yX5_settled ∈ TG := tg_p (i := 5) rfl rfl
theorem ws_X4_leftByAsking : Cond.selects RX4 yX4_leftByAsking yX4_leftByAsking ∈ TG := tg_p (i := 6) rfl rfl
theorem ws_X4_leftByToken : Cond.selects RX4 yX4_leftByToken yX4_leftByToken ∈ TG := tg_p (i := 7) rfl rfl
theorem ws_X4_isDue : Cond.selects RX4 yX4_isDue yX4_isDue ∈ TG := tg_p (i := 8) rfl rfl
theorem ws_X4_passToken : Cond.selects RX4 yX4_passToken yX4_passToken ∈ TG := tg_p (i := 9) rfl rfl
theorem ws_X5_bring : Cond.selects RX5 yX5_bring yX5_bring ∈ TG := tg_p (i := 10) rfl rfl
theorem ws_X4_askedByAsking : Cond.selects RX4 yX4_askedByAsking yX4_askedByAsking ∈ TG := tg_p (i := 11) rfl rfl
theorem ws_X4_goesBefore : Cond.selects RX4 yX4_goesBefore yX4_goesBefore ∈ TG := tg_p (i := 12) rfl rfl
theorem ws_X4_given : Cond.selects RX4 yX4_given yX4_given ∈ TG := tg_p (i := 13) rfl rfl
theorem ws_X4_askedByToken : Cond.selects RX4 yX4_askedByToken yX4_askedByToken ∈ TG := tg_p (i := 14) rfl rfl
theorem ws_X5_timeOf : Cond.selects RX5 yX5_timeOf yX5_timeOf ∈ TG := tg_p (i := 15) rfl rfl
theorem ws_X2_keep : Cond.selects RX2 yX2_keep yX2_keep ∈ TG := tg_p (i := 16) rfl rfl
theorem ws_X2_hash : Cond.selects RX2 yX2_hash yX2_hash ∈ TG := tg_p (i := 17) rfl rfl
theorem ws_X2_mixed : Cond.selects RX2 yX2_mixed yX2_mixed ∈ TG := tg_p (i := 18) rfl rfl
theorem ws_X2_isState : Cond.selects RX2 yX2_isState yX2_isState ∈ TG := tg_p (i := 19) rfl rfl
theorem ws_X2_isLike : Cond.selects RX2 yX2_isLike yX2_isLike ∈ TG := tg_p (i := 20) rfl rfl
theorem ws_X2_goFrom : Cond.selects RX2 yX2_goFrom yX2_goFrom ∈ TG := tg_p (i := 21) rfl rfl
theorem ws_X2_load : Cond.selects RX2 yX2_load yX2_load ∈ TG := tg_p (i := 22) rfl rfl
theorem ws_X2_tally : Cond.selects RX2 yX2_tally yX2_tally ∈ TG := tg_p (i := 23) rfl rfl
theorem ws_X3_tokenBetween : Cond.selects RX3 yX3_tokenBetween yX3_tokenBetween ∈ TG := tg_p (i := 24) rfl rfl
theorem ws_X2_weigh : Cond.selects RX2 yX2_weigh yX2_weigh ∈ TG := tg_p (i := 25) rfl rfl
theorem ws_X6_clear : Cond.selects RX6 yX6_clear yX6_clear ∈ TG := tg_p (i := 26) rfl rfl
theorem ws_X6_layHolders : Cond.selects RX6 yX6_layHolders yX6_layHolders ∈ TG := tg_p (i := 27) rfl rfl
theorem ws_X6_isKeeper : Cond.selects RX6 yX6_isKeeper yX6_isKeeper ∈ TG := tg_p (i := 28) rfl rfl
theorem ws_X6_store : Cond.selects RX6 yX6_store yX6_store ∈ TG := tg_p (i := 29) rfl rfl
theorem ws_X6_wants : Cond.selects RX6 yX6_wants yX6_wants ∈ TG := tg_p (i := 30) rfl rfl
theorem ws_X6_askAll : Cond.selects RX6 yX6_askAll yX6_askAll ∈ TG := tg_p (i := 31) rfl rfl
theorem ws_X6_send : Cond.selects RX6 yX6_send yX6_send ∈ TG := tg_p (i := 32) rfl rfl
theorem ws_X6_pairAt : Cond.selects RX6 yX6_pairAt yX6_pairAt ∈ TG := tg_p (i := 33) rfl rfl
theorem ws_X6_comesIn : Cond.selects RX6 yX6_comesIn yX6_comesIn ∈ TG := tg_p (i := 34) rfl rfl
theorem ws_X6_sent : Cond.selects RX6 yX6_sent yX6_sent ∈ TG := tg_p (i := 35) rfl rfl
theorem ws_X6_queue : Cond.selects RX6 yX6_queue yX6_queue ∈ TG := tg_p (i := 36) rfl rfl
theorem ws_X6_rules : Cond.selects RX6 yX6_rules yX6_rules ∈ TG := tg_p (i := 37) rfl rfl
theorem ws_X6_stands : Cond.selects RX6 yX6_stands yX6_stands ∈ TG := tg_p (i := 38) rfl rfl
theorem ws_X6_leaves : Cond.selects RX6 yX6_leaves yX6_leaves ∈ TG := tg_p (i := 39) rfl rfl
theorem ws_X6_isRowed : Cond.selects RX6 yX6_isRowed yX6_isRowed ∈ TG := tg_p (i := 40) rfl rfl
theorem ws_X6_passToken : Cond.selects RX6 yX6_passToken yX6_passToken ∈ TG := tg_p (i := 41) rfl rfl
theorem ws_X6_comes : Cond.selects RX6 yX6_comes yX6_comes ∈ TG := tg_p (i := 42) rfl rfl
theorem ws_X6_dropEldest : Cond.selects RX6 yX6_dropEldest yX6_dropEldest ∈ TG := tg_p (i := 43) rfl rfl
theorem ws_X6_askedComes : Cond.selects RX6 yX6_askedComes yX6_askedComes ∈ TG := tg_p (i := 44) rfl rfl
theorem ws_X6_pairOf : Cond.selects RX6 yX6_pairOf yX6_pairOf ∈ TG := tg_p (i := 45) rfl rfl
theorem ws_X6_hasToken : Cond.selects RX6 yX6_hasToken yX6_hasToken ∈ TG := tg_p (i := 46) rfl rfl
theorem ws_X6_meets : Cond.selects RX6 yX6_meets yX6_meets ∈ TG := tg_p (i := 47) rfl rfl
theorem ws_X6_slotOf : Cond.selects RX6 yX6_slotOf yX6_slotOf ∈ TG := tg_p (i := 48) rfl rfl
theorem ws_X6_isState : Cond.selects RX6 yX6_isState yX6_isState ∈ TG := tg_p (i := 49) rfl rfl
theorem ws_X6_visit : Cond.selects RX6 yX6_visit yX6_visit ∈ TG := tg_p (i := 50) rfl rfl
theorem ws_X6_load : Cond.selects RX6 yX6_load yX6_load ∈ TG := tg_p (i := 51) rfl rfl
theorem ws_X6_ofMode : Cond.selects RX6 yX6_ofMode yX6_ofMode ∈ TG := tg_p (i := 52) rfl rfl
theorem ws_X6_underWay : Cond.selects RX6 yX6_underWay yX6_underWay ∈ TG := tg_p (i := 53) rfl rfl
theorem ws_X6_isTokenSomewhere : Cond.selects RX6 yX6_isTokenSomewhere yX6_isTokenSomewhere ∈ TG := tg_p (i := 54) rfl rfl
theorem ws_X6_goes : Cond.selects RX6 yX6_goes yX6_goes ∈ TG := tg_p (i := 55) rfl rfl
theorem wz_L : Cond.initialized RL ∈ TG := tg_1 (i := 0) rfl rfl
theorem wz_X5 : Cond.initialized RX5 ∈ TG := tg_1 (i := 1) rfl rfl
theorem wz_X3 : Cond.initialized RX3 ∈ TG := tg_1 (i := 2) rfl rfl
theorem wz_X0 : Cond.initialized RX0 ∈ TG := tg_1 (i := 3) rfl rfl
theorem wz_X4 : Cond.initialized RX4 ∈ TG := tg_1 (i := 4) rfl rfl
theorem wz_X1 : Cond.initialized RX1 ∈ TG := tg_1 (i := 5) rfl rfl
theorem wz_X2 : Cond.initialized RX2 ∈ TG := tg_1 (i := 6) rfl rfl
theorem wz_J7 : Cond.initialized RJ7 ∈ TG := tg_1 (i := 7) rfl rfl
theorem wz_X6 : Cond.initialized RX6 ∈ TG := tg_1 (i := 8) rfl rfl
theorem wz_System : Cond.initialized "java/lang/System" ∈ TG := tg_1 (i := 9) rfl rfl
theorem wz_Math : Cond.initialized "java/lang/Math" ∈ TG := tg_1 (i := 10) rfl rfl
theorem wz_J6 : Cond.initialized RJ6 ∈ TG := tg_1 (i := 11) rfl rfl
theorem wg_L_7 : Cond.classLink RL 7 RX5 ∈ TG := tg_1 (i := 12) rfl rfl
theorem wa_X5 : Cond.instantiable RX5 8 ∈ TG := tg_1 (i := 13) rfl rfl
theorem wl_L_9 : Cond.methodLink RL 9 yX5_init ∈ TG := tg_1 (i := 14) rfl rfl
theorem wi_X5_init : Cond.instanceMethod yX5_init ∈ TG := tg_1 (i := 15) rfl rfl
theorem wc_X5_init : Cond.code yX5_init cX5_init 1 none ∈ TG := tg_1 (i := 16) rfl rfl
theorem wl_X5_1 : Cond.methodLink RX5 1 objectInit ∈ TG := tg_1 (i := 17) rfl rfl
theorem wi_objectInit : Cond.instanceMethod objectInit ∈ TG := tg_1 (i := 18) rfl rfl
theorem wc_objectInit : Cond.code objectInit ⟨#[0xb1]⟩ 1 none ∈ TG := tg_1 (i := 19) rfl rfl
theorem wg_X5_7 : Cond.classLink RX5 7 RX3 ∈ TG := tg_1 (i := 20) rfl rfl
theorem wa_X3 : Cond.instantiable RX3 4 ∈ TG := tg_1 (i := 21) rfl rfl
theorem wl_X5_9 : Cond.methodLink RX5 9 yX3_init ∈ TG := tg_1 (i := 22) rfl rfl
theorem wi_X3_init : Cond.instanceMethod yX3_init ∈ TG := tg_1 (i := 23) rfl rfl
theorem wc_X3_init : Cond.code yX3_init cX3_init 1 none ∈ TG := tg_1 (i := 24) rfl rfl
theorem wl_X3_5 : Cond.methodLink RX3 5 objectInit ∈ TG := tg_1 (i := 25) rfl rfl
theorem wf_X3_11 : Cond.fieldLink RX3 11 "KeyKeepers$Stand" "row" "[I" ∈ TG := tg_1 (i := 26) rfl rfl
theorem wf_X2_140 : Cond.fieldLink RX2 140 "KeyKeepers$Stand" "row" "[I" ∈ TG := tg_1 (i := 27) rfl rfl
theorem wf_X4_40 : Cond.fieldLink RX4 40 "KeyKeepers$Stand" "way" "I" ∈ TG := tg_1 (i := 28) rfl rfl
theorem wf_X5_71 : Cond.fieldLink RX5 71 "KeyKeepers$Stand" "way" "I" ∈ TG := tg_1 (i := 29) rfl rfl
theorem wf_X3_15 : Cond.fieldLink RX3 15 "KeyKeepers$Stand" "way" "I" ∈ TG := tg_1 (i := 30) rfl rfl
theorem wf_X5_68 : Cond.fieldLink RX5 68 "KeyKeepers$Stand" "n" "I" ∈ TG := tg_1 (i := 31) rfl rfl
theorem wf_X2_84 : Cond.fieldLink RX2 84 "KeyKeepers$Stand" "n" "I" ∈ TG := tg_1 (i := 32) rfl rfl
theorem wf_X3_19 : Cond.fieldLink RX3 19 "KeyKeepers$Stand" "n" "I" ∈ TG := tg_1 (i := 33) rfl rfl
theorem wf_X4_88 : Cond.fieldLink RX4 88 "KeyKeepers$Stand" "n" "I" ∈ TG := tg_1 (i := 34) rfl rfl
theorem wf_X4_23 : Cond.fieldLink RX4 23 "KeyKeepers$Stand" "tooMany" "Z" ∈ TG := tg_1 (i := 35) rfl rfl
theorem wf_X2_117 : Cond.fieldLink RX2 117 "KeyKeepers$Stand" "tooMany" "Z" ∈ TG := tg_1 (i := 36) rfl rfl
theorem wf_X5_182 : Cond.fieldLink RX5 182 "KeyKeepers$Stand" "tooMany" "Z" ∈ TG := tg_1 (i := 37) rfl rfl
theorem wf_X3_52 : Cond.fieldLink RX3 52 "KeyKeepers$Stand" "tooMany" "Z" ∈ TG := tg_1 (i := 38) rfl rfl
theorem wy_X3_row : Cond.laysFinal RX3 "KeyKeepers$Stand" "row" "[I" ∈ TG := tg_1 (i := 39) rfl rfl
theorem wy_X3_way : Cond.lays RX3 "KeyKeepers$Stand" "way" "I" ∈ TG := tg_1 (i := 41) rfl rfl
theorem wy_X3_n : Cond.lays RX3 "KeyKeepers$Stand" "n" "I" ∈ TG := tg_1 (i := 43) rfl rfl
theorem wy_X3_tooMany : Cond.lays RX3 "KeyKeepers$Stand" "tooMany" "Z" ∈ TG := tg_1 (i := 45) rfl rfl
theorem w_arrayClass : Cond.arrayClass .int ∈ TG := tg_1 (i := 48) rfl rfl
theorem wg_X5_16 : Cond.classLink RX5 16 RX0 ∈ TG := tg_1 (i := 49) rfl rfl
theorem wa_X0 : Cond.instantiable RX0 1 ∈ TG := tg_1 (i := 50) rfl rfl
theorem wl_X5_18 : Cond.methodLink RX5 18 yX0_init ∈ TG := tg_1 (i := 51) rfl rfl
theorem wi_X0_init : Cond.instanceMethod yX0_init ∈ TG := tg_1 (i := 52) rfl rfl
theorem wc_X0_init : Cond.code yX0_init cX0_init 1 none ∈ TG := tg_1 (i := 53) rfl rfl
theorem wl_X0_5 : Cond.methodLink RX0 5 objectInit ∈ TG := tg_1 (i := 54) rfl rfl
theorem wf_X0_11 : Cond.fieldLink RX0 11 "KeyKeepers$Book" "lines" "[I" ∈ TG := tg_1 (i := 55) rfl rfl
theorem wy_X0_lines : Cond.laysFinal RX0 "KeyKeepers$Book" "lines" "[I" ∈ TG := tg_1 (i := 56) rfl rfl
theorem wg_X5_23 : Cond.classLink RX5 23 RX4 ∈ TG := tg_1 (i := 59) rfl rfl
theorem wa_X4 : Cond.instantiable RX4 3 ∈ TG := tg_1 (i := 60) rfl rfl
theorem wl_X5_25 : Cond.methodLink RX5 25 yX4_init ∈ TG := tg_1 (i := 61) rfl rfl
theorem wi_X4_init : Cond.instanceMethod yX4_init ∈ TG := tg_1 (i := 62) rfl rfl
theorem wc_X4_init : Cond.code yX4_init cX4_init 3 none ∈ TG := tg_1 (i := 63) rfl rfl
theorem wl_X4_3 : Cond.methodLink RX4 3 objectInit ∈ TG := tg_1 (i := 64) rfl rfl
theorem wf_X4_9 : Cond.fieldLink RX4 9 "KeyKeepers$Ways" "stand" "LKeyKeepers$Stand;" ∈ TG := tg_1 (i := 65) rfl rfl
theorem wf_X4_15 : Cond.fieldLink RX4 15 "KeyKeepers$Ways" "book" "LKeyKeepers$Book;" ∈ TG := tg_1 (i := 66) rfl rfl
theorem wf_X4_19 : Cond.fieldLink RX4 19 "KeyKeepers$Ways" "writing" "Z" ∈ TG := tg_1 (i := 67) rfl rfl
theorem wf_X2_56 : Cond.fieldLink RX2 56 "KeyKeepers$Ways" "writing" "Z" ∈ TG := tg_1 (i := 68) rfl rfl
theorem wy_X4_stand : Cond.laysFinal RX4 "KeyKeepers$Ways" "stand" "LKeyKeepers$Stand;" ∈ TG := tg_1 (i := 69) rfl rfl
theorem wy_X4_book : Cond.laysFinal RX4 "KeyKeepers$Ways" "book" "LKeyKeepers$Book;" ∈ TG := tg_1 (i := 71) rfl rfl
theorem wy_X4_writing : Cond.lays RX4 "KeyKeepers$Ways" "writing" "Z" ∈ TG := tg_1 (i := 73) rfl rfl
theorem wg_X5_32 : Cond.classLink RX5 32 RX1 ∈ TG := tg_1 (i := 76) rfl rfl
theorem wa_X1 : Cond.instantiable RX1 4 ∈ TG := tg_1 (i := 77) rfl rfl
theorem wl_X5_34 : Cond.methodLink RX5 34 yX1_init ∈ TG := tg_1 (i := 78) rfl rfl
theorem wi_X1_init : Cond.instanceMethod yX1_init ∈ TG := tg_1 (i := 79) rfl rfl
theorem wc_X1_init : Cond.code yX1_init cX1_init 2 none ∈ TG := tg_1 (i := 80) rfl rfl
theorem wl_X1_3 : Cond.methodLink RX1 3 objectInit ∈ TG := tg_1 (i := 81) rfl rfl
theorem wf_X1_9 : Cond.fieldLink RX1 9 "KeyKeepers$Past" "stand" "LKeyKeepers$Stand;" ∈ TG := tg_1 (i := 82) rfl rfl
theorem wf_X1_15 : Cond.fieldLink RX1 15 "KeyKeepers$Past" "rows" "[I" ∈ TG := tg_1 (i := 83) rfl rfl
theorem wf_X1_23 : Cond.fieldLink RX1 23 "KeyKeepers$Past" "place" "I" ∈ TG := tg_1 (i := 84) rfl rfl
theorem wf_X1_19 : Cond.fieldLink RX1 19 "KeyKeepers$Past" "kept" "I" ∈ TG := tg_1 (i := 85) rfl rfl
theorem wf_X5_176 : Cond.fieldLink RX5 176 "KeyKeepers$Past" "kept" "I" ∈ TG := tg_1 (i := 86) rfl rfl
theorem wy_X1_stand : Cond.laysFinal RX1 "KeyKeepers$Past" "stand" "LKeyKeepers$Stand;" ∈ TG := tg_1 (i := 87) rfl rfl
theorem wy_X1_rows : Cond.laysFinal RX1 "KeyKeepers$Past" "rows" "[I" ∈ TG := tg_1 (i := 89) rfl rfl
theorem wy_X1_place : Cond.lays RX1 "KeyKeepers$Past" "place" "I" ∈ TG := tg_1 (i := 91) rfl rfl
theorem wy_X1_kept : Cond.lays RX1 "KeyKeepers$Past" "kept" "I" ∈ TG := tg_1 (i := 93) rfl rfl
theorem wg_X5_41 : Cond.classLink RX5 41 RX2 ∈ TG := tg_1 (i := 96) rfl rfl
theorem wa_X2 : Cond.instantiable RX2 10 ∈ TG := tg_1 (i := 97) rfl rfl
theorem wl_X5_43 : Cond.methodLink RX5 43 yX2_init ∈ TG := tg_1 (i := 98) rfl rfl
theorem wi_X2_init : Cond.instanceMethod yX2_init ∈ TG := tg_1 (i := 99) rfl rfl
theorem wc_X2_init : Cond.code yX2_init cX2_init 3 none ∈ TG := tg_1 (i := 100) rfl rfl
theorem wl_X2_3 : Cond.methodLink RX2 3 objectInit ∈ TG := tg_1 (i := 101) rfl rfl
theorem wk_X2_21 : Cond.constant RX2 21 182400 ∈ TG := tg_1 (i := 102) rfl rfl
theorem wf_X2_9 : Cond.fieldLink RX2 9 "KeyKeepers$Search" "stand" "LKeyKeepers$Stand;" ∈ TG := tg_1 (i := 103) rfl rfl
theorem wf_X2_15 : Cond.fieldLink RX2 15 "KeyKeepers$Search" "ways" "LKeyKeepers$Ways;" ∈ TG := tg_1 (i := 104) rfl rfl
theorem wf_X2_22 : Cond.fieldLink RX2 22 "KeyKeepers$Search" "states" "[I" ∈ TG := tg_1 (i := 105) rfl rfl
theorem wf_X2_26 : Cond.fieldLink RX2 26 "KeyKeepers$Search" "hashes" "[I" ∈ TG := tg_1 (i := 106) rfl rfl
theorem wf_X2_29 : Cond.fieldLink RX2 29 "KeyKeepers$Search" "table" "[I" ∈ TG := tg_1 (i := 107) rfl rfl
theorem wf_X2_32 : Cond.fieldLink RX2 32 "KeyKeepers$Search" "before" "[I" ∈ TG := tg_1 (i := 108) rfl rfl
theorem wf_X2_35 : Cond.fieldLink RX2 35 "KeyKeepers$Search" "told" "[I" ∈ TG := tg_1 (i := 109) rfl rfl
theorem wf_X5_166 : Cond.fieldLink RX5 166 "KeyKeepers$Search" "told" "[I" ∈ TG := tg_1 (i := 110) rfl rfl
theorem wf_X2_44 : Cond.fieldLink RX2 44 "KeyKeepers$Search" "found" "I" ∈ TG := tg_1 (i := 111) rfl rfl
theorem wf_X2_48 : Cond.fieldLink RX2 48 "KeyKeepers$Search" "spent" "Z" ∈ TG := tg_1 (i := 112) rfl rfl
theorem wf_X2_81 : Cond.fieldLink RX2 81 "KeyKeepers$Search" "brought" "Z" ∈ TG := tg_1 (i := 113) rfl rfl
theorem wy_X2_stand : Cond.laysFinal RX2 "KeyKeepers$Search" "stand" "LKeyKeepers$Stand;" ∈ TG := tg_1 (i := 114) rfl rfl
theorem wy_X2_ways : Cond.laysFinal RX2 "KeyKeepers$Search" "ways" "LKeyKeepers$Ways;" ∈ TG := tg_1 (i := 116) rfl rfl
theorem wy_X2_states : Cond.laysFinal RX2 "KeyKeepers$Search" "states" "[I" ∈ TG := tg_1 (i := 118) rfl rfl
theorem wy_X2_hashes : Cond.laysFinal RX2 "KeyKeepers$Search" "hashes" "[I" ∈ TG := tg_1 (i := 120) rfl rfl
theorem wy_X2_table : Cond.laysFinal RX2 "KeyKeepers$Search" "table" "[I" ∈ TG := tg_1 (i := 122) rfl rfl
theorem wy_X2_before : Cond.laysFinal RX2 "KeyKeepers$Search" "before" "[I" ∈ TG := tg_1 (i := 124) rfl rfl
theorem wy_X2_told : Cond.laysFinal RX2 "KeyKeepers$Search" "told" "[I" ∈ TG := tg_1 (i := 126) rfl rfl
theorem wy_X2_found : Cond.lays RX2 "KeyKeepers$Search" "found" "I" ∈ TG := tg_1 (i := 128) rfl rfl
theorem wy_X2_spent : Cond.lays RX2 "KeyKeepers$Search" "spent" "Z" ∈ TG := tg_1 (i := 130) rfl rfl
theorem wy_X2_brought : Cond.lays RX2 "KeyKeepers$Search" "brought" "Z" ∈ TG := tg_1 (i := 132) rfl rfl
theorem wl_X5_50 : Cond.methodLink RX5 50 yX3_startAnew ∈ TG := tg_1 (i := 135) rfl rfl
theorem wi_X3_startAnew : Cond.instanceMethod yX3_startAnew ∈ TG := tg_1 (i := 136) rfl rfl
theorem ws_X3_startAnew : Cond.selects RX3 yX3_startAnew yX3_startAnew ∈ TG := tg_1 (i := 137) rfl rfl
theorem wc_X3_startAnew : Cond.code yX3_startAnew cX3_startAnew 4 none ∈ TG := tg_1 (i := 138) rfl rfl
theorem wl_X3_22 : Cond.methodLink RX3 22 yJ7_fill_53178 ∈ TG := tg_1 (i := 139) rfl rfl
theorem wt_J7_fill_53178 : Cond.static yJ7_fill_53178 ∈ TG := tg_1 (i := 140) rfl rfl
theorem wc_J7_fill_53178 : Cond.code yJ7_fill_53178 cJ7_fill_53178 4 none ∈ TG := tg_1 (i := 141) rfl rfl
theorem wl_X3_28 : Cond.methodLink RX3 28 yX3_set ∈ TG := tg_1 (i := 142) rfl rfl
theorem wi_X3_set : Cond.instanceMethod yX3_set ∈ TG := tg_1 (i := 143) rfl rfl
theorem ws_X3_set : Cond.selects RX3 yX3_set yX3_set ∈ TG := tg_1 (i := 144) rfl rfl
theorem wc_X3_set : Cond.code yX3_set cX3_set 4 none ∈ TG := tg_1 (i := 145) rfl rfl
theorem wl_X3_40 : Cond.methodLink RX3 40 yX3_put ∈ TG := tg_1 (i := 146) rfl rfl
theorem wi_X3_put : Cond.instanceMethod yX3_put ∈ TG := tg_1 (i := 147) rfl rfl
theorem ws_X3_put : Cond.selects RX3 yX3_put yX3_put ∈ TG := tg_1 (i := 148) rfl rfl
theorem wc_X3_put : Cond.code yX3_put cX3_put 3 none ∈ TG := tg_1 (i := 149) rfl rfl
theorem wf_X5_10 : Cond.fieldLink RX5 10 "KeyKeepers" "stand" "LKeyKeepers$Stand;" ∈ TG := tg_1 (i := 150) rfl rfl
theorem wf_X5_19 : Cond.fieldLink RX5 19 "KeyKeepers" "book" "LKeyKeepers$Book;" ∈ TG := tg_1 (i := 151) rfl rfl
theorem wf_X5_28 : Cond.fieldLink RX5 28 "KeyKeepers" "ways" "LKeyKeepers$Ways;" ∈ TG := tg_1 (i := 152) rfl rfl
theorem wf_X5_37 : Cond.fieldLink RX5 37 "KeyKeepers" "past" "LKeyKeepers$Past;" ∈ TG := tg_1 (i := 153) rfl rfl
theorem wf_X5_46 : Cond.fieldLink RX5 46 "KeyKeepers" "search" "LKeyKeepers$Search;" ∈ TG := tg_1 (i := 154) rfl rfl
theorem wf_X5_54 : Cond.fieldLink RX5 54 "KeyKeepers" "begins" "I" ∈ TG := tg_1 (i := 155) rfl rfl
theorem wf_X5_58 : Cond.fieldLink RX5 58 "KeyKeepers" "passes" "I" ∈ TG := tg_1 (i := 156) rfl rfl
theorem wf_X5_61 : Cond.fieldLink RX5 61 "KeyKeepers" "acted" "Z" ∈ TG := tg_1 (i := 157) rfl rfl
theorem wy_X5_stand : Cond.laysFinal RX5 "KeyKeepers" "stand" "LKeyKeepers$Stand;" ∈ TG := tg_1 (i := 158) rfl rfl
theorem wy_X5_book : Cond.laysFinal RX5 "KeyKeepers" "book" "LKeyKeepers$Book;" ∈ TG := tg_1 (i := 160) rfl rfl
theorem wy_X5_ways : Cond.laysFinal RX5 "KeyKeepers" "ways" "LKeyKeepers$Ways;" ∈ TG := tg_1 (i := 162) rfl rfl
theorem wy_X5_past : Cond.laysFinal RX5 "KeyKeepers" "past" "LKeyKeepers$Past;" ∈ TG := tg_1 (i := 164) rfl rfl
theorem wy_X5_search : Cond.laysFinal RX5 "KeyKeepers" "search" "LKeyKeepers$Search;" ∈ TG := tg_1 (i := 166) rfl rfl
theorem wy_X5_begins : Cond.lays RX5 "KeyKeepers" "begins" "I" ∈ TG := tg_1 (i := 168) rfl rfl
theorem wy_X5_passes : Cond.lays RX5 "KeyKeepers" "passes" "I" ∈ TG := tg_1 (i := 170) rfl rfl
theorem wy_X5_acted : Cond.lays RX5 "KeyKeepers" "acted" "Z" ∈ TG := tg_1 (i := 172) rfl rfl
theorem wl_L_13 : Cond.methodLink RL 13 yX5_begin ∈ TG := tg_1 (i := 175) rfl rfl
theorem wi_X5_begin : Cond.instanceMethod yX5_begin ∈ TG := tg_1 (i := 176) rfl rfl
theorem ws_X5_begin : Cond.selects RX5 yX5_begin yX5_begin ∈ TG := tg_1 (i := 177) rfl rfl
theorem wc_X5_begin : Cond.code yX5_begin cX5_begin 3 (some .int) ∈ TG := tg_1 (i := 178) rfl rfl
theorem wl_X5_65 : Cond.methodLink RX5 65 yX1_forget ∈ TG := tg_1 (i := 179) rfl rfl
theorem wi_X1_forget : Cond.instanceMethod yX1_forget ∈ TG := tg_1 (i := 180) rfl rfl
theorem ws_X1_forget : Cond.selects RX1 yX1_forget yX1_forget ∈ TG := tg_1 (i := 181) rfl rfl
theorem wc_X1_forget : Cond.code yX1_forget cX1_forget 1 none ∈ TG := tg_1 (i := 182) rfl rfl
theorem wl_L_18 : Cond.methodLink RL 18 yX5_parent ∈ TG := tg_1 (i := 183) rfl rfl
theorem wi_X5_parent : Cond.instanceMethod yX5_parent ∈ TG := tg_1 (i := 184) rfl rfl
theorem ws_X5_parent : Cond.selects RX5 yX5_parent yX5_parent ∈ TG := tg_1 (i := 185) rfl rfl
theorem wc_X5_parent : Cond.code yX5_parent cX5_parent 4 (some .int) ∈ TG := tg_1 (i := 186) rfl rfl
theorem wl_X5_74 : Cond.methodLink RX5 74 yX3_of ∈ TG := tg_1 (i := 187) rfl rfl
theorem wi_X3_of : Cond.instanceMethod yX3_of ∈ TG := tg_1 (i := 188) rfl rfl
theorem ws_X3_of : Cond.selects RX3 yX3_of yX3_of ∈ TG := tg_1 (i := 189) rfl rfl
theorem wc_X3_of : Cond.code yX3_of cX3_of 3 (some .int) ∈ TG := tg_1 (i := 190) rfl rfl
theorem wl_X3_36 : Cond.methodLink RX3 36 yX3_get ∈ TG := tg_1 (i := 191) rfl rfl
theorem wi_X3_get : Cond.instanceMethod yX3_get ∈ TG := tg_1 (i := 192) rfl rfl
theorem ws_X3_get : Cond.selects RX3 yX3_get yX3_get ∈ TG := tg_1 (i := 193) rfl rfl
theorem wc_X3_get : Cond.code yX3_get cX3_get 2 (some .int) ∈ TG := tg_1 (i := 194) rfl rfl
theorem wl_X5_78 : Cond.methodLink RX5 78 yX3_set ∈ TG := tg_1 (i := 195) rfl rfl
theorem wl_L_22 : Cond.methodLink RL 22 yX5_want ∈ TG := tg_1 (i := 196) rfl rfl
theorem wi_X5_want : Cond.instanceMethod yX5_want ∈ TG := tg_1 (i := 197) rfl rfl
theorem ws_X5_want : Cond.selects RX5 yX5_want yX5_want ∈ TG := tg_1 (i := 198) rfl rfl
theorem wc_X5_want : Cond.code yX5_want cX5_want 2 (some .int) ∈ TG := tg_1 (i := 199) rfl rfl
theorem wl_X5_82 : Cond.methodLink RX5 82 yX3_isKeeper ∈ TG := tg_1 (i := 200) rfl rfl
theorem wi_X3_isKeeper : Cond.instanceMethod yX3_isKeeper ∈ TG := tg_1 (i := 201) rfl rfl
theorem ws_X3_isKeeper : Cond.selects RX3 yX3_isKeeper yX3_isKeeper ∈ TG := tg_1 (i := 202) rfl rfl
theorem wc_X3_isKeeper : Cond.code yX3_isKeeper cX3_isKeeper 2 (some .boolean) ∈ TG := tg_1 (i := 203) rfl rfl
theorem wl_X5_86 : Cond.methodLink RX5 86 yX1_mark ∈ TG := tg_1 (i := 204) rfl rfl
theorem wi_X1_mark : Cond.instanceMethod yX1_mark ∈ TG := tg_1 (i := 205) rfl rfl
theorem ws_X1_mark : Cond.selects RX1 yX1_mark yX1_mark ∈ TG := tg_1 (i := 206) rfl rfl
theorem wc_X1_mark : Cond.code yX1_mark cX1_mark 1 none ∈ TG := tg_1 (i := 207) rfl rfl
theorem wl_X1_26 : Cond.methodLink RX1 26 yX3_copyTo ∈ TG := tg_1 (i := 208) rfl rfl
theorem wi_X3_copyTo : Cond.instanceMethod yX3_copyTo ∈ TG := tg_1 (i := 209) rfl rfl
theorem ws_X3_copyTo : Cond.selects RX3 yX3_copyTo yX3_copyTo ∈ TG := tg_1 (i := 210) rfl rfl
theorem wc_X3_copyTo : Cond.code yX3_copyTo cX3_copyTo 4 none ∈ TG := tg_1 (i := 211) rfl rfl
theorem wl_X3_83 : Cond.methodLink RX3 83 arraycopyName ∈ TG := tg_1 (i := 212) rfl rfl
theorem wt_arraycopy : Cond.static arraycopyName ∈ TG := tg_1 (i := 213) rfl rfl
theorem wn_arraycopy : Cond.native arraycopyName ∈ TG := tg_1 (i := 214) rfl rfl
theorem wl_X5_89 : Cond.methodLink RX5 89 yX4_wanted ∈ TG := tg_1 (i := 215) rfl rfl
theorem wi_X4_wanted : Cond.instanceMethod yX4_wanted ∈ TG := tg_1 (i := 216) rfl rfl
theorem ws_X4_wanted : Cond.selects RX4 yX4_wanted yX4_wanted ∈ TG := tg_1 (i := 217) rfl rfl
theorem wc_X4_wanted : Cond.code yX4_wanted cX4_wanted 2 none ∈ TG := tg_1 (i := 218) rfl rfl
theorem wl_X4_28 : Cond.methodLink RX4 28 yX3_set ∈ TG := tg_1 (i := 219) rfl rfl
theorem wl_X4_32 : Cond.methodLink RX4 32 yX3_get ∈ TG := tg_1 (i := 220) rfl rfl
theorem wl_X4_36 : Cond.methodLink RX4 36 yX3_put ∈ TG := tg_1 (i := 221) rfl rfl
theorem wl_X4_44 : Cond.methodLink RX4 44 yX4_wantedByAsking ∈ TG := tg_1 (i := 222) rfl rfl
theorem wi_X4_wantedByAsking : Cond.instanceMethod yX4_wantedByAsking ∈ TG := tg_1 (i := 224) rfl rfl
theorem wc_X4_wantedByAsking : Cond.code yX4_wantedByAsking cX4_wantedByAsking 3 none ∈ TG := tg_1 (i := 225) rfl rfl
theorem wl_X4_85 : Cond.methodLink RX4 85 yX3_of ∈ TG := tg_1 (i := 226) rfl rfl
theorem wl_X4_106 : Cond.methodLink RX4 106 yX3_sendToOthers ∈ TG := tg_1 (i := 227) rfl rfl
theorem wi_X3_sendToOthers : Cond.instanceMethod yX3_sendToOthers ∈ TG := tg_1 (i := 228) rfl rfl
theorem ws_X3_sendToOthers : Cond.selects RX3 yX3_sendToOthers yX3_sendToOthers ∈ TG := tg_1 (i := 229) rfl rfl
theorem wc_X3_sendToOthers : Cond.code yX3_sendToOthers cX3_sendToOthers 5 none ∈ TG := tg_1 (i := 230) rfl rfl
theorem wl_X3_56 : Cond.methodLink RX3 56 yX3_send ∈ TG := tg_1 (i := 231) rfl rfl
theorem wi_X3_send : Cond.instanceMethod yX3_send ∈ TG := tg_1 (i := 232) rfl rfl
theorem ws_X3_send : Cond.selects RX3 yX3_send yX3_send ∈ TG := tg_1 (i := 233) rfl rfl
theorem wc_X3_send : Cond.code yX3_send cX3_send 5 none ∈ TG := tg_1 (i := 234) rfl rfl
theorem wl_X3_44 : Cond.methodLink RX3 44 yX3_lettersOf ∈ TG := tg_1 (i := 235) rfl rfl
theorem wt_X3_lettersOf : Cond.static yX3_lettersOf ∈ TG := tg_1 (i := 236) rfl rfl
theorem wc_X3_lettersOf : Cond.code yX3_lettersOf cX3_lettersOf 2 (some .int) ∈ TG := tg_1 (i := 237) rfl rfl
theorem wl_X3_48 : Cond.methodLink RX3 48 yX3_append ∈ TG := tg_1 (i := 238) rfl rfl
theorem wi_X3_append : Cond.instanceMethod yX3_append ∈ TG := tg_1 (i := 239) rfl rfl
theorem ws_X3_append : Cond.selects RX3 yX3_append yX3_append ∈ TG := tg_2 (i := 0) rfl rfl
theorem wc_X3_append : Cond.code yX3_append cX3_append 5 (some .boolean) ∈ TG := tg_2 (i := 1) rfl rfl
theorem wl_X4_48 : Cond.methodLink RX4 48 yX4_wantedByToken ∈ TG := tg_2 (i := 2) rfl rfl
theorem wi_X4_wantedByToken : Cond.instanceMethod yX4_wantedByToken ∈ TG := tg_2 (i := 4) rfl rfl
theorem wc_X4_wantedByToken : Cond.code yX4_wantedByToken cX4_wantedByToken 3 none ∈ TG := tg_2 (i := 5) rfl rfl
theorem wl_X4_124 : Cond.methodLink RX4 124 yX3_hasToken ∈ TG := tg_2 (i := 6) rfl rfl
theorem wi_X3_hasToken : Cond.instanceMethod yX3_hasToken ∈ TG := tg_2 (i := 7) rfl rfl
theorem ws_X3_hasToken : Cond.selects RX3 yX3_hasToken yX3_hasToken ∈ TG := tg_2 (i := 8) rfl rfl
theorem wc_X3_hasToken : Cond.code yX3_hasToken cX3_hasToken 2 (some .boolean) ∈ TG := tg_2 (i := 9) rfl rfl
theorem wl_X3_66 : Cond.methodLink RX3 66 yX3_of ∈ TG := tg_2 (i := 10) rfl rfl
theorem wl_X4_82 : Cond.methodLink RX4 82 yX4_enter ∈ TG := tg_2 (i := 11) rfl rfl
theorem wi_X4_enter : Cond.instanceMethod yX4_enter ∈ TG := tg_2 (i := 13) rfl rfl
theorem wc_X4_enter : Cond.code yX4_enter cX4_enter 3 none ∈ TG := tg_2 (i := 14) rfl rfl
theorem wl_X4_96 : Cond.methodLink RX4 96 yX3_sentInAll ∈ TG := tg_2 (i := 15) rfl rfl
theorem wi_X3_sentInAll : Cond.instanceMethod yX3_sentInAll ∈ TG := tg_2 (i := 16) rfl rfl
theorem ws_X3_sentInAll : Cond.selects RX3 yX3_sentInAll yX3_sentInAll ∈ TG := tg_2 (i := 17) rfl rfl
theorem wc_X3_sentInAll : Cond.code yX3_sentInAll cX3_sentInAll 1 (some .int) ∈ TG := tg_2 (i := 18) rfl rfl
theorem wl_X4_100 : Cond.methodLink RX4 100 yX0_write ∈ TG := tg_2 (i := 19) rfl rfl
theorem wi_X0_write : Cond.instanceMethod yX0_write ∈ TG := tg_2 (i := 20) rfl rfl
theorem ws_X0_write : Cond.selects RX0 yX0_write yX0_write ∈ TG := tg_2 (i := 21) rfl rfl
theorem wc_X0_write : Cond.code yX0_write cX0_write 6 none ∈ TG := tg_2 (i := 22) rfl rfl
theorem wl_X4_128 : Cond.methodLink RX4 128 yX3_known ∈ TG := tg_2 (i := 23) rfl rfl
theorem wi_X3_known : Cond.instanceMethod yX3_known ∈ TG := tg_2 (i := 24) rfl rfl
theorem ws_X3_known : Cond.selects RX3 yX3_known yX3_known ∈ TG := tg_2 (i := 25) rfl rfl
theorem wc_X3_known : Cond.code yX3_known cX3_known 3 (some .int) ∈ TG := tg_2 (i := 26) rfl rfl
theorem wl_X4_131 : Cond.methodLink RX4 131 yX3_setKnown ∈ TG := tg_2 (i := 27) rfl rfl
theorem wi_X3_setKnown : Cond.instanceMethod yX3_setKnown ∈ TG := tg_2 (i := 28) rfl rfl
theorem ws_X3_setKnown : Cond.selects RX3 yX3_setKnown yX3_setKnown ∈ TG := tg_2 (i := 29) rfl rfl
theorem wc_X3_setKnown : Cond.code yX3_setKnown cX3_setKnown 4 none ∈ TG := tg_2 (i := 30) rfl rfl
theorem wl_X4_51 : Cond.methodLink RX4 51 yX4_queue ∈ TG := tg_2 (i := 31) rfl rfl
theorem wi_X4_queue : Cond.instanceMethod yX4_queue ∈ TG := tg_2 (i := 33) rfl rfl
theorem wc_X4_queue : Cond.code yX4_queue cX4_queue 3 none ∈ TG := tg_2 (i := 34) rfl rfl
theorem wl_X4_150 : Cond.methodLink RX4 150 yX3_queueOf ∈ TG := tg_2 (i := 35) rfl rfl
theorem wt_X3_queueOf : Cond.static yX3_queueOf ∈ TG := tg_2 (i := 36) rfl rfl
theorem wc_X3_queueOf : Cond.code yX3_queueOf cX3_queueOf 1 (some .int) ∈ TG := tg_2 (i := 37) rfl rfl
theorem wl_X4_144 : Cond.methodLink RX4 144 yX3_append ∈ TG := tg_2 (i := 38) rfl rfl
theorem wl_X4_54 : Cond.methodLink RX4 54 yX4_followRules ∈ TG := tg_2 (i := 39) rfl rfl
theorem wi_X4_followRules : Cond.instanceMethod yX4_followRules ∈ TG := tg_2 (i := 41) rfl rfl
theorem wc_X4_followRules : Cond.code yX4_followRules cX4_followRules 4 none ∈ TG := tg_2 (i := 42) rfl rfl
theorem wl_X4_147 : Cond.methodLink RX4 147 yX3_takeFirst ∈ TG := tg_2 (i := 43) rfl rfl
theorem wi_X3_takeFirst : Cond.instanceMethod yX3_takeFirst ∈ TG := tg_2 (i := 44) rfl rfl
theorem ws_X3_takeFirst : Cond.selects RX3 yX3_takeFirst yX3_takeFirst ∈ TG := tg_2 (i := 45) rfl rfl
theorem wc_X3_takeFirst : Cond.code yX3_takeFirst cX3_takeFirst 6 (some .int) ∈ TG := tg_2 (i := 46) rfl rfl
theorem wl_X4_118 : Cond.methodLink RX4 118 yX3_send ∈ TG := tg_2 (i := 47) rfl rfl
theorem wl_X5_93 : Cond.methodLink RX5 93 yX5_settled ∈ TG := tg_2 (i := 48) rfl rfl
theorem wi_X5_settled : Cond.instanceMethod yX5_settled ∈ TG := tg_2 (i := 50) rfl rfl
theorem wc_X5_settled : Cond.code yX5_settled cX5_settled 1 (some .boolean) ∈ TG := tg_2 (i := 51) rfl rfl
theorem wl_X5_185 : Cond.methodLink RX5 185 yX1_backToMark ∈ TG := tg_2 (i := 52) rfl rfl
theorem wi_X1_backToMark : Cond.instanceMethod yX1_backToMark ∈ TG := tg_2 (i := 53) rfl rfl
theorem ws_X1_backToMark : Cond.selects RX1 yX1_backToMark yX1_backToMark ∈ TG := tg_2 (i := 54) rfl rfl
theorem wc_X1_backToMark : Cond.code yX1_backToMark cX1_backToMark 1 none ∈ TG := tg_2 (i := 55) rfl rfl
theorem wl_X1_30 : Cond.methodLink RX1 30 yX3_copyFrom ∈ TG := tg_2 (i := 56) rfl rfl
theorem wi_X3_copyFrom : Cond.instanceMethod yX3_copyFrom ∈ TG := tg_2 (i := 57) rfl rfl
theorem ws_X3_copyFrom : Cond.selects RX3 yX3_copyFrom yX3_copyFrom ∈ TG := tg_2 (i := 58) rfl rfl
theorem wc_X3_copyFrom : Cond.code yX3_copyFrom cX3_copyFrom 4 none ∈ TG := tg_2 (i := 59) rfl rfl
theorem wl_X5_188 : Cond.methodLink RX5 188 yX1_keepMark ∈ TG := tg_2 (i := 60) rfl rfl
theorem wi_X1_keepMark : Cond.instanceMethod yX1_keepMark ∈ TG := tg_2 (i := 61) rfl rfl
theorem ws_X1_keepMark : Cond.selects RX1 yX1_keepMark yX1_keepMark ∈ TG := tg_2 (i := 62) rfl rfl
theorem wc_X1_keepMark : Cond.code yX1_keepMark cX1_keepMark 1 none ∈ TG := tg_2 (i := 63) rfl rfl
theorem wl_X1_33 : Cond.methodLink RX1 33 Lib.Math.min.name ∈ TG := tg_2 (i := 64) rfl rfl
theorem wt_min : Cond.static Lib.Math.min.name ∈ TG := tg_2 (i := 65) rfl rfl
theorem wc_min : Cond.code Lib.Math.min.name Lib.Math.min.code 2 (some .int) ∈ TG := tg_2 (i := 66) rfl rfl
theorem wl_L_27 : Cond.methodLink RL 27 yX5_leave ∈ TG := tg_2 (i := 67) rfl rfl
theorem wi_X5_leave : Cond.instanceMethod yX5_leave ∈ TG := tg_2 (i := 68) rfl rfl
theorem ws_X5_leave : Cond.selects RX5 yX5_leave yX5_leave ∈ TG := tg_2 (i := 69) rfl rfl
theorem wc_X5_leave : Cond.code yX5_leave cX5_leave 3 (some .int) ∈ TG := tg_2 (i := 70) rfl rfl
theorem wl_X5_97 : Cond.methodLink RX5 97 yX3_sentInAll ∈ TG := tg_2 (i := 71) rfl rfl
theorem wl_X5_101 : Cond.methodLink RX5 101 yX4_left ∈ TG := tg_2 (i := 72) rfl rfl
theorem wi_X4_left : Cond.instanceMethod yX4_left ∈ TG := tg_2 (i := 73) rfl rfl
theorem ws_X4_left : Cond.selects RX4 yX4_left yX4_left ∈ TG := tg_2 (i := 74) rfl rfl
theorem wc_X4_left : Cond.code yX4_left cX4_left 2 none ∈ TG := tg_2 (i := 75) rfl rfl
theorem wl_X4_57 : Cond.methodLink RX4 57 yX4_leftByAsking ∈ TG := tg_2 (i := 76) rfl rfl
theorem wi_X4_leftByAsking : Cond.instanceMethod yX4_leftByAsking ∈ TG := tg_2 (i := 78) rfl rfl
theorem wc_X4_leftByAsking : Cond.code yX4_leftByAsking cX4_leftByAsking 4 none ∈ TG := tg_2 (i := 79) rfl rfl
theorem wl_X4_60 : Cond.methodLink RX4 60 yX4_leftByToken ∈ TG := tg_2 (i := 80) rfl rfl
theorem wi_X4_leftByToken : Cond.instanceMethod yX4_leftByToken ∈ TG := tg_2 (i := 82) rfl rfl
theorem wc_X4_leftByToken : Cond.code yX4_leftByToken cX4_leftByToken 3 none ∈ TG := tg_2 (i := 83) rfl rfl
theorem wl_X4_141 : Cond.methodLink RX4 141 yX3_rowHas ∈ TG := tg_2 (i := 84) rfl rfl
theorem wi_X3_rowHas : Cond.instanceMethod yX3_rowHas ∈ TG := tg_2 (i := 85) rfl rfl
theorem ws_X3_rowHas : Cond.selects RX3 yX3_rowHas yX3_rowHas ∈ TG := tg_2 (i := 86) rfl rfl
theorem wc_X3_rowHas : Cond.code yX3_rowHas cX3_rowHas 4 (some .boolean) ∈ TG := tg_2 (i := 87) rfl rfl
theorem wl_X4_134 : Cond.methodLink RX4 134 yX4_isDue ∈ TG := tg_2 (i := 88) rfl rfl
theorem wi_X4_isDue : Cond.instanceMethod yX4_isDue ∈ TG := tg_2 (i := 90) rfl rfl
theorem wc_X4_isDue : Cond.code yX4_isDue cX4_isDue 3 (some .boolean) ∈ TG := tg_2 (i := 91) rfl rfl
theorem wl_X4_138 : Cond.methodLink RX4 138 yX4_passToken ∈ TG := tg_2 (i := 92) rfl rfl
theorem wi_X4_passToken : Cond.instanceMethod yX4_passToken ∈ TG := tg_2 (i := 94) rfl rfl
theorem wc_X4_passToken : Cond.code yX4_passToken cX4_passToken 3 none ∈ TG := tg_2 (i := 95) rfl rfl
theorem wl_L_31 : Cond.methodLink RL 31 yX5_come ∈ TG := tg_2 (i := 96) rfl rfl
theorem wi_X5_come : Cond.instanceMethod yX5_come ∈ TG := tg_2 (i := 97) rfl rfl
theorem ws_X5_come : Cond.selects RX5 yX5_come yX5_come ∈ TG := tg_2 (i := 98) rfl rfl
theorem wc_X5_come : Cond.code yX5_come cX5_come 3 (some .int) ∈ TG := tg_2 (i := 99) rfl rfl
theorem wl_X5_104 : Cond.methodLink RX5 104 yX3_isPair ∈ TG := tg_2 (i := 100) rfl rfl
theorem wi_X3_isPair : Cond.instanceMethod yX3_isPair ∈ TG := tg_2 (i := 101) rfl rfl
theorem ws_X3_isPair : Cond.selects RX3 yX3_isPair yX3_isPair ∈ TG := tg_2 (i := 102) rfl rfl
theorem wc_X3_isPair : Cond.code yX3_isPair cX3_isPair 3 (some .boolean) ∈ TG := tg_2 (i := 103) rfl rfl
theorem wl_X3_32 : Cond.methodLink RX3 32 yX3_isKeeper ∈ TG := tg_2 (i := 104) rfl rfl
theorem wl_X5_108 : Cond.methodLink RX5 108 yX3_underWay ∈ TG := tg_2 (i := 105) rfl rfl
theorem wi_X3_underWay : Cond.instanceMethod yX3_underWay ∈ TG := tg_2 (i := 106) rfl rfl
theorem ws_X3_underWay : Cond.selects RX3 yX3_underWay yX3_underWay ∈ TG := tg_2 (i := 107) rfl rfl
theorem wc_X3_underWay : Cond.code yX3_underWay cX3_underWay 3 (some .int) ∈ TG := tg_2 (i := 108) rfl rfl
theorem wl_X5_111 : Cond.methodLink RX5 111 yX5_bring ∈ TG := tg_2 (i := 109) rfl rfl
theorem wi_X5_bring : Cond.instanceMethod yX5_bring ∈ TG := tg_2 (i := 111) rfl rfl
theorem wc_X5_bring : Cond.code yX5_bring cX5_bring 4 (some .int) ∈ TG := tg_2 (i := 112) rfl rfl
theorem wl_X5_147 : Cond.methodLink RX5 147 yX3_letterAt ∈ TG := tg_2 (i := 113) rfl rfl
theorem wi_X3_letterAt : Cond.instanceMethod yX3_letterAt ∈ TG := tg_2 (i := 114) rfl rfl
theorem ws_X3_letterAt : Cond.selects RX3 yX3_letterAt yX3_letterAt ∈ TG := tg_2 (i := 115) rfl rfl
theorem wc_X3_letterAt : Cond.code yX3_letterAt cX3_letterAt 4 (some .int) ∈ TG := tg_2 (i := 116) rfl rfl
theorem wl_X5_151 : Cond.methodLink RX5 151 yX3_kindOf ∈ TG := tg_2 (i := 117) rfl rfl
theorem wt_X3_kindOf : Cond.static yX3_kindOf ∈ TG := tg_2 (i := 118) rfl rfl
theorem wc_X3_kindOf : Cond.code yX3_kindOf cX3_kindOf 1 (some .int) ∈ TG := tg_2 (i := 119) rfl rfl
theorem wl_X5_179 : Cond.methodLink RX5 179 yX4_coming ∈ TG := tg_2 (i := 120) rfl rfl
theorem wi_X4_coming : Cond.instanceMethod yX4_coming ∈ TG := tg_2 (i := 121) rfl rfl
theorem ws_X4_coming : Cond.selects RX4 yX4_coming yX4_coming ∈ TG := tg_2 (i := 122) rfl rfl
theorem wc_X4_coming : Cond.code yX4_coming cX4_coming 5 none ∈ TG := tg_2 (i := 123) rfl rfl
theorem wl_X4_63 : Cond.methodLink RX4 63 yX3_takeLetter ∈ TG := tg_2 (i := 124) rfl rfl
theorem wi_X3_takeLetter : Cond.instanceMethod yX3_takeLetter ∈ TG := tg_2 (i := 125) rfl rfl
theorem ws_X3_takeLetter : Cond.selects RX3 yX3_takeLetter yX3_takeLetter ∈ TG := tg_2 (i := 126) rfl rfl
theorem wc_X3_takeLetter : Cond.code yX3_takeLetter cX3_takeLetter 3 (some .int) ∈ TG := tg_2 (i := 127) rfl rfl
theorem wl_X3_60 : Cond.methodLink RX3 60 yX3_takeFirst ∈ TG := tg_2 (i := 128) rfl rfl
theorem wl_X4_67 : Cond.methodLink RX4 67 yX3_kindOf ∈ TG := tg_2 (i := 129) rfl rfl
theorem wl_X4_70 : Cond.methodLink RX4 70 yX3_numberOf ∈ TG := tg_2 (i := 130) rfl rfl
theorem wt_X3_numberOf : Cond.static yX3_numberOf ∈ TG := tg_2 (i := 131) rfl rfl
theorem wc_X3_numberOf : Cond.code yX3_numberOf cX3_numberOf 1 (some .int) ∈ TG := tg_2 (i := 132) rfl rfl
theorem wl_X4_73 : Cond.methodLink RX4 73 yX4_askedByAsking ∈ TG := tg_2 (i := 133) rfl rfl
theorem wi_X4_askedByAsking : Cond.instanceMethod yX4_askedByAsking ∈ TG := tg_2 (i := 135) rfl rfl
theorem wc_X4_askedByAsking : Cond.code yX4_askedByAsking cX4_askedByAsking 4 none ∈ TG := tg_2 (i := 136) rfl rfl
theorem wl_X4_109 : Cond.methodLink RX4 109 Lib.Math.max.name ∈ TG := tg_2 (i := 137) rfl rfl
theorem wt_max : Cond.static Lib.Math.max.name ∈ TG := tg_2 (i := 138) rfl rfl
theorem wc_max : Cond.code Lib.Math.max.name Lib.Math.max.code 2 (some .int) ∈ TG := tg_2 (i := 139) rfl rfl
theorem wl_X4_114 : Cond.methodLink RX4 114 yX4_goesBefore ∈ TG := tg_2 (i := 140) rfl rfl
theorem wi_X4_goesBefore : Cond.instanceMethod yX4_goesBefore ∈ TG := tg_2 (i := 142) rfl rfl
theorem wc_X4_goesBefore : Cond.code yX4_goesBefore cX4_goesBefore 6 (some .boolean) ∈ TG := tg_2 (i := 143) rfl rfl
theorem wl_X4_76 : Cond.methodLink RX4 76 yX4_given ∈ TG := tg_2 (i := 144) rfl rfl
theorem wi_X4_given : Cond.instanceMethod yX4_given ∈ TG := tg_2 (i := 146) rfl rfl
theorem wc_X4_given : Cond.code yX4_given cX4_given 3 none ∈ TG := tg_2 (i := 147) rfl rfl
theorem wl_X4_121 : Cond.methodLink RX4 121 yX4_stillToCome ∈ TG := tg_2 (i := 148) rfl rfl
theorem wi_X4_stillToCome : Cond.instanceMethod yX4_stillToCome ∈ TG := tg_2 (i := 149) rfl rfl
theorem ws_X4_stillToCome : Cond.selects RX4 yX4_stillToCome yX4_stillToCome ∈ TG := tg_2 (i := 150) rfl rfl
theorem wc_X4_stillToCome : Cond.code yX4_stillToCome cX4_stillToCome 3 (some .int) ∈ TG := tg_2 (i := 151) rfl rfl
theorem wl_X4_91 : Cond.methodLink RX4 91 yJ6_bitCount_0f7a4 ∈ TG := tg_2 (i := 152) rfl rfl
theorem wt_J6_bitCount_0f7a4 : Cond.static yJ6_bitCount_0f7a4 ∈ TG := tg_2 (i := 153) rfl rfl
theorem wc_J6_bitCount_0f7a4 : Cond.code yJ6_bitCount_0f7a4 cJ6_bitCount_0f7a4 1 (some .int) ∈ TG := tg_2 (i := 154) rfl rfl
theorem wk_J6_265 : Cond.constant RJ6 265 1431655765 ∈ TG := tg_2 (i := 155) rfl rfl
theorem wk_J6_266 : Cond.constant RJ6 266 858993459 ∈ TG := tg_2 (i := 156) rfl rfl
theorem wk_J6_267 : Cond.constant RJ6 267 252645135 ∈ TG := tg_2 (i := 157) rfl rfl
theorem wl_X4_79 : Cond.methodLink RX4 79 yX4_askedByToken ∈ TG := tg_2 (i := 158) rfl rfl
theorem wi_X4_askedByToken : Cond.instanceMethod yX4_askedByToken ∈ TG := tg_2 (i := 160) rfl rfl
theorem wc_X4_askedByToken : Cond.code yX4_askedByToken cX4_askedByToken 4 none ∈ TG := tg_2 (i := 161) rfl rfl
theorem wl_L_35 : Cond.methodLink RL 35 yX5_run ∈ TG := tg_2 (i := 162) rfl rfl
theorem wi_X5_run : Cond.instanceMethod yX5_run ∈ TG := tg_2 (i := 163) rfl rfl
theorem ws_X5_run : Cond.selects RX5 yX5_run yX5_run ∈ TG := tg_2 (i := 164) rfl rfl
theorem wc_X5_run : Cond.code yX5_run cX5_run 8 (some .int) ∈ TG := tg_2 (i := 165) rfl rfl
theorem wl_X5_114 : Cond.methodLink RX5 114 yX3_busyPairs ∈ TG := tg_2 (i := 166) rfl rfl
theorem wi_X3_busyPairs : Cond.instanceMethod yX3_busyPairs ∈ TG := tg_2 (i := 167) rfl rfl
theorem ws_X3_busyPairs : Cond.selects RX3 yX3_busyPairs yX3_busyPairs ∈ TG := tg_2 (i := 168) rfl rfl
theorem wc_X3_busyPairs : Cond.code yX3_busyPairs cX3_busyPairs 4 (some .int) ∈ TG := tg_2 (i := 169) rfl rfl
theorem wl_X3_63 : Cond.methodLink RX3 63 yX3_underWay ∈ TG := tg_2 (i := 170) rfl rfl
theorem wl_X5_117 : Cond.methodLink RX5 117 yX3_busyPair ∈ TG := tg_2 (i := 171) rfl rfl
theorem wi_X3_busyPair : Cond.instanceMethod yX3_busyPair ∈ TG := tg_2 (i := 172) rfl rfl
theorem ws_X3_busyPair : Cond.selects RX3 yX3_busyPair yX3_busyPair ∈ TG := tg_2 (i := 173) rfl rfl
theorem wc_X3_busyPair : Cond.code yX3_busyPair cX3_busyPair 5 (some .int) ∈ TG := tg_2 (i := 174) rfl rfl
theorem wk_X5_121 : Cond.constantLong RX5 121 1103515245 ∈ TG := tg_2 (i := 175) rfl rfl
theorem wk_X5_123 : Cond.constantLong RX5 123 12345 ∈ TG := tg_2 (i := 176) rfl rfl
theorem wk_X5_125 : Cond.constantLong RX5 125 2147483648 ∈ TG := tg_2 (i := 177) rfl rfl
theorem wk_X5_127 : Cond.constantLong RX5 127 8 ∈ TG := tg_2 (i := 178) rfl rfl
theorem wl_L_39 : Cond.methodLink RL 39 yX5_keeper ∈ TG := tg_2 (i := 179) rfl rfl
theorem wi_X5_keeper : Cond.instanceMethod yX5_keeper ∈ TG := tg_2 (i := 180) rfl rfl
theorem ws_X5_keeper : Cond.selects RX5 yX5_keeper yX5_keeper ∈ TG := tg_2 (i := 181) rfl rfl
theorem wc_X5_keeper : Cond.code yX5_keeper cX5_keeper 5 (some .int) ∈ TG := tg_2 (i := 182) rfl rfl
theorem wl_X5_129 : Cond.methodLink RX5 129 yX5_timeOf ∈ TG := tg_2 (i := 183) rfl rfl
theorem wi_X5_timeOf : Cond.instanceMethod yX5_timeOf ∈ TG := tg_2 (i := 185) rfl rfl
theorem wc_X5_timeOf : Cond.code yX5_timeOf cX5_timeOf 2 (some .int) ∈ TG := tg_2 (i := 186) rfl rfl
theorem wl_X5_144 : Cond.methodLink RX5 144 yX3_known ∈ TG := tg_2 (i := 187) rfl rfl
theorem wl_X5_132 : Cond.methodLink RX5 132 yX4_stillToCome ∈ TG := tg_2 (i := 188) rfl rfl
theorem wl_X5_135 : Cond.methodLink RX5 135 yX3_hasToken ∈ TG := tg_2 (i := 189) rfl rfl
theorem wl_X5_138 : Cond.methodLink RX5 138 yX3_queueOf ∈ TG := tg_2 (i := 190) rfl rfl
theorem wl_X5_141 : Cond.methodLink RX5 141 yX3_get ∈ TG := tg_2 (i := 191) rfl rfl
theorem wl_L_43 : Cond.methodLink RL 43 yX5_knows ∈ TG := tg_2 (i := 192) rfl rfl
theorem wi_X5_knows : Cond.instanceMethod yX5_knows ∈ TG := tg_2 (i := 193) rfl rfl
theorem ws_X5_knows : Cond.selects RX5 yX5_knows yX5_knows ∈ TG := tg_2 (i := 194) rfl rfl
theorem wc_X5_knows : Cond.code yX5_knows cX5_knows 4 (some .int) ∈ TG := tg_2 (i := 195) rfl rfl
theorem wl_L_47 : Cond.methodLink RL 47 yX5_token ∈ TG := tg_2 (i := 196) rfl rfl
theorem wi_X5_token : Cond.instanceMethod yX5_token ∈ TG := tg_2 (i := 197) rfl rfl
theorem ws_X5_token : Cond.selects RX5 yX5_token yX5_token ∈ TG := tg_2 (i := 198) rfl rfl
theorem wc_X5_token : Cond.code yX5_token cX5_token 3 (some .int) ∈ TG := tg_2 (i := 199) rfl rfl
theorem wl_L_51 : Cond.methodLink RL 51 yX5_letter ∈ TG := tg_2 (i := 200) rfl rfl
theorem wi_X5_letter : Cond.instanceMethod yX5_letter ∈ TG := tg_2 (i := 201) rfl rfl
theorem ws_X5_letter : Cond.selects RX5 yX5_letter yX5_letter ∈ TG := tg_2 (i := 202) rfl rfl
theorem wc_X5_letter : Cond.code yX5_letter cX5_letter 7 (some .int) ∈ TG := tg_2 (i := 203) rfl rfl
theorem wl_X5_154 : Cond.methodLink RX5 154 yX3_numberOf ∈ TG := tg_2 (i := 204) rfl rfl
theorem wl_L_56 : Cond.methodLink RL 56 yX5_entry ∈ TG := tg_2 (i := 205) rfl rfl
theorem wi_X5_entry : Cond.instanceMethod yX5_entry ∈ TG := tg_2 (i := 206) rfl rfl
theorem ws_X5_entry : Cond.selects RX5 yX5_entry yX5_entry ∈ TG := tg_2 (i := 207) rfl rfl
theorem wc_X5_entry : Cond.code yX5_entry cX5_entry 4 (some .int) ∈ TG := tg_2 (i := 208) rfl rfl
theorem wl_X5_157 : Cond.methodLink RX5 157 yX0_read ∈ TG := tg_2 (i := 209) rfl rfl
theorem wi_X0_read : Cond.instanceMethod yX0_read ∈ TG := tg_2 (i := 210) rfl rfl
theorem ws_X0_read : Cond.selects RX0 yX0_read yX0_read ∈ TG := tg_2 (i := 211) rfl rfl
theorem wc_X0_read : Cond.code yX0_read cX0_read 4 (some .int) ∈ TG := tg_2 (i := 212) rfl rfl
theorem wl_L_60 : Cond.methodLink RL 60 yX5_undo ∈ TG := tg_2 (i := 213) rfl rfl
theorem wi_X5_undo : Cond.instanceMethod yX5_undo ∈ TG := tg_2 (i := 214) rfl rfl
theorem ws_X5_undo : Cond.selects RX5 yX5_undo yX5_undo ∈ TG := tg_2 (i := 215) rfl rfl
theorem wc_X5_undo : Cond.code yX5_undo cX5_undo 1 (some .int) ∈ TG := tg_2 (i := 216) rfl rfl
theorem wl_X5_160 : Cond.methodLink RX5 160 yX1_takeBack ∈ TG := tg_2 (i := 217) rfl rfl
theorem wi_X1_takeBack : Cond.instanceMethod yX1_takeBack ∈ TG := tg_2 (i := 218) rfl rfl
theorem ws_X1_takeBack : Cond.selects RX1 yX1_takeBack yX1_takeBack ∈ TG := tg_2 (i := 219) rfl rfl
theorem wc_X1_takeBack : Cond.code yX1_takeBack cX1_takeBack 1 (some .boolean) ∈ TG := tg_2 (i := 220) rfl rfl
theorem wl_X1_39 : Cond.methodLink RX1 39 yX1_backToMark ∈ TG := tg_2 (i := 221) rfl rfl
theorem wl_L_65 : Cond.methodLink RL 65 yX5_pass ∈ TG := tg_2 (i := 222) rfl rfl
theorem wi_X5_pass : Cond.instanceMethod yX5_pass ∈ TG := tg_2 (i := 223) rfl rfl
theorem ws_X5_pass : Cond.selects RX5 yX5_pass yX5_pass ∈ TG := tg_2 (i := 224) rfl rfl
theorem wc_X5_pass : Cond.code yX5_pass cX5_pass 1 (some .int) ∈ TG := tg_2 (i := 225) rfl rfl
theorem wl_X5_163 : Cond.methodLink RX5 163 yX2_goThrough ∈ TG := tg_2 (i := 226) rfl rfl
theorem wi_X2_goThrough : Cond.instanceMethod yX2_goThrough ∈ TG := tg_2 (i := 227) rfl rfl
theorem ws_X2_goThrough : Cond.selects RX2 yX2_goThrough yX2_goThrough ∈ TG := tg_2 (i := 228) rfl rfl
theorem wc_X2_goThrough : Cond.code yX2_goThrough cX2_goThrough 2 (some .int) ∈ TG := tg_2 (i := 229) rfl rfl
theorem wl_X2_38 : Cond.methodLink RX2 38 yJ7_fill_53178 ∈ TG := tg_2 (i := 230) rfl rfl
theorem wl_X2_52 : Cond.methodLink RX2 52 yX3_copyTo ∈ TG := tg_2 (i := 231) rfl rfl
theorem wl_X2_61 : Cond.methodLink RX2 61 yX2_keep ∈ TG := tg_2 (i := 232) rfl rfl
theorem wi_X2_keep : Cond.instanceMethod yX2_keep ∈ TG := tg_2 (i := 234) rfl rfl
theorem wc_X2_keep : Cond.code yX2_keep cX2_keep 4 none ∈ TG := tg_2 (i := 235) rfl rfl
theorem wl_X2_120 : Cond.methodLink RX2 120 yX2_hash ∈ TG := tg_2 (i := 236) rfl rfl
theorem wi_X2_hash : Cond.instanceMethod yX2_hash ∈ TG := tg_2 (i := 238) rfl rfl
theorem wc_X2_hash : Cond.code yX2_hash cX2_hash 5 (some .int) ∈ TG := tg_2 (i := 239) rfl rfl
theorem wl_X2_143 : Cond.methodLink RX2 143 yX2_mixed ∈ TG := tg_3 (i := 0) rfl rfl
theorem wi_X2_mixed : Cond.instanceMethod yX2_mixed ∈ TG := tg_3 (i := 2) rfl rfl
theorem wc_X2_mixed : Cond.code yX2_mixed cX2_mixed 7 (some .int) ∈ TG := tg_3 (i := 3) rfl rfl
theorem wl_X2_104 : Cond.methodLink RX2 104 Lib.Math.max.name ∈ TG := tg_3 (i := 4) rfl rfl
theorem wl_X2_131 : Cond.methodLink RX2 131 yX3_wayFrom ∈ TG := tg_3 (i := 5) rfl rfl
theorem wi_X3_wayFrom : Cond.instanceMethod yX3_wayFrom ∈ TG := tg_3 (i := 6) rfl rfl
theorem ws_X3_wayFrom : Cond.selects RX3 yX3_wayFrom yX3_wayFrom ∈ TG := tg_3 (i := 7) rfl rfl
theorem wc_X3_wayFrom : Cond.code yX3_wayFrom cX3_wayFrom 1 (some .int) ∈ TG := tg_3 (i := 8) rfl rfl
theorem wl_X2_134 : Cond.methodLink RX2 134 yX3_wayTo ∈ TG := tg_3 (i := 9) rfl rfl
theorem wi_X3_wayTo : Cond.instanceMethod yX3_wayTo ∈ TG := tg_3 (i := 10) rfl rfl
theorem ws_X3_wayTo : Cond.selects RX3 yX3_wayTo yX3_wayTo ∈ TG := tg_3 (i := 11) rfl rfl
theorem wc_X3_wayTo : Cond.code yX3_wayTo cX3_wayTo 1 (some .int) ∈ TG := tg_3 (i := 12) rfl rfl
theorem wl_X2_137 : Cond.methodLink RX2 137 yX3_lettersOf ∈ TG := tg_3 (i := 13) rfl rfl
theorem wl_X2_87 : Cond.methodLink RX2 87 yX3_underWay ∈ TG := tg_3 (i := 14) rfl rfl
theorem wl_X2_123 : Cond.methodLink RX2 123 yX2_isState ∈ TG := tg_3 (i := 15) rfl rfl
theorem wi_X2_isState : Cond.instanceMethod yX2_isState ∈ TG := tg_3 (i := 17) rfl rfl
theorem wc_X2_isState : Cond.code yX2_isState cX2_isState 6 (some .boolean) ∈ TG := tg_3 (i := 18) rfl rfl
theorem wl_X2_127 : Cond.methodLink RX2 127 yX2_isLike ∈ TG := tg_3 (i := 19) rfl rfl
theorem wi_X2_isLike : Cond.instanceMethod yX2_isLike ∈ TG := tg_3 (i := 21) rfl rfl
theorem wc_X2_isLike : Cond.code yX2_isLike cX2_isLike 7 (some .boolean) ∈ TG := tg_3 (i := 22) rfl rfl
theorem wl_X2_64 : Cond.methodLink RX2 64 yX2_goFrom ∈ TG := tg_3 (i := 23) rfl rfl
theorem wi_X2_goFrom : Cond.instanceMethod yX2_goFrom ∈ TG := tg_3 (i := 25) rfl rfl
theorem wc_X2_goFrom : Cond.code yX2_goFrom cX2_goFrom 5 none ∈ TG := tg_3 (i := 26) rfl rfl
theorem wl_X2_71 : Cond.methodLink RX2 71 yX2_load ∈ TG := tg_3 (i := 27) rfl rfl
theorem wi_X2_load : Cond.instanceMethod yX2_load ∈ TG := tg_3 (i := 29) rfl rfl
theorem wc_X2_load : Cond.code yX2_load cX2_load 2 none ∈ TG := tg_3 (i := 30) rfl rfl
theorem wl_X2_68 : Cond.methodLink RX2 68 yX3_copyFrom ∈ TG := tg_3 (i := 31) rfl rfl
theorem wl_X2_74 : Cond.methodLink RX2 74 yX3_howMany ∈ TG := tg_3 (i := 32) rfl rfl
theorem wi_X3_howMany : Cond.instanceMethod yX3_howMany ∈ TG := tg_3 (i := 33) rfl rfl
theorem ws_X3_howMany : Cond.selects RX3 yX3_howMany yX3_howMany ∈ TG := tg_3 (i := 34) rfl rfl
theorem wc_X3_howMany : Cond.code yX3_howMany cX3_howMany 4 (some .int) ∈ TG := tg_3 (i := 35) rfl rfl
theorem wl_X2_78 : Cond.methodLink RX2 78 yX2_tally ∈ TG := tg_3 (i := 36) rfl rfl
theorem wi_X2_tally : Cond.instanceMethod yX2_tally ∈ TG := tg_3 (i := 38) rfl rfl
theorem wc_X2_tally : Cond.code yX2_tally cX2_tally 2 none ∈ TG := tg_3 (i := 39) rfl rfl
theorem wl_X2_109 : Cond.methodLink RX2 109 yX3_tokenIsLost ∈ TG := tg_3 (i := 40) rfl rfl
theorem wi_X3_tokenIsLost : Cond.instanceMethod yX3_tokenIsLost ∈ TG := tg_3 (i := 41) rfl rfl
theorem ws_X3_tokenIsLost : Cond.selects RX3 yX3_tokenIsLost yX3_tokenIsLost ∈ TG := tg_3 (i := 42) rfl rfl
theorem wc_X3_tokenIsLost : Cond.code yX3_tokenIsLost cX3_tokenIsLost 3 (some .boolean) ∈ TG := tg_3 (i := 43) rfl rfl
theorem wl_X3_69 : Cond.methodLink RX3 69 yX3_hasToken ∈ TG := tg_3 (i := 44) rfl rfl
theorem wl_X3_72 : Cond.methodLink RX3 72 yX3_tokenBetween ∈ TG := tg_3 (i := 45) rfl rfl
theorem wi_X3_tokenBetween : Cond.instanceMethod yX3_tokenBetween ∈ TG := tg_3 (i := 47) rfl rfl
theorem wc_X3_tokenBetween : Cond.code yX3_tokenBetween cX3_tokenBetween 5 (some .boolean) ∈ TG := tg_3 (i := 48) rfl rfl
theorem wl_X3_76 : Cond.methodLink RX3 76 yX3_letterAt ∈ TG := tg_3 (i := 49) rfl rfl
theorem wl_X3_80 : Cond.methodLink RX3 80 yX3_kindOf ∈ TG := tg_3 (i := 50) rfl rfl
theorem wl_X2_113 : Cond.methodLink RX2 113 yX3_underWayInAll ∈ TG := tg_3 (i := 51) rfl rfl
theorem wi_X3_underWayInAll : Cond.instanceMethod yX3_underWayInAll ∈ TG := tg_3 (i := 52) rfl rfl
theorem ws_X3_underWayInAll : Cond.selects RX3 yX3_underWayInAll yX3_underWayInAll ∈ TG := tg_3 (i := 53) rfl rfl
theorem wc_X3_underWayInAll : Cond.code yX3_underWayInAll cX3_underWayInAll 4 (some .int) ∈ TG := tg_3 (i := 54) rfl rfl
theorem wl_X2_91 : Cond.methodLink RX2 91 yX4_coming ∈ TG := tg_3 (i := 55) rfl rfl
theorem wl_X2_95 : Cond.methodLink RX2 95 yX2_weigh ∈ TG := tg_3 (i := 56) rfl rfl
theorem wi_X2_weigh : Cond.instanceMethod yX2_weigh ∈ TG := tg_3 (i := 58) rfl rfl
theorem wc_X2_weigh : Cond.code yX2_weigh cX2_weigh 2 none ∈ TG := tg_3 (i := 59) rfl rfl
theorem wl_X2_98 : Cond.methodLink RX2 98 yX3_of ∈ TG := tg_3 (i := 60) rfl rfl
theorem wl_X2_101 : Cond.methodLink RX2 101 yX4_left ∈ TG := tg_3 (i := 61) rfl rfl
theorem wl_L_69 : Cond.methodLink RL 69 yX5_passed ∈ TG := tg_3 (i := 62) rfl rfl
theorem wi_X5_passed : Cond.instanceMethod yX5_passed ∈ TG := tg_3 (i := 63) rfl rfl
theorem ws_X5_passed : Cond.selects RX5 yX5_passed yX5_passed ∈ TG := tg_3 (i := 64) rfl rfl
theorem wc_X5_passed : Cond.code yX5_passed cX5_passed 2 (some .int) ∈ TG := tg_3 (i := 65) rfl rfl
theorem wl_L_73 : Cond.methodLink RL 73 yX5_count ∈ TG := tg_3 (i := 66) rfl rfl
theorem wi_X5_count : Cond.instanceMethod yX5_count ∈ TG := tg_3 (i := 67) rfl rfl
theorem ws_X5_count : Cond.selects RX5 yX5_count yX5_count ∈ TG := tg_3 (i := 68) rfl rfl
theorem wc_X5_count : Cond.code yX5_count cX5_count 2 (some .int) ∈ TG := tg_3 (i := 69) rfl rfl
theorem wl_X5_170 : Cond.methodLink RX5 170 yX3_underWayInAll ∈ TG := tg_3 (i := 70) rfl rfl
theorem wl_X5_173 : Cond.methodLink RX5 173 yX3_howMany ∈ TG := tg_3 (i := 71) rfl rfl
theorem wg_L_10 : Cond.classLink RL 10 RX6 ∈ TG := tg_3 (i := 72) rfl rfl
theorem wa_X6 : Cond.instantiable RX6 18 ∈ TG := tg_3 (i := 73) rfl rfl
theorem wl_L_12 : Cond.methodLink RL 12 yX6_init ∈ TG := tg_3 (i := 74) rfl rfl
theorem wi_X6_init : Cond.instanceMethod yX6_init ∈ TG := tg_3 (i := 75) rfl rfl
theorem wc_X6_init : Cond.code yX6_init cX6_init 1 none ∈ TG := tg_3 (i := 76) rfl rfl
theorem wl_X6_1 : Cond.methodLink RX6 1 objectInit ∈ TG := tg_3 (i := 77) rfl rfl
theorem wk_X6_27 : Cond.constant RX6 27 36900 ∈ TG := tg_3 (i := 78) rfl rfl
theorem wk_X6_34 : Cond.constant RX6 34 312000 ∈ TG := tg_3 (i := 79) rfl rfl
theorem wl_X6_44 : Cond.methodLink RX6 44 yX6_clear ∈ TG := tg_3 (i := 80) rfl rfl
theorem wi_X6_clear : Cond.instanceMethod yX6_clear ∈ TG := tg_3 (i := 82) rfl rfl
theorem wc_X6_clear : Cond.code yX6_clear cX6_clear 2 none ∈ TG := tg_3 (i := 83) rfl rfl
theorem wl_X6_51 : Cond.methodLink RX6 51 yX6_layHolders ∈ TG := tg_3 (i := 84) rfl rfl
theorem wi_X6_layHolders : Cond.instanceMethod yX6_layHolders ∈ TG := tg_3 (i := 86) rfl rfl
theorem wc_X6_layHolders : Cond.code yX6_layHolders cX6_layHolders 2 none ∈ TG := tg_3 (i := 87) rfl rfl
theorem wf_X6_66 : Cond.fieldLink RX6 66 "KeyKeepersModel" "way" "I" ∈ TG := tg_3 (i := 88) rfl rfl
theorem wf_X6_7 : Cond.fieldLink RX6 7 "KeyKeepersModel" "n" "I" ∈ TG := tg_3 (i := 89) rfl rfl
theorem wf_X6_13 : Cond.fieldLink RX6 13 "KeyKeepersModel" "parent" "[I" ∈ TG := tg_3 (i := 90) rfl rfl
theorem wf_X6_17 : Cond.fieldLink RX6 17 "KeyKeepersModel" "st" "[I" ∈ TG := tg_3 (i := 91) rfl rfl
theorem wf_X6_20 : Cond.fieldLink RX6 20 "KeyKeepersModel" "ex" "[I" ∈ TG := tg_3 (i := 92) rfl rfl
theorem wf_X6_73 : Cond.fieldLink RX6 73 "KeyKeepersModel" "isOver" "Z" ∈ TG := tg_3 (i := 93) rfl rfl
theorem wf_X6_23 : Cond.fieldLink RX6 23 "KeyKeepersModel" "records" "Z" ∈ TG := tg_3 (i := 94) rfl rfl
theorem wf_X6_57 : Cond.fieldLink RX6 57 "KeyKeepersModel" "acted" "Z" ∈ TG := tg_3 (i := 95) rfl rfl
theorem wf_X6_63 : Cond.fieldLink RX6 63 "KeyKeepersModel" "begins" "I" ∈ TG := tg_3 (i := 96) rfl rfl
theorem wf_X6_60 : Cond.fieldLink RX6 60 "KeyKeepersModel" "passes" "I" ∈ TG := tg_3 (i := 97) rfl rfl
theorem wf_X6_54 : Cond.fieldLink RX6 54 "KeyKeepersModel" "kept" "I" ∈ TG := tg_3 (i := 98) rfl rfl
theorem wf_X6_28 : Cond.fieldLink RX6 28 "KeyKeepersModel" "was" "[I" ∈ TG := tg_3 (i := 99) rfl rfl
theorem wf_X6_31 : Cond.fieldLink RX6 31 "KeyKeepersModel" "back" "[I" ∈ TG := tg_3 (i := 100) rfl rfl
theorem wf_X6_156 : Cond.fieldLink RX6 156 "KeyKeepersModel" "states" "I" ∈ TG := tg_3 (i := 101) rfl rfl
theorem wf_X6_35 : Cond.fieldLink RX6 35 "KeyKeepersModel" "all" "[I" ∈ TG := tg_3 (i := 102) rfl rfl
theorem wf_X6_38 : Cond.fieldLink RX6 38 "KeyKeepersModel" "slots" "[I" ∈ TG := tg_3 (i := 103) rfl rfl
theorem wf_X6_41 : Cond.fieldLink RX6 41 "KeyKeepersModel" "told" "[I" ∈ TG := tg_3 (i := 104) rfl rfl
theorem wf_X6_159 : Cond.fieldLink RX6 159 "KeyKeepersModel" "isSpent" "Z" ∈ TG := tg_3 (i := 105) rfl rfl
theorem wy_X6_way : Cond.lays RX6 "KeyKeepersModel" "way" "I" ∈ TG := tg_3 (i := 106) rfl rfl
theorem wy_X6_n : Cond.lays RX6 "KeyKeepersModel" "n" "I" ∈ TG := tg_3 (i := 108) rfl rfl
theorem wy_X6_parent : Cond.laysFinal RX6 "KeyKeepersModel" "parent" "[I" ∈ TG := tg_3 (i := 110) rfl rfl
theorem wy_X6_st : Cond.laysFinal RX6 "KeyKeepersModel" "st" "[I" ∈ TG := tg_3 (i := 112) rfl rfl
theorem wy_X6_ex : Cond.laysFinal RX6 "KeyKeepersModel" "ex" "[I" ∈ TG := tg_3 (i := 114) rfl rfl
theorem wy_X6_isOver : Cond.lays RX6 "KeyKeepersModel" "isOver" "Z" ∈ TG := tg_3 (i := 116) rfl rfl
theorem wy_X6_records : Cond.lays RX6 "KeyKeepersModel" "records" "Z" ∈ TG := tg_3 (i := 118) rfl rfl
theorem wy_X6_acted : Cond.lays RX6 "KeyKeepersModel" "acted" "Z" ∈ TG := tg_3 (i := 120) rfl rfl
theorem wy_X6_begins : Cond.lays RX6 "KeyKeepersModel" "begins" "I" ∈ TG := tg_3 (i := 122) rfl rfl
theorem wy_X6_passes : Cond.lays RX6 "KeyKeepersModel" "passes" "I" ∈ TG := tg_3 (i := 124) rfl rfl
theorem wy_X6_kept : Cond.lays RX6 "KeyKeepersModel" "kept" "I" ∈ TG := tg_3 (i := 126) rfl rfl
theorem wy_X6_was : Cond.laysFinal RX6 "KeyKeepersModel" "was" "[I" ∈ TG := tg_3 (i := 128) rfl rfl
theorem wy_X6_back : Cond.laysFinal RX6 "KeyKeepersModel" "back" "[I" ∈ TG := tg_3 (i := 130) rfl rfl
theorem wy_X6_states : Cond.lays RX6 "KeyKeepersModel" "states" "I" ∈ TG := tg_3 (i := 132) rfl rfl
theorem wy_X6_all : Cond.laysFinal RX6 "KeyKeepersModel" "all" "[I" ∈ TG := tg_3 (i := 134) rfl rfl
theorem wy_X6_slots : Cond.laysFinal RX6 "KeyKeepersModel" "slots" "[I" ∈ TG := tg_3 (i := 136) rfl rfl
theorem wy_X6_told : Cond.laysFinal RX6 "KeyKeepersModel" "told" "[I" ∈ TG := tg_3 (i := 138) rfl rfl
theorem wy_X6_isSpent : Cond.lays RX6 "KeyKeepersModel" "isSpent" "Z" ∈ TG := tg_3 (i := 140) rfl rfl
theorem wl_L_17 : Cond.methodLink RL 17 yX6_begin ∈ TG := tg_3 (i := 143) rfl rfl
theorem wi_X6_begin : Cond.instanceMethod yX6_begin ∈ TG := tg_3 (i := 144) rfl rfl
theorem ws_X6_begin : Cond.selects RX6 yX6_begin yX6_begin ∈ TG := tg_3 (i := 145) rfl rfl
theorem wc_X6_begin : Cond.code yX6_begin cX6_begin 3 (some .int) ∈ TG := tg_3 (i := 146) rfl rfl
theorem wl_X6_47 : Cond.methodLink RX6 47 yX6_in ∈ TG := tg_3 (i := 147) rfl rfl
theorem wt_X6_in : Cond.static yX6_in ∈ TG := tg_3 (i := 148) rfl rfl
theorem wc_X6_in : Cond.code yX6_in cX6_in 3 (some .boolean) ∈ TG := tg_3 (i := 149) rfl rfl
theorem wl_L_21 : Cond.methodLink RL 21 yX6_parent ∈ TG := tg_3 (i := 150) rfl rfl
theorem wi_X6_parent : Cond.instanceMethod yX6_parent ∈ TG := tg_3 (i := 151) rfl rfl
theorem ws_X6_parent : Cond.selects RX6 yX6_parent yX6_parent ∈ TG := tg_3 (i := 152) rfl rfl
theorem wc_X6_parent : Cond.code yX6_parent cX6_parent 4 (some .int) ∈ TG := tg_3 (i := 153) rfl rfl
theorem wl_L_26 : Cond.methodLink RL 26 yX6_want ∈ TG := tg_3 (i := 154) rfl rfl
theorem wi_X6_want : Cond.instanceMethod yX6_want ∈ TG := tg_3 (i := 155) rfl rfl
theorem ws_X6_want : Cond.selects RX6 yX6_want yX6_want ∈ TG := tg_3 (i := 156) rfl rfl
theorem wc_X6_want : Cond.code yX6_want cX6_want 2 (some .int) ∈ TG := tg_3 (i := 157) rfl rfl
theorem wl_X6_113 : Cond.methodLink RX6 113 yX6_isKeeper ∈ TG := tg_3 (i := 158) rfl rfl
theorem wi_X6_isKeeper : Cond.instanceMethod yX6_isKeeper ∈ TG := tg_3 (i := 160) rfl rfl
theorem wc_X6_isKeeper : Cond.code yX6_isKeeper cX6_isKeeper 2 (some .boolean) ∈ TG := tg_3 (i := 161) rfl rfl
theorem wl_X6_116 : Cond.methodLink RX6 116 yX6_store ∈ TG := tg_3 (i := 162) rfl rfl
theorem wi_X6_store : Cond.instanceMethod yX6_store ∈ TG := tg_3 (i := 164) rfl rfl
theorem wc_X6_store : Cond.code yX6_store cX6_store 2 none ∈ TG := tg_3 (i := 165) rfl rfl
theorem wl_X6_119 : Cond.methodLink RX6 119 yX6_wants ∈ TG := tg_3 (i := 166) rfl rfl
theorem wi_X6_wants : Cond.instanceMethod yX6_wants ∈ TG := tg_3 (i := 168) rfl rfl
theorem wc_X6_wants : Cond.code yX6_wants cX6_wants 3 none ∈ TG := tg_3 (i := 169) rfl rfl
theorem wl_X6_88 : Cond.methodLink RX6 88 yX6_askAll ∈ TG := tg_3 (i := 170) rfl rfl
theorem wi_X6_askAll : Cond.instanceMethod yX6_askAll ∈ TG := tg_3 (i := 172) rfl rfl
theorem wc_X6_askAll : Cond.code yX6_askAll cX6_askAll 4 none ∈ TG := tg_3 (i := 173) rfl rfl
theorem wl_X6_76 : Cond.methodLink RX6 76 yX6_send ∈ TG := tg_3 (i := 174) rfl rfl
theorem wi_X6_send : Cond.instanceMethod yX6_send ∈ TG := tg_3 (i := 176) rfl rfl
theorem wc_X6_send : Cond.code yX6_send cX6_send 7 none ∈ TG := tg_3 (i := 177) rfl rfl
theorem wl_X6_69 : Cond.methodLink RX6 69 yX6_pairAt ∈ TG := tg_3 (i := 178) rfl rfl
theorem wi_X6_pairAt : Cond.instanceMethod yX6_pairAt ∈ TG := tg_3 (i := 180) rfl rfl
theorem wc_X6_pairAt : Cond.code yX6_pairAt cX6_pairAt 3 (some .int) ∈ TG := tg_3 (i := 181) rfl rfl
theorem wl_X6_84 : Cond.methodLink RX6 84 yX6_comesIn ∈ TG := tg_3 (i := 182) rfl rfl
theorem wi_X6_comesIn : Cond.instanceMethod yX6_comesIn ∈ TG := tg_3 (i := 184) rfl rfl
theorem wc_X6_comesIn : Cond.code yX6_comesIn cX6_comesIn 4 none ∈ TG := tg_3 (i := 185) rfl rfl
theorem wl_X6_80 : Cond.methodLink RX6 80 yX6_sent ∈ TG := tg_3 (i := 186) rfl rfl
theorem wi_X6_sent : Cond.instanceMethod yX6_sent ∈ TG := tg_3 (i := 188) rfl rfl
theorem wc_X6_sent : Cond.code yX6_sent cX6_sent 1 (some .int) ∈ TG := tg_3 (i := 189) rfl rfl
theorem wl_X6_92 : Cond.methodLink RX6 92 yX6_queue ∈ TG := tg_3 (i := 190) rfl rfl
theorem wi_X6_queue : Cond.instanceMethod yX6_queue ∈ TG := tg_3 (i := 192) rfl rfl
theorem wc_X6_queue : Cond.code yX6_queue cX6_queue 4 none ∈ TG := tg_3 (i := 193) rfl rfl
theorem wl_X6_95 : Cond.methodLink RX6 95 yX6_rules ∈ TG := tg_3 (i := 194) rfl rfl
theorem wi_X6_rules : Cond.instanceMethod yX6_rules ∈ TG := tg_3 (i := 196) rfl rfl
theorem wc_X6_rules : Cond.code yX6_rules cX6_rules 5 none ∈ TG := tg_3 (i := 197) rfl rfl
theorem wl_X6_122 : Cond.methodLink RX6 122 yX6_stands ∈ TG := tg_3 (i := 198) rfl rfl
theorem wi_X6_stands : Cond.instanceMethod yX6_stands ∈ TG := tg_3 (i := 200) rfl rfl
theorem wc_X6_stands : Cond.code yX6_stands cX6_stands 2 (some .boolean) ∈ TG := tg_3 (i := 201) rfl rfl
theorem wk_X6_112 : Cond.constant RX6 112 35670 ∈ TG := tg_3 (i := 202) rfl rfl
theorem wl_L_30 : Cond.methodLink RL 30 yX6_leave ∈ TG := tg_3 (i := 203) rfl rfl
theorem wi_X6_leave : Cond.instanceMethod yX6_leave ∈ TG := tg_3 (i := 204) rfl rfl
theorem ws_X6_leave : Cond.selects RX6 yX6_leave yX6_leave ∈ TG := tg_3 (i := 205) rfl rfl
theorem wc_X6_leave : Cond.code yX6_leave cX6_leave 3 (some .int) ∈ TG := tg_3 (i := 206) rfl rfl
theorem wl_X6_126 : Cond.methodLink RX6 126 yX6_leaves ∈ TG := tg_3 (i := 207) rfl rfl
theorem wi_X6_leaves : Cond.instanceMethod yX6_leaves ∈ TG := tg_3 (i := 209) rfl rfl
theorem wc_X6_leaves : Cond.code yX6_leaves cX6_leaves 5 none ∈ TG := tg_3 (i := 210) rfl rfl
theorem wl_X6_98 : Cond.methodLink RX6 98 yX6_isRowed ∈ TG := tg_3 (i := 211) rfl rfl
theorem wi_X6_isRowed : Cond.instanceMethod yX6_isRowed ∈ TG := tg_3 (i := 213) rfl rfl
theorem wc_X6_isRowed : Cond.code yX6_isRowed cX6_isRowed 4 (some .boolean) ∈ TG := tg_3 (i := 214) rfl rfl
theorem wl_X6_102 : Cond.methodLink RX6 102 yX6_passToken ∈ TG := tg_3 (i := 215) rfl rfl
theorem wi_X6_passToken : Cond.instanceMethod yX6_passToken ∈ TG := tg_3 (i := 217) rfl rfl
theorem wc_X6_passToken : Cond.code yX6_passToken cX6_passToken 3 none ∈ TG := tg_3 (i := 218) rfl rfl
theorem wl_L_34 : Cond.methodLink RL 34 yX6_come ∈ TG := tg_3 (i := 219) rfl rfl
theorem wi_X6_come : Cond.instanceMethod yX6_come ∈ TG := tg_3 (i := 220) rfl rfl
theorem ws_X6_come : Cond.selects RX6 yX6_come yX6_come ∈ TG := tg_3 (i := 221) rfl rfl
theorem wc_X6_come : Cond.code yX6_come cX6_come 4 (some .int) ∈ TG := tg_3 (i := 222) rfl rfl
theorem wl_X6_129 : Cond.methodLink RX6 129 yX6_comes ∈ TG := tg_3 (i := 223) rfl rfl
theorem wi_X6_comes : Cond.instanceMethod yX6_comes ∈ TG := tg_3 (i := 225) rfl rfl
theorem wc_X6_comes : Cond.code yX6_comes cX6_comes 7 (some .int) ∈ TG := tg_3 (i := 226) rfl rfl
theorem wl_X6_105 : Cond.methodLink RX6 105 yX6_dropEldest ∈ TG := tg_3 (i := 227) rfl rfl
theorem wi_X6_dropEldest : Cond.instanceMethod yX6_dropEldest ∈ TG := tg_3 (i := 229) rfl rfl
theorem wc_X6_dropEldest : Cond.code yX6_dropEldest cX6_dropEldest 3 none ∈ TG := tg_3 (i := 230) rfl rfl
theorem wl_X6_108 : Cond.methodLink RX6 108 yX6_askedComes ∈ TG := tg_3 (i := 231) rfl rfl
theorem wi_X6_askedComes : Cond.instanceMethod yX6_askedComes ∈ TG := tg_3 (i := 233) rfl rfl
theorem wc_X6_askedComes : Cond.code yX6_askedComes cX6_askedComes 7 none ∈ TG := tg_3 (i := 234) rfl rfl
theorem wl_L_38 : Cond.methodLink RL 38 yX6_run ∈ TG := tg_3 (i := 235) rfl rfl
theorem wi_X6_run : Cond.instanceMethod yX6_run ∈ TG := tg_3 (i := 236) rfl rfl
theorem ws_X6_run : Cond.selects RX6 yX6_run yX6_run ∈ TG := tg_3 (i := 237) rfl rfl
theorem wc_X6_run : Cond.code yX6_run cX6_run 9 (some .int) ∈ TG := tg_3 (i := 238) rfl rfl
theorem wl_X6_132 : Cond.methodLink RX6 132 yX6_pairOf ∈ TG := tg_3 (i := 239) rfl rfl
theorem wi_X6_pairOf : Cond.instanceMethod yX6_pairOf ∈ TG := tg_4 (i := 1) rfl rfl
theorem wc_X6_pairOf : Cond.code yX6_pairOf cX6_pairOf 5 (some .int) ∈ TG := tg_4 (i := 2) rfl rfl
theorem wl_X6_136 : Cond.methodLink RX6 136 yX6_come ∈ TG := tg_4 (i := 3) rfl rfl
theorem wk_X6_139 : Cond.constantLong RX6 139 1103515245 ∈ TG := tg_4 (i := 4) rfl rfl
theorem wk_X6_141 : Cond.constantLong RX6 141 12345 ∈ TG := tg_4 (i := 5) rfl rfl
theorem wk_X6_143 : Cond.constantLong RX6 143 2147483648 ∈ TG := tg_4 (i := 6) rfl rfl
theorem wk_X6_145 : Cond.constantLong RX6 145 8 ∈ TG := tg_4 (i := 7) rfl rfl
theorem wl_L_42 : Cond.methodLink RL 42 yX6_keeper ∈ TG := tg_4 (i := 8) rfl rfl
theorem wi_X6_keeper : Cond.instanceMethod yX6_keeper ∈ TG := tg_4 (i := 9) rfl rfl
theorem ws_X6_keeper : Cond.selects RX6 yX6_keeper yX6_keeper ∈ TG := tg_4 (i := 10) rfl rfl
theorem wc_X6_keeper : Cond.code yX6_keeper cX6_keeper 4 (some .int) ∈ TG := tg_4 (i := 11) rfl rfl
theorem wl_X6_147 : Cond.methodLink RX6 147 yX6_hasToken ∈ TG := tg_4 (i := 12) rfl rfl
theorem wi_X6_hasToken : Cond.instanceMethod yX6_hasToken ∈ TG := tg_4 (i := 14) rfl rfl
theorem wc_X6_hasToken : Cond.code yX6_hasToken cX6_hasToken 2 (some .boolean) ∈ TG := tg_4 (i := 15) rfl rfl
theorem wl_L_46 : Cond.methodLink RL 46 yX6_knows ∈ TG := tg_4 (i := 16) rfl rfl
theorem wi_X6_knows : Cond.instanceMethod yX6_knows ∈ TG := tg_4 (i := 17) rfl rfl
theorem ws_X6_knows : Cond.selects RX6 yX6_knows yX6_knows ∈ TG := tg_4 (i := 18) rfl rfl
theorem wc_X6_knows : Cond.code yX6_knows cX6_knows 3 (some .int) ∈ TG := tg_4 (i := 19) rfl rfl
theorem wl_L_50 : Cond.methodLink RL 50 yX6_token ∈ TG := tg_4 (i := 20) rfl rfl
theorem wi_X6_token : Cond.instanceMethod yX6_token ∈ TG := tg_4 (i := 21) rfl rfl
theorem ws_X6_token : Cond.selects RX6 yX6_token yX6_token ∈ TG := tg_4 (i := 22) rfl rfl
theorem wc_X6_token : Cond.code yX6_token cX6_token 3 (some .int) ∈ TG := tg_4 (i := 23) rfl rfl
theorem wl_L_55 : Cond.methodLink RL 55 yX6_letter ∈ TG := tg_4 (i := 24) rfl rfl
theorem wi_X6_letter : Cond.instanceMethod yX6_letter ∈ TG := tg_4 (i := 25) rfl rfl
theorem ws_X6_letter : Cond.selects RX6 yX6_letter yX6_letter ∈ TG := tg_4 (i := 26) rfl rfl
theorem wc_X6_letter : Cond.code yX6_letter cX6_letter 6 (some .int) ∈ TG := tg_4 (i := 27) rfl rfl
theorem wl_L_59 : Cond.methodLink RL 59 yX6_entry ∈ TG := tg_4 (i := 28) rfl rfl
theorem wi_X6_entry : Cond.instanceMethod yX6_entry ∈ TG := tg_4 (i := 29) rfl rfl
theorem ws_X6_entry : Cond.selects RX6 yX6_entry yX6_entry ∈ TG := tg_4 (i := 30) rfl rfl
theorem wc_X6_entry : Cond.code yX6_entry cX6_entry 3 (some .int) ∈ TG := tg_4 (i := 31) rfl rfl
theorem wl_L_64 : Cond.methodLink RL 64 yX6_undo ∈ TG := tg_4 (i := 32) rfl rfl
theorem wi_X6_undo : Cond.instanceMethod yX6_undo ∈ TG := tg_4 (i := 33) rfl rfl
theorem ws_X6_undo : Cond.selects RX6 yX6_undo yX6_undo ∈ TG := tg_4 (i := 34) rfl rfl
theorem wc_X6_undo : Cond.code yX6_undo cX6_undo 2 (some .int) ∈ TG := tg_4 (i := 35) rfl rfl
theorem wl_L_68 : Cond.methodLink RL 68 yX6_pass ∈ TG := tg_4 (i := 36) rfl rfl
theorem wi_X6_pass : Cond.instanceMethod yX6_pass ∈ TG := tg_4 (i := 37) rfl rfl
theorem ws_X6_pass : Cond.selects RX6 yX6_pass yX6_pass ∈ TG := tg_4 (i := 38) rfl rfl
theorem wc_X6_pass : Cond.code yX6_pass cX6_pass 2 (some .int) ∈ TG := tg_4 (i := 39) rfl rfl
theorem wl_X6_162 : Cond.methodLink RX6 162 yX6_meets ∈ TG := tg_4 (i := 40) rfl rfl
theorem wi_X6_meets : Cond.instanceMethod yX6_meets ∈ TG := tg_4 (i := 42) rfl rfl
theorem wc_X6_meets : Cond.code yX6_meets cX6_meets 3 none ∈ TG := tg_4 (i := 43) rfl rfl
theorem wl_X6_153 : Cond.methodLink RX6 153 yX6_slotOf ∈ TG := tg_4 (i := 44) rfl rfl
theorem wi_X6_slotOf : Cond.instanceMethod yX6_slotOf ∈ TG := tg_4 (i := 46) rfl rfl
theorem wc_X6_slotOf : Cond.code yX6_slotOf cX6_slotOf 3 (some .int) ∈ TG := tg_4 (i := 47) rfl rfl
theorem wl_X6_150 : Cond.methodLink RX6 150 yX6_isState ∈ TG := tg_4 (i := 48) rfl rfl
theorem wi_X6_isState : Cond.instanceMethod yX6_isState ∈ TG := tg_4 (i := 50) rfl rfl
theorem wc_X6_isState : Cond.code yX6_isState cX6_isState 4 (some .boolean) ∈ TG := tg_4 (i := 51) rfl rfl
theorem wl_X6_183 : Cond.methodLink RX6 183 yX6_visit ∈ TG := tg_4 (i := 52) rfl rfl
theorem wi_X6_visit : Cond.instanceMethod yX6_visit ∈ TG := tg_4 (i := 54) rfl rfl
theorem wc_X6_visit : Cond.code yX6_visit cX6_visit 6 none ∈ TG := tg_4 (i := 55) rfl rfl
theorem wl_X6_165 : Cond.methodLink RX6 165 yX6_load ∈ TG := tg_4 (i := 56) rfl rfl
theorem wi_X6_load : Cond.instanceMethod yX6_load ∈ TG := tg_4 (i := 58) rfl rfl
theorem wc_X6_load : Cond.code yX6_load cX6_load 3 none ∈ TG := tg_4 (i := 59) rfl rfl
theorem wl_X6_168 : Cond.methodLink RX6 168 yX6_ofMode ∈ TG := tg_4 (i := 60) rfl rfl
theorem wi_X6_ofMode : Cond.instanceMethod yX6_ofMode ∈ TG := tg_4 (i := 62) rfl rfl
theorem wc_X6_ofMode : Cond.code yX6_ofMode cX6_ofMode 4 (some .int) ∈ TG := tg_4 (i := 63) rfl rfl
theorem wl_X6_171 : Cond.methodLink RX6 171 yX6_more ∈ TG := tg_4 (i := 64) rfl rfl
theorem wt_X6_more : Cond.static yX6_more ∈ TG := tg_4 (i := 65) rfl rfl
theorem wc_X6_more : Cond.code yX6_more cX6_more 2 (some .int) ∈ TG := tg_4 (i := 66) rfl rfl
theorem wl_X6_174 : Cond.methodLink RX6 174 yX6_underWay ∈ TG := tg_4 (i := 67) rfl rfl
theorem wi_X6_underWay : Cond.instanceMethod yX6_underWay ∈ TG := tg_4 (i := 69) rfl rfl
theorem wc_X6_underWay : Cond.code yX6_underWay cX6_underWay 3 (some .int) ∈ TG := tg_4 (i := 70) rfl rfl
theorem wl_X6_177 : Cond.methodLink RX6 177 yX6_isTokenSomewhere ∈ TG := tg_4 (i := 71) rfl rfl
theorem wi_X6_isTokenSomewhere : Cond.instanceMethod yX6_isTokenSomewhere ∈ TG := tg_4 (i := 73) rfl rfl
theorem wc_X6_isTokenSomewhere : Cond.code yX6_isTokenSomewhere cX6_isTokenSomewhere 5 (some .boolean) ∈ TG := tg_4 (i := 74) rfl rfl
theorem wl_X6_180 : Cond.methodLink RX6 180 yX6_goes ∈ TG := tg_4 (i := 75) rfl rfl
theorem wi_X6_goes : Cond.instanceMethod yX6_goes ∈ TG := tg_4 (i := 77) rfl rfl
theorem wc_X6_goes : Cond.code yX6_goes cX6_goes 1 (some .int) ∈ TG := tg_4 (i := 78) rfl rfl
theorem wl_L_72 : Cond.methodLink RL 72 yX6_passed ∈ TG := tg_4 (i := 79) rfl rfl
theorem wi_X6_passed : Cond.instanceMethod yX6_passed ∈ TG := tg_4 (i := 80) rfl rfl
theorem ws_X6_passed : Cond.selects RX6 yX6_passed yX6_passed ∈ TG := tg_4 (i := 81) rfl rfl
theorem wc_X6_passed : Cond.code yX6_passed cX6_passed 2 (some .int) ∈ TG := tg_4 (i := 82) rfl rfl
theorem wl_L_76 : Cond.methodLink RL 76 yX6_count ∈ TG := tg_4 (i := 83) rfl rfl
theorem wi_X6_count : Cond.instanceMethod yX6_count ∈ TG := tg_4 (i := 84) rfl rfl
theorem ws_X6_count : Cond.selects RX6 yX6_count yX6_count ∈ TG := tg_4 (i := 85) rfl rfl
theorem wc_X6_count : Cond.code yX6_count cX6_count 2 (some .int) ∈ TG := tg_4 (i := 86) rfl rfl
theorem wu_X0 : ∀ w ∈ u_ws RX0 TX0 1, w ∈ TG := by
  intro w hw
  obtain ⟨k, hk, rfl⟩ := List.mem_map.mp hw
  have hk := List.mem_range.mp hk
  match k, hk with
  | 0, _ => exact wy_X0_lines
  | k + 1, h => omega
theorem wu_X1 : ∀ w ∈ u_ws RX1 TX1 4, w ∈ TG := by
  intro w hw
  obtain ⟨k, hk, rfl⟩ := List.mem_map.mp hw
  have hk := List.mem_range.mp hk
  match k, hk with
  | 0, _ => exact wy_X1_stand
  | 1, _ => exact wy_X1_rows
  | 2, _ => exact wy_X1_place
  | 3, _ => exact wy_X1_kept
  | k + 4, h => omega
theorem wu_X2 : ∀ w ∈ u_ws RX2 TX2 10, w ∈ TG := by
  intro w hw
  obtain ⟨k, hk, rfl⟩ := List.mem_map.mp hw
  have hk := List.mem_range.mp hk
  match k, hk with
  | 0, _ => exact wy_X2_stand
  | 1, _ => exact wy_X2_ways
  | 2, _ => exact wy_X2_states
  | 3, _ => exact wy_X2_hashes
  | 4, _ => exact wy_X2_table
  | 5, _ => exact wy_X2_before
  | 6, _ => exact wy_X2_told
  | 7, _ => exact wy_X2_found
  | 8, _ => exact wy_X2_spent
  | 9, _ => exact wy_X2_brought
  | k + 10, h => omega
theorem wu_X3 : ∀ w ∈ u_ws RX3 TX3 4, w ∈ TG := by
  intro w hw
  obtain ⟨k, hk, rfl⟩ := List.mem_map.mp hw
  have hk := List.mem_range.mp hk
  match k, hk with
  | 0, _ => exact wy_X3_row
  | 1, _ => exact wy_X3_way
  | 2, _ => exact wy_X3_n
  | 3, _ => exact wy_X3_tooMany
  | k + 4, h => omega
theorem wu_X4 : ∀ w ∈ u_ws RX4 TX4 3, w ∈ TG := by
  intro w hw
  obtain ⟨k, hk, rfl⟩ := List.mem_map.mp hw
  have hk := List.mem_range.mp hk
  match k, hk with
  | 0, _ => exact wy_X4_stand
  | 1, _ => exact wy_X4_book
  | 2, _ => exact wy_X4_writing
  | k + 3, h => omega
theorem wu_X5 : ∀ w ∈ u_ws RX5 TX5 8, w ∈ TG := by
  intro w hw
  obtain ⟨k, hk, rfl⟩ := List.mem_map.mp hw
  have hk := List.mem_range.mp hk
  match k, hk with
  | 0, _ => exact wy_X5_stand
  | 1, _ => exact wy_X5_book
  | 2, _ => exact wy_X5_ways
  | 3, _ => exact wy_X5_past
  | 4, _ => exact wy_X5_search
  | 5, _ => exact wy_X5_begins
  | 6, _ => exact wy_X5_passes
  | 7, _ => exact wy_X5_acted
  | k + 8, h => omega
theorem wu_X6 : ∀ w ∈ u_ws RX6 TX6 18, w ∈ TG := by
  intro w hw
  obtain ⟨k, hk, rfl⟩ := List.mem_map.mp hw
  have hk := List.mem_range.mp hk
  match k, hk with
  | 0, _ => exact wy_X6_way
  | 1, _ => exact wy_X6_n
  | 2, _ => exact wy_X6_parent
  | 3, _ => exact wy_X6_st
  | 4, _ => exact wy_X6_ex
  | 5, _ => exact wy_X6_isOver
  | 6, _ => exact wy_X6_records
  | 7, _ => exact wy_X6_acted
  | 8, _ => exact wy_X6_begins
  | 9, _ => exact wy_X6_passes
  | 10, _ => exact wy_X6_kept
  | 11, _ => exact wy_X6_was
  | 12, _ => exact wy_X6_back
  | 13, _ => exact wy_X6_states
  | 14, _ => exact wy_X6_all
  | 15, _ => exact wy_X6_slots
  | 16, _ => exact wy_X6_told
  | 17, _ => exact wy_X6_isSpent
  | k + 18, h => omega
