def lw_g : List Cond := lw_tbl.filter goodWord
theorem lw_m0 {w : Cond} (h : w ∈ k2_sels lw_privs) (hg : goodWord w = true) : w ∈ lw_g := List.mem_filter.mpr ⟨List.mem_append_left _ h, hg⟩
theorem lw_n1 {w : Cond} (h : w ∈ tables_1_1) : w ∈ lw_tbl := List.mem_append_right _ (List.mem_append_left _ h)
theorem lw_m1 {w : Cond} (h : w ∈ tables_1_1) (hg : goodWord w = true) : w ∈ lw_g := List.mem_filter.mpr ⟨lw_n1 h, hg⟩
theorem lw_n2 {w : Cond} (h : w ∈ tables_1_2) : w ∈ lw_tbl := List.mem_append_right _ (List.mem_append_right _ (List.mem_append_left _ h))
theorem lw_m2 {w : Cond} (h : w ∈ tables_1_2) (hg : goodWord w = true) : w ∈ lw_g := List.mem_filter.mpr ⟨lw_n2 h, hg⟩
theorem lw_n3 {w : Cond} (h : w ∈ tables_1_3) : w ∈ lw_tbl := List.mem_append_right _ (List.mem_append_right _ (List.mem_append_right _ (List.mem_append_left _ h)))
theorem lw_m3 {w : Cond} (h : w ∈ tables_1_3) (hg : goodWord w = true) : w ∈ lw_g := List.mem_filter.mpr ⟨lw_n3 h, hg⟩
theorem lw_n4 {w : Cond} (h : w ∈ tables_1_4) : w ∈ lw_tbl := List.mem_append_right _ (List.mem_append_right _ (List.mem_append_right _ (List.mem_append_right _ (List.mem_append_left _ h))))
theorem lw_m4 {w : Cond} (h : w ∈ tables_1_4) (hg : goodWord w = true) : w ∈ lw_g := List.mem_filter.mpr ⟨lw_n4 h, hg⟩
theorem lw_n5 {w : Cond} (h : w ∈ tables_1_5) : w ∈ lw_tbl := List.mem_append_right _ (List.mem_append_right _ (List.mem_append_right _ (List.mem_append_right _ (List.mem_append_right _ h))))
theorem lw_m5 {w : Cond} (h : w ∈ tables_1_5) (hg : goodWord w = true) : w ∈ lw_g := List.mem_filter.mpr ⟨lw_n5 h, hg⟩
theorem kn_RL : Cond.initialized RL ∈ lw_g := lw_m1 (List.mem_of_getElem? (i := 0) rfl) rfl
theorem kn_RX1 : Cond.initialized RX1 ∈ lw_g := lw_m1 (List.mem_of_getElem? (i := 1) rfl) rfl
theorem kn_RX0 : Cond.initialized RX0 ∈ lw_g := lw_m1 (List.mem_of_getElem? (i := 2) rfl) rfl
theorem kn_RX2 : Cond.initialized RX2 ∈ lw_g := lw_m1 (List.mem_of_getElem? (i := 3) rfl) rfl
theorem kn_RJ0 : Cond.initialized RJ0 ∈ lw_g := lw_m1 (List.mem_of_getElem? (i := 4) rfl) rfl
theorem kn_RJ1 : Cond.initialized RJ1 ∈ lw_g := lw_m1 (List.mem_of_getElem? (i := 5) rfl) rfl
theorem kn_RJ9 : Cond.initialized RJ9 ∈ lw_g := lw_m1 (List.mem_of_getElem? (i := 6) rfl) rfl
theorem kn_RJ2 : Cond.initialized RJ2 ∈ lw_g := lw_m1 (List.mem_of_getElem? (i := 7) rfl) rfl
theorem kn_RJ3 : Cond.initialized RJ3 ∈ lw_g := lw_m1 (List.mem_of_getElem? (i := 8) rfl) rfl
theorem kn_RJ11 : Cond.initialized RJ11 ∈ lw_g := lw_m1 (List.mem_of_getElem? (i := 9) rfl) rfl
theorem kn_RJ10 : Cond.initialized RJ10 ∈ lw_g := lw_m1 (List.mem_of_getElem? (i := 10) rfl) rfl
theorem kn_RJ6 : Cond.initialized RJ6 ∈ lw_g := lw_m1 (List.mem_of_getElem? (i := 11) rfl) rfl
theorem kn_RJ7 : Cond.initialized RJ7 ∈ lw_g := lw_m1 (List.mem_of_getElem? (i := 12) rfl) rfl
theorem kq_RL_7 : Cond.classLink RL 7 RX1 ∈ lw_g := lw_m1 (List.mem_of_getElem? (i := 13) rfl) rfl
theorem kb_RX1 : Cond.instantiable RX1 12 ∈ lw_g := lw_m1 (List.mem_of_getElem? (i := 14) rfl) rfl
theorem kl_RL_9 : Cond.methodLink RL 9 yX1_init ∈ lw_g := lw_m1 (List.mem_of_getElem? (i := 15) rfl) rfl
theorem ki_yX1_init : Cond.instanceMethod yX1_init ∈ lw_g := lw_m1 (List.mem_of_getElem? (i := 16) rfl) rfl
theorem kc_yX1_init : Cond.code yX1_init cX1_init 1 none ∈ lw_g := lw_m1 (List.mem_of_getElem? (i := 17) rfl) rfl
theorem kl_RX1_1 : Cond.methodLink RX1 1 ({ cls := "java/lang/Object", name := "<init>", desc := "()V" } : MethodName) ∈ lw_g := lw_m1 (List.mem_of_getElem? (i := 18) rfl) rfl
theorem ki_obj : Cond.instanceMethod objectInit ∈ lw_g := lw_m1 (List.mem_of_getElem? (i := 19) rfl) rfl
theorem kc_obj : Cond.code objectInit ⟨#[0xb1]⟩ 1 none ∈ lw_g := lw_m1 (List.mem_of_getElem? (i := 20) rfl) rfl
theorem kq_RX1_7 : Cond.classLink RX1 7 RX0 ∈ lw_g := lw_m1 (List.mem_of_getElem? (i := 21) rfl) rfl
theorem kb_RX0 : Cond.instantiable RX0 12 ∈ lw_g := lw_m1 (List.mem_of_getElem? (i := 22) rfl) rfl
theorem kl_RX1_9 : Cond.methodLinkNest RX1 9 yX0_init "RocketsAsk" ∈ lw_tbl := lw_n1 (List.mem_of_getElem? (i := 23) rfl)
theorem ki_yX0_init : Cond.instanceMethod yX0_init ∈ lw_g := lw_m1 (List.mem_of_getElem? (i := 24) rfl) rfl
theorem kc_yX0_init : Cond.code yX0_init cX0_init 1 none ∈ lw_g := lw_m1 (List.mem_of_getElem? (i := 25) rfl) rfl
theorem kl_RX0_3 : Cond.methodLink RX0 3 ({ cls := "java/lang/Object", name := "<init>", desc := "()V" } : MethodName) ∈ lw_g := lw_m1 (List.mem_of_getElem? (i := 26) rfl) rfl
theorem kf_RX0_9 : Cond.fieldLink RX0 9 "RocketsAsk$Valley" "rockets" "I" ∈ lw_g := lw_m1 (List.mem_of_getElem? (i := 27) rfl) rfl
theorem kf_RX1_129 : Cond.fieldLink RX1 129 "RocketsAsk$Valley" "rockets" "I" ∈ lw_g := lw_m1 (List.mem_of_getElem? (i := 28) rfl) rfl
theorem kf_RX0_15 : Cond.fieldLink RX0 15 "RocketsAsk$Valley" "kind" "[I" ∈ lw_g := lw_m1 (List.mem_of_getElem? (i := 29) rfl) rfl
theorem kf_RX1_73 : Cond.fieldLink RX1 73 "RocketsAsk$Valley" "kind" "[I" ∈ lw_g := lw_m1 (List.mem_of_getElem? (i := 30) rfl) rfl
theorem kf_RX0_19 : Cond.fieldLink RX0 19 "RocketsAsk$Valley" "figure" "[I" ∈ lw_g := lw_m1 (List.mem_of_getElem? (i := 31) rfl) rfl
theorem kf_RX1_76 : Cond.fieldLink RX1 76 "RocketsAsk$Valley" "figure" "[I" ∈ lw_g := lw_m1 (List.mem_of_getElem? (i := 32) rfl) rfl
theorem kf_RX0_22 : Cond.fieldLink RX0 22 "RocketsAsk$Valley" "word" "[I" ∈ lw_g := lw_m1 (List.mem_of_getElem? (i := 33) rfl) rfl
theorem kf_RX1_79 : Cond.fieldLink RX1 79 "RocketsAsk$Valley" "word" "[I" ∈ lw_g := lw_m1 (List.mem_of_getElem? (i := 34) rfl) rfl
theorem kf_RX0_25 : Cond.fieldLink RX0 25 "RocketsAsk$Valley" "sent" "I" ∈ lw_g := lw_m1 (List.mem_of_getElem? (i := 35) rfl) rfl
theorem kf_RX1_132 : Cond.fieldLink RX1 132 "RocketsAsk$Valley" "sent" "I" ∈ lw_g := lw_m1 (List.mem_of_getElem? (i := 36) rfl) rfl
theorem kf_RX0_28 : Cond.fieldLink RX0 28 "RocketsAsk$Valley" "readers" "I" ∈ lw_g := lw_m1 (List.mem_of_getElem? (i := 37) rfl) rfl
theorem kf_RX1_203 : Cond.fieldLink RX1 203 "RocketsAsk$Valley" "readers" "I" ∈ lw_g := lw_m1 (List.mem_of_getElem? (i := 38) rfl) rfl
theorem kf_RX0_31 : Cond.fieldLink RX0 31 "RocketsAsk$Valley" "at" "[I" ∈ lw_g := lw_m1 (List.mem_of_getElem? (i := 39) rfl) rfl
theorem kf_RX1_103 : Cond.fieldLink RX1 103 "RocketsAsk$Valley" "at" "[I" ∈ lw_g := lw_m1 (List.mem_of_getElem? (i := 40) rfl) rfl
theorem kf_RX0_34 : Cond.fieldLink RX0 34 "RocketsAsk$Valley" "minds" "[I" ∈ lw_g := lw_m1 (List.mem_of_getElem? (i := 41) rfl) rfl
theorem kf_RX1_106 : Cond.fieldLink RX1 106 "RocketsAsk$Valley" "minds" "[I" ∈ lw_g := lw_m1 (List.mem_of_getElem? (i := 42) rfl) rfl
theorem kf_RX0_37 : Cond.fieldLink RX0 37 "RocketsAsk$Valley" "left" "[I" ∈ lw_g := lw_m1 (List.mem_of_getElem? (i := 43) rfl) rfl
theorem kf_RX1_112 : Cond.fieldLink RX1 112 "RocketsAsk$Valley" "left" "[I" ∈ lw_g := lw_m1 (List.mem_of_getElem? (i := 44) rfl) rfl
theorem kf_RX0_40 : Cond.fieldLink RX0 40 "RocketsAsk$Valley" "money" "I" ∈ lw_g := lw_m1 (List.mem_of_getElem? (i := 45) rfl) rfl
theorem kf_RX1_122 : Cond.fieldLink RX1 122 "RocketsAsk$Valley" "money" "I" ∈ lw_g := lw_m1 (List.mem_of_getElem? (i := 46) rfl) rfl
theorem kf_RX0_43 : Cond.fieldLink RX0 43 "RocketsAsk$Valley" "blows" "I" ∈ lw_g := lw_m1 (List.mem_of_getElem? (i := 47) rfl) rfl
theorem kf_RX1_144 : Cond.fieldLink RX1 144 "RocketsAsk$Valley" "blows" "I" ∈ lw_g := lw_m1 (List.mem_of_getElem? (i := 48) rfl) rfl
theorem kf_RX0_46 : Cond.fieldLink RX0 46 "RocketsAsk$Valley" "night" "I" ∈ lw_g := lw_m1 (List.mem_of_getElem? (i := 49) rfl) rfl
theorem kf_RX1_147 : Cond.fieldLink RX1 147 "RocketsAsk$Valley" "night" "I" ∈ lw_g := lw_m1 (List.mem_of_getElem? (i := 50) rfl) rfl
theorem ka_int : Cond.arrayClass .int ∈ lw_g := lw_m1 (List.mem_of_getElem? (i := 76) rfl) rfl
theorem kf_RX1_10 : Cond.fieldLink RX1 10 "RocketsAsk" "now" "LRocketsAsk$Valley;" ∈ lw_g := lw_m1 (List.mem_of_getElem? (i := 77) rfl) rfl
theorem kf_RX1_16 : Cond.fieldLink RX1 16 "RocketsAsk" "mind" "LRocketsAsk$Valley;" ∈ lw_g := lw_m1 (List.mem_of_getElem? (i := 78) rfl) rfl
theorem kf_RX1_19 : Cond.fieldLink RX1 19 "RocketsAsk" "picture" "LRocketsAsk$Valley;" ∈ lw_g := lw_m1 (List.mem_of_getElem? (i := 79) rfl) rfl
theorem kf_RX1_22 : Cond.fieldLink RX1 22 "RocketsAsk" "pictured" "Z" ∈ lw_g := lw_m1 (List.mem_of_getElem? (i := 80) rfl) rfl
theorem kf_RX1_26 : Cond.fieldLink RX1 26 "RocketsAsk" "letters" "[I" ∈ lw_g := lw_m1 (List.mem_of_getElem? (i := 81) rfl) rfl
theorem kf_RX1_30 : Cond.fieldLink RX1 30 "RocketsAsk" "letterCount" "I" ∈ lw_g := lw_m1 (List.mem_of_getElem? (i := 82) rfl) rfl
theorem kf_RX1_34 : Cond.fieldLink RX1 34 "RocketsAsk" "told" "[I" ∈ lw_g := lw_m1 (List.mem_of_getElem? (i := 83) rfl) rfl
theorem kf_RX1_37 : Cond.fieldLink RX1 37 "RocketsAsk" "toldCount" "I" ∈ lw_g := lw_m1 (List.mem_of_getElem? (i := 84) rfl) rfl
theorem kf_RX1_40 : Cond.fieldLink RX1 40 "RocketsAsk" "refusals" "[I" ∈ lw_g := lw_m1 (List.mem_of_getElem? (i := 85) rfl) rfl
theorem kf_RX1_43 : Cond.fieldLink RX1 43 "RocketsAsk" "brings" "[I" ∈ lw_g := lw_m1 (List.mem_of_getElem? (i := 86) rfl) rfl
theorem kf_RX1_46 : Cond.fieldLink RX1 46 "RocketsAsk" "firstGets" "[I" ∈ lw_g := lw_m1 (List.mem_of_getElem? (i := 87) rfl) rfl
theorem kf_RX1_49 : Cond.fieldLink RX1 49 "RocketsAsk" "otherGets" "[I" ∈ lw_g := lw_m1 (List.mem_of_getElem? (i := 88) rfl) rfl
theorem kl_RL_13 : Cond.methodLink RL 13 yX1_letter ∈ lw_g := lw_m1 (List.mem_of_getElem? (i := 114) rfl) rfl
theorem ki_yX1_letter : Cond.instanceMethod yX1_letter ∈ lw_g := lw_m1 (List.mem_of_getElem? (i := 115) rfl) rfl
theorem ks_yX1_letter : Cond.selects RX1 yX1_letter yX1_letter ∈ lw_g := lw_m1 (List.mem_of_getElem? (i := 116) rfl) rfl
theorem kc_yX1_letter : Cond.code yX1_letter cX1_letter 2 (some .int) ∈ lw_g := lw_m1 (List.mem_of_getElem? (i := 117) rfl) rfl
theorem kl_RX1_52 : Cond.methodLink RX1 52 yX1_refuse ∈ lw_g := lw_m1 (List.mem_of_getElem? (i := 118) rfl) rfl
theorem ki_yX1_refuse : Cond.instanceMethod yX1_refuse ∈ lw_g := lw_m1 (List.mem_of_getElem? (i := 120) rfl) rfl
theorem kc_yX1_refuse : Cond.code yX1_refuse cX1_refuse 2 (some .int) ∈ lw_g := lw_m1 (List.mem_of_getElem? (i := 121) rfl) rfl
theorem kl_RL_18 : Cond.methodLink RL 18 yX1_valley ∈ lw_g := lw_m1 (List.mem_of_getElem? (i := 122) rfl) rfl
theorem ki_yX1_valley : Cond.instanceMethod yX1_valley ∈ lw_g := lw_m1 (List.mem_of_getElem? (i := 123) rfl) rfl
theorem ks_yX1_valley : Cond.selects RX1 yX1_valley yX1_valley ∈ lw_g := lw_m1 (List.mem_of_getElem? (i := 124) rfl) rfl
theorem kc_yX1_valley : Cond.code yX1_valley cX1_valley 5 (some .int) ∈ lw_g := lw_m1 (List.mem_of_getElem? (i := 125) rfl) rfl
theorem kl_RX1_56 : Cond.methodLink RX1 56 yX1_wrongLetter ∈ lw_g := lw_m1 (List.mem_of_getElem? (i := 126) rfl) rfl
theorem ki_yX1_wrongLetter : Cond.instanceMethod yX1_wrongLetter ∈ lw_g := lw_m1 (List.mem_of_getElem? (i := 128) rfl) rfl
theorem kc_yX1_wrongLetter : Cond.code yX1_wrongLetter cX1_wrongLetter 6 (some .int) ∈ lw_g := lw_m1 (List.mem_of_getElem? (i := 129) rfl) rfl
theorem kl_RX1_67 : Cond.methodLink RX1 67 yX1_lettersBehind ∈ lw_g := lw_m1 (List.mem_of_getElem? (i := 130) rfl) rfl
theorem kt_yX1_lettersBehind : Cond.static yX1_lettersBehind ∈ lw_g := lw_m1 (List.mem_of_getElem? (i := 131) rfl) rfl
theorem kc_yX1_lettersBehind : Cond.code yX1_lettersBehind cX1_lettersBehind 1 (some .int) ∈ lw_g := lw_m1 (List.mem_of_getElem? (i := 132) rfl) rfl
theorem kl_RX1_253 : Cond.methodLink RX1 253 yX1_canStand ∈ lw_g := lw_m1 (List.mem_of_getElem? (i := 133) rfl) rfl
theorem kt_yX1_canStand : Cond.static yX1_canStand ∈ lw_g := lw_m1 (List.mem_of_getElem? (i := 134) rfl) rfl
theorem kc_yX1_canStand : Cond.code yX1_canStand cX1_canStand 3 (some .boolean) ∈ lw_g := lw_m1 (List.mem_of_getElem? (i := 135) rfl) rfl
theorem kl_RX1_256 : Cond.methodLink RX1 256 yX1_kindOf ∈ lw_g := lw_m1 (List.mem_of_getElem? (i := 136) rfl) rfl
theorem kt_yX1_kindOf : Cond.static yX1_kindOf ∈ lw_g := lw_m1 (List.mem_of_getElem? (i := 137) rfl) rfl
theorem kc_yX1_kindOf : Cond.code yX1_kindOf cX1_kindOf 1 (some .int) ∈ lw_g := lw_m1 (List.mem_of_getElem? (i := 138) rfl) rfl
theorem kstr : Cond.stringRef RX1 259 "rsgdql" ∈ lw_tbl := lw_n1 (List.mem_of_getElem? (i := 139) rfl)
theorem kl_RX1_261 : Cond.methodLink RX1 261 yJ0_indexOf_0f7a4 ∈ lw_g := lw_m1 (List.mem_of_getElem? (i := 140) rfl) rfl
theorem ki_yJ0_indexOf_0f7a4 : Cond.instanceMethod yJ0_indexOf_0f7a4 ∈ lw_g := lw_m1 (List.mem_of_getElem? (i := 141) rfl) rfl
theorem ks_yJ0_indexOf_0f7a4 : Cond.selects RJ0 yJ0_indexOf_0f7a4 yJ0_indexOf_0f7a4 ∈ lw_g := lw_m1 (List.mem_of_getElem? (i := 142) rfl) rfl
theorem kc_yJ0_indexOf_0f7a4 : Cond.code yJ0_indexOf_0f7a4 cJ0_indexOf_0f7a4 2 (some .int) ∈ lw_g := lw_m1 (List.mem_of_getElem? (i := 143) rfl) rfl
theorem kl_RJ0_633 : Cond.methodLink RJ0 633 yJ0_indexOf_7cf53 ∈ lw_g := lw_m1 (List.mem_of_getElem? (i := 144) rfl) rfl
theorem ki_yJ0_indexOf_7cf53 : Cond.instanceMethod yJ0_indexOf_7cf53 ∈ lw_g := lw_m1 (List.mem_of_getElem? (i := 145) rfl) rfl
theorem ks_yJ0_indexOf_7cf53 : Cond.selects RJ0 yJ0_indexOf_7cf53 yJ0_indexOf_7cf53 ∈ lw_g := lw_m1 (List.mem_of_getElem? (i := 146) rfl) rfl
theorem kc_yJ0_indexOf_7cf53 : Cond.code yJ0_indexOf_7cf53 cJ0_indexOf_7cf53 3 (some .int) ∈ lw_g := lw_m1 (List.mem_of_getElem? (i := 147) rfl) rfl
theorem kl_RJ0_492 : Cond.methodLink RJ0 492 yJ0_isLatin1_aae02 ∈ lw_g := lw_m1 (List.mem_of_getElem? (i := 148) rfl) rfl
theorem ki_yJ0_isLatin1_aae02 : Cond.instanceMethod yJ0_isLatin1_aae02 ∈ lw_g := lw_m1 (List.mem_of_getElem? (i := 149) rfl) rfl
theorem ks_yJ0_isLatin1_aae02 : Cond.selects RJ0 yJ0_isLatin1_aae02 yJ0_isLatin1_aae02 ∈ lw_g := lw_m1 (List.mem_of_getElem? (i := 150) rfl) rfl
theorem kc_yJ0_isLatin1_aae02 : Cond.code yJ0_isLatin1_aae02 cJ0_isLatin1_aae02 1 (some .boolean) ∈ lw_g := lw_m1 (List.mem_of_getElem? (i := 151) rfl) rfl
theorem kf_RJ0_38 : Cond.fieldLink RJ0 38 "java/lang/String" "COMPACT_STRINGS" "Z" ∈ lw_g := lw_m1 (List.mem_of_getElem? (i := 152) rfl) rfl
theorem kls_RJ0_COMPACT_STRINGS : Cond.laysStatic RJ0 "COMPACT_STRINGS" "Z" ∈ lw_tbl := lw_n1 (List.mem_of_getElem? (i := 153) rfl)
theorem kl_RJ0_505 : Cond.methodLink RJ0 505 yJ0_length_8abf5 ∈ lw_g := lw_m1 (List.mem_of_getElem? (i := 154) rfl) rfl
theorem ki_yJ0_length_8abf5 : Cond.instanceMethod yJ0_length_8abf5 ∈ lw_g := lw_m1 (List.mem_of_getElem? (i := 155) rfl) rfl
theorem ks_yJ0_length_8abf5 : Cond.selects RJ0 yJ0_length_8abf5 yJ0_length_8abf5 ∈ lw_g := lw_m1 (List.mem_of_getElem? (i := 156) rfl) rfl
theorem kc_yJ0_length_8abf5 : Cond.code yJ0_length_8abf5 cJ0_length_8abf5 1 (some .int) ∈ lw_g := lw_m1 (List.mem_of_getElem? (i := 157) rfl) rfl
theorem kl_RJ0_335 : Cond.methodLink RJ0 335 yJ0_coder_7d493 ∈ lw_g := lw_m1 (List.mem_of_getElem? (i := 158) rfl) rfl
theorem ki_yJ0_coder_7d493 : Cond.instanceMethod yJ0_coder_7d493 ∈ lw_g := lw_m1 (List.mem_of_getElem? (i := 159) rfl) rfl
theorem ks_yJ0_coder_7d493 : Cond.selects RJ0 yJ0_coder_7d493 yJ0_coder_7d493 ∈ lw_g := lw_m1 (List.mem_of_getElem? (i := 160) rfl) rfl
theorem kc_yJ0_coder_7d493 : Cond.code yJ0_coder_7d493 cJ0_coder_7d493 1 (some .byte) ∈ lw_g := lw_m1 (List.mem_of_getElem? (i := 161) rfl) rfl
theorem kl_RJ0_637 : Cond.methodLink RJ0 637 yJ1_indexOf_4cfef ∈ lw_g := lw_m1 (List.mem_of_getElem? (i := 162) rfl) rfl
theorem kt_yJ1_indexOf_4cfef : Cond.static yJ1_indexOf_4cfef ∈ lw_g := lw_m1 (List.mem_of_getElem? (i := 163) rfl) rfl
theorem kc_yJ1_indexOf_4cfef : Cond.code yJ1_indexOf_4cfef cJ1_indexOf_4cfef 4 (some .int) ∈ lw_g := lw_m1 (List.mem_of_getElem? (i := 164) rfl) rfl
theorem kl_RJ1_88 : Cond.methodLink RJ1 88 yJ1_canEncode_9a6ad ∈ lw_g := lw_m1 (List.mem_of_getElem? (i := 165) rfl) rfl
theorem kt_yJ1_canEncode_9a6ad : Cond.static yJ1_canEncode_9a6ad ∈ lw_g := lw_m1 (List.mem_of_getElem? (i := 166) rfl) rfl
theorem kc_yJ1_canEncode_9a6ad : Cond.code yJ1_canEncode_9a6ad cJ1_canEncode_9a6ad 1 (some .boolean) ∈ lw_g := lw_m1 (List.mem_of_getElem? (i := 167) rfl) rfl
theorem kl_RJ1_92 : Cond.methodLink RJ1 92 yJ9_max_7cf53 ∈ lw_g := lw_m1 (List.mem_of_getElem? (i := 168) rfl) rfl
theorem kt_yJ9_max_7cf53 : Cond.static yJ9_max_7cf53 ∈ lw_g := lw_m1 (List.mem_of_getElem? (i := 169) rfl) rfl
theorem kc_yJ9_max_7cf53 : Cond.code yJ9_max_7cf53 cJ9_max_7cf53 2 (some .int) ∈ lw_g := lw_m1 (List.mem_of_getElem? (i := 170) rfl) rfl
theorem kl_RJ1_38 : Cond.methodLink RJ1 38 yJ9_min_7cf53 ∈ lw_g := lw_m1 (List.mem_of_getElem? (i := 171) rfl) rfl
theorem kt_yJ9_min_7cf53 : Cond.static yJ9_min_7cf53 ∈ lw_g := lw_m1 (List.mem_of_getElem? (i := 172) rfl) rfl
theorem kc_yJ9_min_7cf53 : Cond.code yJ9_min_7cf53 cJ9_min_7cf53 2 (some .int) ∈ lw_g := lw_m1 (List.mem_of_getElem? (i := 173) rfl) rfl
theorem kl_RJ1_95 : Cond.methodLink RJ1 95 yJ1_indexOfChar_4cfef ∈ lw_g := lw_m1 (List.mem_of_getElem? (i := 174) rfl) rfl
theorem kt_yJ1_indexOfChar_4cfef : Cond.static yJ1_indexOfChar_4cfef ∈ lw_g := lw_m1 (List.mem_of_getElem? (i := 175) rfl) rfl
theorem kc_yJ1_indexOfChar_4cfef : Cond.code yJ1_indexOfChar_4cfef cJ1_indexOfChar_4cfef 6 (some .int) ∈ lw_g := lw_m1 (List.mem_of_getElem? (i := 176) rfl) rfl
theorem kl_RJ0_640 : Cond.methodLink RJ0 640 yJ2_indexOf_4cfef ∈ lw_g := lw_m1 (List.mem_of_getElem? (i := 177) rfl) rfl
theorem kt_yJ2_indexOf_4cfef : Cond.static yJ2_indexOf_4cfef ∈ lw_g := lw_m1 (List.mem_of_getElem? (i := 178) rfl) rfl
theorem kc_yJ2_indexOf_4cfef : Cond.code yJ2_indexOf_4cfef cJ2_indexOf_4cfef 4 (some .int) ∈ lw_g := lw_m1 (List.mem_of_getElem? (i := 179) rfl) rfl
theorem kl_RJ2_224 : Cond.methodLink RJ2 224 yJ9_max_7cf53 ∈ lw_g := lw_m1 (List.mem_of_getElem? (i := 180) rfl) rfl
theorem kl_RJ2_183 : Cond.methodLink RJ2 183 yJ9_min_7cf53 ∈ lw_g := lw_m1 (List.mem_of_getElem? (i := 181) rfl) rfl
theorem kk_RJ2_227 : Cond.constant RJ2 227 (65536) ∈ lw_g := lw_m1 (List.mem_of_getElem? (i := 182) rfl) rfl
theorem kl_RJ2_228 : Cond.methodLink RJ2 228 yJ2_indexOfChar_4cfef ∈ lw_g := lw_m1 (List.mem_of_getElem? (i := 183) rfl) rfl
theorem kt_yJ2_indexOfChar_4cfef : Cond.static yJ2_indexOfChar_4cfef ∈ lw_g := lw_m1 (List.mem_of_getElem? (i := 184) rfl) rfl
theorem kc_yJ2_indexOfChar_4cfef : Cond.code yJ2_indexOfChar_4cfef cJ2_indexOfChar_4cfef 4 (some .int) ∈ lw_g := lw_m1 (List.mem_of_getElem? (i := 185) rfl) rfl
theorem kl_RJ2_96 : Cond.methodLink RJ2 96 yJ2_checkBoundsBeginEnd_d044e ∈ lw_g := lw_m1 (List.mem_of_getElem? (i := 186) rfl) rfl
theorem kt_yJ2_checkBoundsBeginEnd_d044e : Cond.static yJ2_checkBoundsBeginEnd_d044e ∈ lw_g := lw_m1 (List.mem_of_getElem? (i := 187) rfl) rfl
theorem kc_yJ2_checkBoundsBeginEnd_d044e : Cond.code yJ2_checkBoundsBeginEnd_d044e cJ2_checkBoundsBeginEnd_d044e 3 none ∈ lw_g := lw_m1 (List.mem_of_getElem? (i := 188) rfl) rfl
theorem kl_RJ2_48 : Cond.methodLink RJ2 48 yJ2_length_9d52b ∈ lw_g := lw_m1 (List.mem_of_getElem? (i := 189) rfl) rfl
theorem kt_yJ2_length_9d52b : Cond.static yJ2_length_9d52b ∈ lw_g := lw_m1 (List.mem_of_getElem? (i := 190) rfl) rfl
theorem kc_yJ2_length_9d52b : Cond.code yJ2_length_9d52b cJ2_length_9d52b 1 (some .int) ∈ lw_g := lw_m1 (List.mem_of_getElem? (i := 191) rfl) rfl
theorem kl_RJ2_241 : Cond.methodLink RJ2 241 yJ0_checkBoundsBeginEnd_23922 ∈ lw_g := lw_m1 (List.mem_of_getElem? (i := 192) rfl) rfl
theorem kt_yJ0_checkBoundsBeginEnd_23922 : Cond.static yJ0_checkBoundsBeginEnd_23922 ∈ lw_g := lw_m1 (List.mem_of_getElem? (i := 193) rfl) rfl
theorem kc_yJ0_checkBoundsBeginEnd_23922 : Cond.code yJ0_checkBoundsBeginEnd_23922 cJ0_checkBoundsBeginEnd_23922 3 none ∈ lw_g := lw_m1 (List.mem_of_getElem? (i := 194) rfl) rfl
theorem kf_RJ0_1053 : Cond.fieldLink RJ0 1053 "jdk/internal/util/Preconditions" "SIOOBE_FORMATTER" "Ljava/util/function/BiFunction;" ∈ lw_g := lw_m1 (List.mem_of_getElem? (i := 195) rfl) rfl
theorem kls_RJ3_SIOOBE_FORMATTER : Cond.laysStatic RJ3 "SIOOBE_FORMATTER" "Ljava/util/function/BiFunction;" ∈ lw_tbl := lw_n1 (List.mem_of_getElem? (i := 196) rfl)
theorem kl_RJ0_1062 : Cond.methodLink RJ0 1062 yJ3_checkFromToIndex_8c36e ∈ lw_g := lw_m1 (List.mem_of_getElem? (i := 197) rfl) rfl
theorem kt_yJ3_checkFromToIndex_8c36e : Cond.static yJ3_checkFromToIndex_8c36e ∈ lw_g := lw_m1 (List.mem_of_getElem? (i := 198) rfl) rfl
theorem kc_yJ3_checkFromToIndex_8c36e : Cond.code yJ3_checkFromToIndex_8c36e cJ3_checkFromToIndex_8c36e 4 (some .int) ∈ lw_g := lw_m1 (List.mem_of_getElem? (i := 199) rfl) rfl
theorem kl_RJ2_244 : Cond.methodLink RJ2 244 yJ2_indexOfCharUnsafe_4cfef ∈ lw_g := lw_m1 (List.mem_of_getElem? (i := 200) rfl) rfl
theorem kt_yJ2_indexOfCharUnsafe_4cfef : Cond.static yJ2_indexOfCharUnsafe_4cfef ∈ lw_g := lw_m1 (List.mem_of_getElem? (i := 201) rfl) rfl
theorem kc_yJ2_indexOfCharUnsafe_4cfef : Cond.code yJ2_indexOfCharUnsafe_4cfef cJ2_indexOfCharUnsafe_4cfef 5 (some .int) ∈ lw_g := lw_m1 (List.mem_of_getElem? (i := 202) rfl) rfl
theorem kl_RJ2_71 : Cond.methodLink RJ2 71 yJ2_getChar_3b067 ∈ lw_g := lw_m1 (List.mem_of_getElem? (i := 203) rfl) rfl
theorem kt_yJ2_getChar_3b067 : Cond.static yJ2_getChar_3b067 ∈ lw_g := lw_m1 (List.mem_of_getElem? (i := 204) rfl) rfl
theorem kc_yJ2_getChar_3b067 : Cond.code yJ2_getChar_3b067 cJ2_getChar_3b067 2 (some .char) ∈ lw_g := lw_m1 (List.mem_of_getElem? (i := 205) rfl) rfl
theorem kf_RJ2_44 : Cond.fieldLink RJ2 44 "java/lang/StringUTF16" "$assertionsDisabled" "Z" ∈ lw_g := lw_m1 (List.mem_of_getElem? (i := 206) rfl) rfl
theorem kls_RJ2__assertionsDisabled : Cond.laysStatic RJ2 "$assertionsDisabled" "Z" ∈ lw_tbl := lw_n1 (List.mem_of_getElem? (i := 207) rfl)
theorem kf_RJ2_59 : Cond.fieldLink RJ2 59 "java/lang/StringUTF16" "HI_BYTE_SHIFT" "I" ∈ lw_g := lw_m1 (List.mem_of_getElem? (i := 208) rfl) rfl
theorem kls_RJ2_HI_BYTE_SHIFT : Cond.laysStatic RJ2 "HI_BYTE_SHIFT" "I" ∈ lw_tbl := lw_n1 (List.mem_of_getElem? (i := 209) rfl)
theorem kf_RJ2_63 : Cond.fieldLink RJ2 63 "java/lang/StringUTF16" "LO_BYTE_SHIFT" "I" ∈ lw_g := lw_m1 (List.mem_of_getElem? (i := 210) rfl) rfl
theorem kls_RJ2_LO_BYTE_SHIFT : Cond.laysStatic RJ2 "LO_BYTE_SHIFT" "I" ∈ lw_tbl := lw_n1 (List.mem_of_getElem? (i := 211) rfl)
theorem kl_RJ2_232 : Cond.methodLink RJ2 232 yJ2_indexOfSupplementary_4cfef ∈ lw_g := lw_m1 (List.mem_of_getElem? (i := 212) rfl) rfl
theorem kt_yJ2_indexOfSupplementary_4cfef : Cond.static yJ2_indexOfSupplementary_4cfef ∈ lw_g := lw_m1 (List.mem_of_getElem? (i := 213) rfl) rfl
theorem kc_yJ2_indexOfSupplementary_4cfef : Cond.code yJ2_indexOfSupplementary_4cfef cJ2_indexOfSupplementary_4cfef 7 (some .int) ∈ lw_g := lw_m1 (List.mem_of_getElem? (i := 214) rfl) rfl
theorem kl_RJ2_164 : Cond.methodLink RJ2 164 yJ11_isValidCodePoint_9a6ad ∈ lw_g := lw_m1 (List.mem_of_getElem? (i := 215) rfl) rfl
theorem kt_yJ11_isValidCodePoint_9a6ad : Cond.static yJ11_isValidCodePoint_9a6ad ∈ lw_g := lw_m1 (List.mem_of_getElem? (i := 216) rfl) rfl
theorem kc_yJ11_isValidCodePoint_9a6ad : Cond.code yJ11_isValidCodePoint_9a6ad cJ11_isValidCodePoint_9a6ad 2 (some .boolean) ∈ lw_g := lw_m1 (List.mem_of_getElem? (i := 217) rfl) rfl
theorem kl_RJ2_157 : Cond.methodLink RJ2 157 yJ11_highSurrogate_5068e ∈ lw_g := lw_m1 (List.mem_of_getElem? (i := 218) rfl) rfl
theorem kt_yJ11_highSurrogate_5068e : Cond.static yJ11_highSurrogate_5068e ∈ lw_g := lw_m1 (List.mem_of_getElem? (i := 219) rfl) rfl
theorem kc_yJ11_highSurrogate_5068e : Cond.code yJ11_highSurrogate_5068e cJ11_highSurrogate_5068e 1 (some .char) ∈ lw_g := lw_m1 (List.mem_of_getElem? (i := 220) rfl) rfl
theorem kk_RJ11_110 : Cond.constant RJ11 110 (55232) ∈ lw_g := lw_m1 (List.mem_of_getElem? (i := 221) rfl) rfl
theorem kl_RJ2_161 : Cond.methodLink RJ2 161 yJ11_lowSurrogate_5068e ∈ lw_g := lw_m1 (List.mem_of_getElem? (i := 222) rfl) rfl
theorem kt_yJ11_lowSurrogate_5068e : Cond.static yJ11_lowSurrogate_5068e ∈ lw_g := lw_m1 (List.mem_of_getElem? (i := 223) rfl) rfl
theorem kc_yJ11_lowSurrogate_5068e : Cond.code yJ11_lowSurrogate_5068e cJ11_lowSurrogate_5068e 1 (some .char) ∈ lw_g := lw_m1 (List.mem_of_getElem? (i := 224) rfl) rfl
theorem kk_RJ11_76 : Cond.constant RJ11 76 (56320) ∈ lw_g := lw_m1 (List.mem_of_getElem? (i := 225) rfl) rfl
theorem kl_RX1_59 : Cond.methodLink RX1 59 yX0_copyFrom ∈ lw_g := lw_m1 (List.mem_of_getElem? (i := 226) rfl) rfl
theorem ki_yX0_copyFrom : Cond.instanceMethod yX0_copyFrom ∈ lw_g := lw_m1 (List.mem_of_getElem? (i := 227) rfl) rfl
theorem ks_yX0_copyFrom : Cond.selects RX0 yX0_copyFrom yX0_copyFrom ∈ lw_g := lw_m1 (List.mem_of_getElem? (i := 228) rfl) rfl
theorem kc_yX0_copyFrom : Cond.code yX0_copyFrom cX0_copyFrom 2 none ∈ lw_g := lw_m1 (List.mem_of_getElem? (i := 229) rfl) rfl
theorem kl_RX0_49 : Cond.methodLink RX0 49 ({ cls := "java/lang/System", name := "arraycopy", desc := "(Ljava/lang/Object;ILjava/lang/Object;II)V" } : MethodName) ∈ lw_g := lw_m1 (List.mem_of_getElem? (i := 230) rfl) rfl
theorem kt_arraycopy : Cond.static arraycopyName ∈ lw_g := lw_m1 (List.mem_of_getElem? (i := 231) rfl) rfl
theorem kv_arraycopy : Cond.native arraycopyName ∈ lw_g := lw_m1 (List.mem_of_getElem? (i := 232) rfl) rfl
theorem kl_RX1_63 : Cond.methodLink RX1 63 yX1_comesToMind ∈ lw_g := lw_m1 (List.mem_of_getElem? (i := 233) rfl) rfl
theorem ki_yX1_comesToMind : Cond.instanceMethod yX1_comesToMind ∈ lw_g := lw_m1 (List.mem_of_getElem? (i := 235) rfl) rfl
theorem kc_yX1_comesToMind : Cond.code yX1_comesToMind cX1_comesToMind 2 (some .boolean) ∈ lw_g := lw_m1 (List.mem_of_getElem? (i := 236) rfl) rfl
theorem kl_RX1_266 : Cond.methodLink RX1 266 yX1_rocketComes ∈ lw_g := lw_m1 (List.mem_of_getElem? (i := 237) rfl) rfl
theorem ki_yX1_rocketComes : Cond.instanceMethod yX1_rocketComes ∈ lw_g := lw_m1 (List.mem_of_getElem? (i := 239) rfl) rfl
theorem kc_yX1_rocketComes : Cond.code yX1_rocketComes cX1_rocketComes 2 (some .boolean) ∈ lw_g := lw_m2 (List.mem_of_getElem? (i := 0) rfl) rfl
theorem kl_RX1_269 : Cond.methodLink RX1 269 yX1_numberAt ∈ lw_g := lw_m2 (List.mem_of_getElem? (i := 1) rfl) rfl
theorem ki_yX1_numberAt : Cond.instanceMethod yX1_numberAt ∈ lw_g := lw_m2 (List.mem_of_getElem? (i := 3) rfl) rfl
theorem kc_yX1_numberAt : Cond.code yX1_numberAt cX1_numberAt 5 (some .int) ∈ lw_g := lw_m2 (List.mem_of_getElem? (i := 4) rfl) rfl
theorem kl_RX1_285 : Cond.methodLink RX1 285 yX0_addRocket ∈ lw_g := lw_m2 (List.mem_of_getElem? (i := 5) rfl) rfl
theorem ki_yX0_addRocket : Cond.instanceMethod yX0_addRocket ∈ lw_g := lw_m2 (List.mem_of_getElem? (i := 6) rfl) rfl
theorem ks_yX0_addRocket : Cond.selects RX0 yX0_addRocket yX0_addRocket ∈ lw_g := lw_m2 (List.mem_of_getElem? (i := 7) rfl) rfl
theorem kc_yX0_addRocket : Cond.code yX0_addRocket cX0_addRocket 5 (some .boolean) ∈ lw_g := lw_m2 (List.mem_of_getElem? (i := 8) rfl) rfl
theorem kl_RX1_272 : Cond.methodLink RX1 272 yX0_addReader ∈ lw_g := lw_m2 (List.mem_of_getElem? (i := 9) rfl) rfl
theorem ki_yX0_addReader : Cond.instanceMethod yX0_addReader ∈ lw_g := lw_m2 (List.mem_of_getElem? (i := 10) rfl) rfl
theorem ks_yX0_addReader : Cond.selects RX0 yX0_addReader yX0_addReader ∈ lw_g := lw_m2 (List.mem_of_getElem? (i := 11) rfl) rfl
theorem kc_yX0_addReader : Cond.code yX0_addReader cX0_addReader 3 (some .boolean) ∈ lw_g := lw_m2 (List.mem_of_getElem? (i := 12) rfl) rfl
theorem kl_RX1_276 : Cond.methodLink RX1 276 yX1_rocketGoesUp ∈ lw_g := lw_m2 (List.mem_of_getElem? (i := 13) rfl) rfl
theorem ki_yX1_rocketGoesUp : Cond.instanceMethod yX1_rocketGoesUp ∈ lw_g := lw_m2 (List.mem_of_getElem? (i := 15) rfl) rfl
theorem kc_yX1_rocketGoesUp : Cond.code yX1_rocketGoesUp cX1_rocketGoesUp 2 (some .boolean) ∈ lw_g := lw_m2 (List.mem_of_getElem? (i := 16) rfl) rfl
theorem kl_RX1_115 : Cond.methodLink RX1 115 yX0_canSend ∈ lw_g := lw_m2 (List.mem_of_getElem? (i := 17) rfl) rfl
theorem ki_yX0_canSend : Cond.instanceMethod yX0_canSend ∈ lw_g := lw_m2 (List.mem_of_getElem? (i := 18) rfl) rfl
theorem ks_yX0_canSend : Cond.selects RX0 yX0_canSend yX0_canSend ∈ lw_g := lw_m2 (List.mem_of_getElem? (i := 19) rfl) rfl
theorem kc_yX0_canSend : Cond.code yX0_canSend cX0_canSend 2 (some .boolean) ∈ lw_g := lw_m2 (List.mem_of_getElem? (i := 20) rfl) rfl
theorem kl_RX0_65 : Cond.methodLink RX0 65 yX0_hasRocket ∈ lw_g := lw_m2 (List.mem_of_getElem? (i := 21) rfl) rfl
theorem ki_yX0_hasRocket : Cond.instanceMethod yX0_hasRocket ∈ lw_g := lw_m2 (List.mem_of_getElem? (i := 22) rfl) rfl
theorem ks_yX0_hasRocket : Cond.selects RX0 yX0_hasRocket yX0_hasRocket ∈ lw_g := lw_m2 (List.mem_of_getElem? (i := 23) rfl) rfl
theorem kc_yX0_hasRocket : Cond.code yX0_hasRocket cX0_hasRocket 2 (some .boolean) ∈ lw_g := lw_m2 (List.mem_of_getElem? (i := 24) rfl) rfl
theorem kl_RX0_69 : Cond.methodLink RX0 69 yX0_isSent ∈ lw_g := lw_m2 (List.mem_of_getElem? (i := 25) rfl) rfl
theorem ki_yX0_isSent : Cond.instanceMethod yX0_isSent ∈ lw_g := lw_m2 (List.mem_of_getElem? (i := 26) rfl) rfl
theorem ks_yX0_isSent : Cond.selects RX0 yX0_isSent yX0_isSent ∈ lw_g := lw_m2 (List.mem_of_getElem? (i := 27) rfl) rfl
theorem kc_yX0_isSent : Cond.code yX0_isSent cX0_isSent 2 (some .boolean) ∈ lw_g := lw_m2 (List.mem_of_getElem? (i := 28) rfl) rfl
theorem kl_RX0_72 : Cond.methodLink RX0 72 yX0_costOf ∈ lw_g := lw_m2 (List.mem_of_getElem? (i := 29) rfl) rfl
theorem ki_yX0_costOf : Cond.instanceMethod yX0_costOf ∈ lw_g := lw_m2 (List.mem_of_getElem? (i := 30) rfl) rfl
theorem ks_yX0_costOf : Cond.selects RX0 yX0_costOf yX0_costOf ∈ lw_g := lw_m2 (List.mem_of_getElem? (i := 31) rfl) rfl
theorem kc_yX0_costOf : Cond.code yX0_costOf cX0_costOf 2 (some .int) ∈ lw_g := lw_m2 (List.mem_of_getElem? (i := 32) rfl) rfl
theorem kf_RX0_55 : Cond.fieldLinkNest RX0 55 "RocketsAsk" "COSTS" "[I" "RocketsAsk" ∈ lw_tbl := lw_n2 (List.mem_of_getElem? (i := 33) rfl)
theorem kls_RX1_COSTS : Cond.laysStatic RX1 "COSTS" "[I" ∈ lw_tbl := lw_n2 (List.mem_of_getElem? (i := 34) rfl)
theorem kl_RX1_118 : Cond.methodLink RX1 118 yX0_sendUp ∈ lw_g := lw_m2 (List.mem_of_getElem? (i := 35) rfl) rfl
theorem ki_yX0_sendUp : Cond.instanceMethod yX0_sendUp ∈ lw_g := lw_m2 (List.mem_of_getElem? (i := 36) rfl) rfl
theorem ks_yX0_sendUp : Cond.selects RX0 yX0_sendUp yX0_sendUp ∈ lw_g := lw_m2 (List.mem_of_getElem? (i := 37) rfl) rfl
theorem kc_yX0_sendUp : Cond.code yX0_sendUp cX0_sendUp 7 none ∈ lw_g := lw_m2 (List.mem_of_getElem? (i := 38) rfl) rfl
theorem kl_RX0_75 : Cond.methodLink RX0 75 yX0_throwAway ∈ lw_g := lw_m2 (List.mem_of_getElem? (i := 39) rfl) rfl
theorem ki_yX0_throwAway : Cond.instanceMethod yX0_throwAway ∈ lw_g := lw_m2 (List.mem_of_getElem? (i := 40) rfl) rfl
theorem ks_yX0_throwAway : Cond.selects RX0 yX0_throwAway yX0_throwAway ∈ lw_g := lw_m2 (List.mem_of_getElem? (i := 41) rfl) rfl
theorem kc_yX0_throwAway : Cond.code yX0_throwAway cX0_throwAway 2 none ∈ lw_g := lw_m2 (List.mem_of_getElem? (i := 42) rfl) rfl
theorem kl_RX0_79 : Cond.methodLink RX0 79 yX0_readersOf ∈ lw_g := lw_m2 (List.mem_of_getElem? (i := 43) rfl) rfl
theorem ki_yX0_readersOf : Cond.instanceMethod yX0_readersOf ∈ lw_g := lw_m2 (List.mem_of_getElem? (i := 44) rfl) rfl
theorem ks_yX0_readersOf : Cond.selects RX0 yX0_readersOf yX0_readersOf ∈ lw_g := lw_m2 (List.mem_of_getElem? (i := 45) rfl) rfl
theorem kc_yX0_readersOf : Cond.code yX0_readersOf cX0_readersOf 7 (some .int) ∈ lw_g := lw_m2 (List.mem_of_getElem? (i := 46) rfl) rfl
theorem kl_RX0_58 : Cond.methodLink RX0 58 yX0_burstOf ∈ lw_g := lw_m2 (List.mem_of_getElem? (i := 47) rfl) rfl
theorem ki_yX0_burstOf : Cond.instanceMethod yX0_burstOf ∈ lw_g := lw_m2 (List.mem_of_getElem? (i := 48) rfl) rfl
theorem ks_yX0_burstOf : Cond.selects RX0 yX0_burstOf yX0_burstOf ∈ lw_g := lw_m2 (List.mem_of_getElem? (i := 49) rfl) rfl
theorem kc_yX0_burstOf : Cond.code yX0_burstOf cX0_burstOf 5 (some .int) ∈ lw_g := lw_m2 (List.mem_of_getElem? (i := 50) rfl) rfl
theorem kl_RX0_62 : Cond.methodLink RX0 62 yX0_reachOf ∈ lw_g := lw_m2 (List.mem_of_getElem? (i := 51) rfl) rfl
theorem ki_yX0_reachOf : Cond.instanceMethod yX0_reachOf ∈ lw_g := lw_m2 (List.mem_of_getElem? (i := 52) rfl) rfl
theorem ks_yX0_reachOf : Cond.selects RX0 yX0_reachOf yX0_reachOf ∈ lw_g := lw_m2 (List.mem_of_getElem? (i := 53) rfl) rfl
theorem kc_yX0_reachOf : Cond.code yX0_reachOf cX0_reachOf 3 (some .int) ∈ lw_g := lw_m2 (List.mem_of_getElem? (i := 54) rfl) rfl
theorem kl_RX1_279 : Cond.methodLink RX1 279 yX1_rocketGoesBack ∈ lw_g := lw_m2 (List.mem_of_getElem? (i := 55) rfl) rfl
theorem ki_yX1_rocketGoesBack : Cond.instanceMethod yX1_rocketGoesBack ∈ lw_g := lw_m2 (List.mem_of_getElem? (i := 57) rfl) rfl
theorem kc_yX1_rocketGoesBack : Cond.code yX1_rocketGoesBack cX1_rocketGoesBack 2 (some .boolean) ∈ lw_g := lw_m2 (List.mem_of_getElem? (i := 58) rfl) rfl
theorem kl_RX1_70 : Cond.methodLink RX1 70 yX0_hasRocket ∈ lw_g := lw_m2 (List.mem_of_getElem? (i := 59) rfl) rfl
theorem kl_RX1_82 : Cond.methodLink RX1 82 yX0_isSent ∈ lw_g := lw_m2 (List.mem_of_getElem? (i := 60) rfl) rfl
theorem kl_RX1_125 : Cond.methodLink RX1 125 yX0_putBack ∈ lw_g := lw_m2 (List.mem_of_getElem? (i := 61) rfl) rfl
theorem ki_yX0_putBack : Cond.instanceMethod yX0_putBack ∈ lw_g := lw_m2 (List.mem_of_getElem? (i := 62) rfl) rfl
theorem ks_yX0_putBack : Cond.selects RX0 yX0_putBack yX0_putBack ∈ lw_g := lw_m2 (List.mem_of_getElem? (i := 63) rfl) rfl
theorem kc_yX0_putBack : Cond.code yX0_putBack cX0_putBack 2 none ∈ lw_g := lw_m2 (List.mem_of_getElem? (i := 64) rfl) rfl
theorem kl_RX1_282 : Cond.methodLink RX1 282 yX1_nightsGoBy ∈ lw_g := lw_m2 (List.mem_of_getElem? (i := 65) rfl) rfl
theorem ki_yX1_nightsGoBy : Cond.instanceMethod yX1_nightsGoBy ∈ lw_g := lw_m2 (List.mem_of_getElem? (i := 67) rfl) rfl
theorem kc_yX1_nightsGoBy : Cond.code yX1_nightsGoBy cX1_nightsGoBy 2 (some .boolean) ∈ lw_g := lw_m2 (List.mem_of_getElem? (i := 68) rfl) rfl
theorem kl_RX1_150 : Cond.methodLink RX1 150 yX0_passNights ∈ lw_g := lw_m2 (List.mem_of_getElem? (i := 69) rfl) rfl
theorem ki_yX0_passNights : Cond.instanceMethod yX0_passNights ∈ lw_g := lw_m2 (List.mem_of_getElem? (i := 70) rfl) rfl
theorem ks_yX0_passNights : Cond.selects RX0 yX0_passNights yX0_passNights ∈ lw_g := lw_m2 (List.mem_of_getElem? (i := 71) rfl) rfl
theorem kc_yX0_passNights : Cond.code yX0_passNights cX0_passNights 5 none ∈ lw_g := lw_m2 (List.mem_of_getElem? (i := 72) rfl) rfl
theorem kl_RX0_85 : Cond.methodLink RX0 85 yX0_forget ∈ lw_g := lw_m2 (List.mem_of_getElem? (i := 73) rfl) rfl
theorem ki_yX0_forget : Cond.instanceMethod yX0_forget ∈ lw_g := lw_m2 (List.mem_of_getElem? (i := 74) rfl) rfl
theorem ks_yX0_forget : Cond.selects RX0 yX0_forget yX0_forget ∈ lw_g := lw_m2 (List.mem_of_getElem? (i := 75) rfl) rfl
theorem kc_yX0_forget : Cond.code yX0_forget cX0_forget 2 none ∈ lw_g := lw_m2 (List.mem_of_getElem? (i := 76) rfl) rfl
theorem kl_RX0_88 : Cond.methodLink RX0 88 yX0_upNext ∈ lw_g := lw_m2 (List.mem_of_getElem? (i := 77) rfl) rfl
theorem ki_yX0_upNext : Cond.instanceMethod yX0_upNext ∈ lw_g := lw_m2 (List.mem_of_getElem? (i := 78) rfl) rfl
theorem ks_yX0_upNext : Cond.selects RX0 yX0_upNext yX0_upNext ∈ lw_g := lw_m2 (List.mem_of_getElem? (i := 79) rfl) rfl
theorem kc_yX0_upNext : Cond.code yX0_upNext cX0_upNext 2 (some .int) ∈ lw_g := lw_m2 (List.mem_of_getElem? (i := 80) rfl) rfl
theorem kl_RX0_82 : Cond.methodLink RX0 82 yX0_canSend ∈ lw_g := lw_m2 (List.mem_of_getElem? (i := 81) rfl) rfl
theorem kl_RX0_92 : Cond.methodLink RX0 92 yX0_sendUp ∈ lw_g := lw_m2 (List.mem_of_getElem? (i := 82) rfl) rfl
theorem ka_byte : Cond.arrayClass .byte ∈ lw_g := lw_m2 (List.mem_of_getElem? (i := 83) rfl) rfl
theorem kl_RL_23 : Cond.methodLink RL 23 yX1_rocket ∈ lw_g := lw_m2 (List.mem_of_getElem? (i := 84) rfl) rfl
theorem ki_yX1_rocket : Cond.instanceMethod yX1_rocket ∈ lw_g := lw_m2 (List.mem_of_getElem? (i := 85) rfl) rfl
theorem ks_yX1_rocket : Cond.selects RX1 yX1_rocket yX1_rocket ∈ lw_g := lw_m2 (List.mem_of_getElem? (i := 86) rfl) rfl
theorem kc_yX1_rocket : Cond.code yX1_rocket cX1_rocket 3 (some .int) ∈ lw_g := lw_m2 (List.mem_of_getElem? (i := 87) rfl) rfl
theorem kl_RX1_85 : Cond.methodLink RX1 85 yX0_costOf ∈ lw_g := lw_m2 (List.mem_of_getElem? (i := 88) rfl) rfl
theorem kl_RX1_88 : Cond.methodLink RX1 88 yX0_reachOf ∈ lw_g := lw_m2 (List.mem_of_getElem? (i := 89) rfl) rfl
theorem kl_RX1_91 : Cond.methodLink RX1 91 yX0_darkOf ∈ lw_g := lw_m2 (List.mem_of_getElem? (i := 90) rfl) rfl
theorem ki_yX0_darkOf : Cond.instanceMethod yX0_darkOf ∈ lw_g := lw_m2 (List.mem_of_getElem? (i := 91) rfl) rfl
theorem ks_yX0_darkOf : Cond.selects RX0 yX0_darkOf yX0_darkOf ∈ lw_g := lw_m2 (List.mem_of_getElem? (i := 92) rfl) rfl
theorem kc_yX0_darkOf : Cond.code yX0_darkOf cX0_darkOf 3 (some .int) ∈ lw_g := lw_m2 (List.mem_of_getElem? (i := 93) rfl) rfl
theorem kl_RX1_94 : Cond.methodLink RX1 94 yX0_burstOf ∈ lw_g := lw_m2 (List.mem_of_getElem? (i := 94) rfl) rfl
theorem kl_RX1_97 : Cond.methodLink RX1 97 yX0_readersOf ∈ lw_g := lw_m2 (List.mem_of_getElem? (i := 95) rfl) rfl
theorem kl_RL_28 : Cond.methodLink RL 28 yX1_reader ∈ lw_g := lw_m2 (List.mem_of_getElem? (i := 96) rfl) rfl
theorem ki_yX1_reader : Cond.instanceMethod yX1_reader ∈ lw_g := lw_m2 (List.mem_of_getElem? (i := 97) rfl) rfl
theorem ks_yX1_reader : Cond.selects RX1 yX1_reader yX1_reader ∈ lw_g := lw_m2 (List.mem_of_getElem? (i := 98) rfl) rfl
theorem kc_yX1_reader : Cond.code yX1_reader cX1_reader 3 (some .int) ∈ lw_g := lw_m2 (List.mem_of_getElem? (i := 99) rfl) rfl
theorem kl_RX1_100 : Cond.methodLink RX1 100 yX0_hasReader ∈ lw_g := lw_m2 (List.mem_of_getElem? (i := 100) rfl) rfl
theorem ki_yX0_hasReader : Cond.instanceMethod yX0_hasReader ∈ lw_g := lw_m2 (List.mem_of_getElem? (i := 101) rfl) rfl
theorem ks_yX0_hasReader : Cond.selects RX0 yX0_hasReader yX0_hasReader ∈ lw_g := lw_m2 (List.mem_of_getElem? (i := 102) rfl) rfl
theorem kc_yX0_hasReader : Cond.code yX0_hasReader cX0_hasReader 2 (some .boolean) ∈ lw_g := lw_m2 (List.mem_of_getElem? (i := 103) rfl) rfl
theorem kl_RX1_109 : Cond.methodLink RX1 109 yX0_wordsOf ∈ lw_g := lw_m2 (List.mem_of_getElem? (i := 104) rfl) rfl
theorem ki_yX0_wordsOf : Cond.instanceMethod yX0_wordsOf ∈ lw_g := lw_m2 (List.mem_of_getElem? (i := 105) rfl) rfl
theorem ks_yX0_wordsOf : Cond.selects RX0 yX0_wordsOf yX0_wordsOf ∈ lw_g := lw_m2 (List.mem_of_getElem? (i := 106) rfl) rfl
theorem kc_yX0_wordsOf : Cond.code yX0_wordsOf cX0_wordsOf 4 (some .int) ∈ lw_g := lw_m2 (List.mem_of_getElem? (i := 107) rfl) rfl
theorem kl_RL_32 : Cond.methodLink RL 32 yX1_keeps ∈ lw_g := lw_m2 (List.mem_of_getElem? (i := 108) rfl) rfl
theorem ki_yX1_keeps : Cond.instanceMethod yX1_keeps ∈ lw_g := lw_m2 (List.mem_of_getElem? (i := 109) rfl) rfl
theorem ks_yX1_keeps : Cond.selects RX1 yX1_keeps yX1_keeps ∈ lw_g := lw_m2 (List.mem_of_getElem? (i := 110) rfl) rfl
theorem kc_yX1_keeps : Cond.code yX1_keeps cX1_keeps 3 (some .int) ∈ lw_g := lw_m2 (List.mem_of_getElem? (i := 111) rfl) rfl
theorem kl_RL_36 : Cond.methodLink RL 36 yX1_sends ∈ lw_g := lw_m2 (List.mem_of_getElem? (i := 112) rfl) rfl
theorem ki_yX1_sends : Cond.instanceMethod yX1_sends ∈ lw_g := lw_m2 (List.mem_of_getElem? (i := 113) rfl) rfl
theorem ks_yX1_sends : Cond.selects RX1 yX1_sends yX1_sends ∈ lw_g := lw_m2 (List.mem_of_getElem? (i := 114) rfl) rfl
theorem kc_yX1_sends : Cond.code yX1_sends cX1_sends 2 (some .int) ∈ lw_g := lw_m2 (List.mem_of_getElem? (i := 115) rfl) rfl
theorem kl_RL_40 : Cond.methodLink RL 40 yX1_boxes ∈ lw_g := lw_m2 (List.mem_of_getElem? (i := 116) rfl) rfl
theorem ki_yX1_boxes : Cond.instanceMethod yX1_boxes ∈ lw_g := lw_m2 (List.mem_of_getElem? (i := 117) rfl) rfl
theorem ks_yX1_boxes : Cond.selects RX1 yX1_boxes yX1_boxes ∈ lw_g := lw_m2 (List.mem_of_getElem? (i := 118) rfl) rfl
theorem kc_yX1_boxes : Cond.code yX1_boxes cX1_boxes 2 (some .int) ∈ lw_g := lw_m2 (List.mem_of_getElem? (i := 119) rfl) rfl
theorem kl_RX1_135 : Cond.methodLink RX1 135 yJ6_bitCount_0f7a4 ∈ lw_g := lw_m2 (List.mem_of_getElem? (i := 120) rfl) rfl
theorem kt_yJ6_bitCount_0f7a4 : Cond.static yJ6_bitCount_0f7a4 ∈ lw_g := lw_m2 (List.mem_of_getElem? (i := 121) rfl) rfl
theorem kc_yJ6_bitCount_0f7a4 : Cond.code yJ6_bitCount_0f7a4 cJ6_bitCount_0f7a4 1 (some .int) ∈ lw_g := lw_m2 (List.mem_of_getElem? (i := 122) rfl) rfl
theorem kk_RJ6_265 : Cond.constant RJ6 265 (1431655765) ∈ lw_g := lw_m2 (List.mem_of_getElem? (i := 123) rfl) rfl
theorem kk_RJ6_266 : Cond.constant RJ6 266 (858993459) ∈ lw_g := lw_m2 (List.mem_of_getElem? (i := 124) rfl) rfl
theorem kk_RJ6_267 : Cond.constant RJ6 267 (252645135) ∈ lw_g := lw_m2 (List.mem_of_getElem? (i := 125) rfl) rfl
theorem kl_RL_44 : Cond.methodLink RL 44 yX1_wind ∈ lw_g := lw_m2 (List.mem_of_getElem? (i := 126) rfl) rfl
theorem ki_yX1_wind : Cond.instanceMethod yX1_wind ∈ lw_g := lw_m2 (List.mem_of_getElem? (i := 127) rfl) rfl
theorem ks_yX1_wind : Cond.selects RX1 yX1_wind yX1_wind ∈ lw_g := lw_m2 (List.mem_of_getElem? (i := 128) rfl) rfl
theorem kc_yX1_wind : Cond.code yX1_wind cX1_wind 4 (some .int) ∈ lw_g := lw_m2 (List.mem_of_getElem? (i := 129) rfl) rfl
theorem kl_RX1_140 : Cond.methodLink RX1 140 yX1_outside ∈ lw_g := lw_m2 (List.mem_of_getElem? (i := 130) rfl) rfl
theorem kt_yX1_outside : Cond.static yX1_outside ∈ lw_g := lw_m2 (List.mem_of_getElem? (i := 131) rfl) rfl
theorem kc_yX1_outside : Cond.code yX1_outside cX1_outside 3 (some .int) ∈ lw_g := lw_m2 (List.mem_of_getElem? (i := 132) rfl) rfl
theorem kl_RL_48 : Cond.methodLink RL 48 yX1_grant ∈ lw_g := lw_m2 (List.mem_of_getElem? (i := 133) rfl) rfl
theorem ki_yX1_grant : Cond.instanceMethod yX1_grant ∈ lw_g := lw_m2 (List.mem_of_getElem? (i := 134) rfl) rfl
theorem ks_yX1_grant : Cond.selects RX1 yX1_grant yX1_grant ∈ lw_g := lw_m2 (List.mem_of_getElem? (i := 135) rfl) rfl
theorem kc_yX1_grant : Cond.code yX1_grant cX1_grant 4 (some .int) ∈ lw_g := lw_m2 (List.mem_of_getElem? (i := 136) rfl) rfl
theorem kl_RL_52 : Cond.methodLink RL 52 yX1_stands ∈ lw_g := lw_m2 (List.mem_of_getElem? (i := 137) rfl) rfl
theorem ki_yX1_stands : Cond.instanceMethod yX1_stands ∈ lw_g := lw_m2 (List.mem_of_getElem? (i := 138) rfl) rfl
theorem ks_yX1_stands : Cond.selects RX1 yX1_stands yX1_stands ∈ lw_g := lw_m2 (List.mem_of_getElem? (i := 139) rfl) rfl
theorem kc_yX1_stands : Cond.code yX1_stands cX1_stands 4 (some .int) ∈ lw_g := lw_m2 (List.mem_of_getElem? (i := 140) rfl) rfl
theorem kl_RL_56 : Cond.methodLink RL 56 yX1_turn ∈ lw_g := lw_m2 (List.mem_of_getElem? (i := 141) rfl) rfl
theorem ki_yX1_turn : Cond.instanceMethod yX1_turn ∈ lw_g := lw_m2 (List.mem_of_getElem? (i := 142) rfl) rfl
theorem ks_yX1_turn : Cond.selects RX1 yX1_turn yX1_turn ∈ lw_g := lw_m2 (List.mem_of_getElem? (i := 143) rfl) rfl
theorem kc_yX1_turn : Cond.code yX1_turn cX1_turn 6 (some .int) ∈ lw_g := lw_m2 (List.mem_of_getElem? (i := 144) rfl) rfl
theorem kl_RL_61 : Cond.methodLink RL 61 yX1_nights ∈ lw_g := lw_m2 (List.mem_of_getElem? (i := 145) rfl) rfl
theorem ki_yX1_nights : Cond.instanceMethod yX1_nights ∈ lw_g := lw_m2 (List.mem_of_getElem? (i := 146) rfl) rfl
theorem ks_yX1_nights : Cond.selects RX1 yX1_nights yX1_nights ∈ lw_g := lw_m2 (List.mem_of_getElem? (i := 147) rfl) rfl
theorem kc_yX1_nights : Cond.code yX1_nights cX1_nights 3 (some .int) ∈ lw_g := lw_m2 (List.mem_of_getElem? (i := 148) rfl) rfl
theorem kl_RL_65 : Cond.methodLink RL 65 yX1_wordsThen ∈ lw_g := lw_m2 (List.mem_of_getElem? (i := 149) rfl) rfl
theorem ki_yX1_wordsThen : Cond.instanceMethod yX1_wordsThen ∈ lw_g := lw_m2 (List.mem_of_getElem? (i := 150) rfl) rfl
theorem ks_yX1_wordsThen : Cond.selects RX1 yX1_wordsThen yX1_wordsThen ∈ lw_g := lw_m2 (List.mem_of_getElem? (i := 151) rfl) rfl
theorem kc_yX1_wordsThen : Cond.code yX1_wordsThen cX1_wordsThen 4 (some .int) ∈ lw_g := lw_m2 (List.mem_of_getElem? (i := 152) rfl) rfl
theorem kl_RX1_153 : Cond.methodLink RX1 153 yX1_thinkOn ∈ lw_g := lw_m2 (List.mem_of_getElem? (i := 153) rfl) rfl
theorem ki_yX1_thinkOn : Cond.instanceMethod yX1_thinkOn ∈ lw_g := lw_m2 (List.mem_of_getElem? (i := 155) rfl) rfl
theorem kc_yX1_thinkOn : Cond.code yX1_thinkOn cX1_thinkOn 2 none ∈ lw_g := lw_m2 (List.mem_of_getElem? (i := 156) rfl) rfl
theorem kl_RL_69 : Cond.methodLink RL 69 yX1_then ∈ lw_g := lw_m2 (List.mem_of_getElem? (i := 157) rfl) rfl
theorem ki_yX1_then : Cond.instanceMethod yX1_then ∈ lw_g := lw_m2 (List.mem_of_getElem? (i := 158) rfl) rfl
theorem ks_yX1_then : Cond.selects RX1 yX1_then yX1_then ∈ lw_g := lw_m2 (List.mem_of_getElem? (i := 159) rfl) rfl
theorem kc_yX1_then : Cond.code yX1_then cX1_then 4 (some .int) ∈ lw_g := lw_m2 (List.mem_of_getElem? (i := 160) rfl) rfl
theorem kl_RX1_156 : Cond.methodLink RX1 156 yX1_isOneOfTwo ∈ lw_g := lw_m2 (List.mem_of_getElem? (i := 161) rfl) rfl
theorem kt_yX1_isOneOfTwo : Cond.static yX1_isOneOfTwo ∈ lw_g := lw_m2 (List.mem_of_getElem? (i := 162) rfl) rfl
theorem kc_yX1_isOneOfTwo : Cond.code yX1_isOneOfTwo cX1_isOneOfTwo 1 (some .boolean) ∈ lw_g := lw_m2 (List.mem_of_getElem? (i := 163) rfl) rfl
theorem kl_RL_73 : Cond.methodLink RL 73 yX1_whole ∈ lw_g := lw_m2 (List.mem_of_getElem? (i := 164) rfl) rfl
theorem ki_yX1_whole : Cond.instanceMethod yX1_whole ∈ lw_g := lw_m2 (List.mem_of_getElem? (i := 165) rfl) rfl
theorem ks_yX1_whole : Cond.selects RX1 yX1_whole yX1_whole ∈ lw_g := lw_m2 (List.mem_of_getElem? (i := 166) rfl) rfl
theorem kc_yX1_whole : Cond.code yX1_whole cX1_whole 2 (some .int) ∈ lw_g := lw_m2 (List.mem_of_getElem? (i := 167) rfl) rfl
theorem kl_RX1_159 : Cond.methodLink RX1 159 yX1_firstWhole ∈ lw_g := lw_m2 (List.mem_of_getElem? (i := 168) rfl) rfl
theorem ki_yX1_firstWhole : Cond.instanceMethod yX1_firstWhole ∈ lw_g := lw_m2 (List.mem_of_getElem? (i := 170) rfl) rfl
theorem kc_yX1_firstWhole : Cond.code yX1_firstWhole cX1_firstWhole 5 (some .int) ∈ lw_g := lw_m2 (List.mem_of_getElem? (i := 171) rfl) rfl
theorem kl_RX1_163 : Cond.methodLink RX1 163 yX1_nightsUntilWhole ∈ lw_g := lw_m2 (List.mem_of_getElem? (i := 172) rfl) rfl
theorem ki_yX1_nightsUntilWhole : Cond.instanceMethod yX1_nightsUntilWhole ∈ lw_g := lw_m2 (List.mem_of_getElem? (i := 174) rfl) rfl
theorem kc_yX1_nightsUntilWhole : Cond.code yX1_nightsUntilWhole cX1_nightsUntilWhole 3 (some .int) ∈ lw_g := lw_m2 (List.mem_of_getElem? (i := 175) rfl) rfl
theorem kl_RX1_288 : Cond.methodLink RX1 288 yX0_isWhole ∈ lw_g := lw_m2 (List.mem_of_getElem? (i := 176) rfl) rfl
theorem ki_yX0_isWhole : Cond.instanceMethod yX0_isWhole ∈ lw_g := lw_m2 (List.mem_of_getElem? (i := 177) rfl) rfl
theorem ks_yX0_isWhole : Cond.selects RX0 yX0_isWhole yX0_isWhole ∈ lw_g := lw_m2 (List.mem_of_getElem? (i := 178) rfl) rfl
theorem kc_yX0_isWhole : Cond.code yX0_isWhole cX0_isWhole 2 (some .boolean) ∈ lw_g := lw_m2 (List.mem_of_getElem? (i := 179) rfl) rfl
theorem kl_RX0_96 : Cond.methodLink RX0 96 yX0_wordsOf ∈ lw_g := lw_m2 (List.mem_of_getElem? (i := 180) rfl) rfl
theorem kl_RL_77 : Cond.methodLink RL 77 yX1_next ∈ lw_g := lw_m2 (List.mem_of_getElem? (i := 181) rfl) rfl
theorem ki_yX1_next : Cond.instanceMethod yX1_next ∈ lw_g := lw_m2 (List.mem_of_getElem? (i := 182) rfl) rfl
theorem ks_yX1_next : Cond.selects RX1 yX1_next yX1_next ∈ lw_g := lw_m2 (List.mem_of_getElem? (i := 183) rfl) rfl
theorem kc_yX1_next : Cond.code yX1_next cX1_next 2 (some .int) ∈ lw_g := lw_m2 (List.mem_of_getElem? (i := 184) rfl) rfl
theorem kl_RX1_166 : Cond.methodLink RX1 166 yX0_upNext ∈ lw_g := lw_m2 (List.mem_of_getElem? (i := 185) rfl) rfl
theorem kl_RX1_169 : Cond.methodLink RX1 169 yX1_nightsUntilSpent ∈ lw_g := lw_m2 (List.mem_of_getElem? (i := 186) rfl) rfl
theorem ki_yX1_nightsUntilSpent : Cond.instanceMethod yX1_nightsUntilSpent ∈ lw_g := lw_m2 (List.mem_of_getElem? (i := 188) rfl) rfl
theorem kc_yX1_nightsUntilSpent : Cond.code yX1_nightsUntilSpent cX1_nightsUntilSpent 2 (some .int) ∈ lw_g := lw_m2 (List.mem_of_getElem? (i := 189) rfl) rfl
theorem kl_RL_81 : Cond.methodLink RL 81 yX1_fewest ∈ lw_g := lw_m2 (List.mem_of_getElem? (i := 190) rfl) rfl
theorem ki_yX1_fewest : Cond.instanceMethod yX1_fewest ∈ lw_g := lw_m2 (List.mem_of_getElem? (i := 191) rfl) rfl
theorem ks_yX1_fewest : Cond.selects RX1 yX1_fewest yX1_fewest ∈ lw_g := lw_m2 (List.mem_of_getElem? (i := 192) rfl) rfl
theorem kc_yX1_fewest : Cond.code yX1_fewest cX1_fewest 3 (some .int) ∈ lw_g := lw_m2 (List.mem_of_getElem? (i := 193) rfl) rfl
theorem kl_RX1_172 : Cond.methodLink RX1 172 yX1_noteWhatIsBrought ∈ lw_g := lw_m2 (List.mem_of_getElem? (i := 194) rfl) rfl
theorem ki_yX1_noteWhatIsBrought : Cond.instanceMethod yX1_noteWhatIsBrought ∈ lw_g := lw_m2 (List.mem_of_getElem? (i := 196) rfl) rfl
theorem kc_yX1_noteWhatIsBrought : Cond.code yX1_noteWhatIsBrought cX1_noteWhatIsBrought 4 none ∈ lw_g := lw_m2 (List.mem_of_getElem? (i := 197) rfl) rfl
theorem kl_RX1_291 : Cond.methodLink RX1 291 yJ7_fill_53178 ∈ lw_g := lw_m2 (List.mem_of_getElem? (i := 198) rfl) rfl
theorem kt_yJ7_fill_53178 : Cond.static yJ7_fill_53178 ∈ lw_g := lw_m2 (List.mem_of_getElem? (i := 199) rfl) rfl
theorem kc_yJ7_fill_53178 : Cond.code yJ7_fill_53178 cJ7_fill_53178 4 none ∈ lw_g := lw_m2 (List.mem_of_getElem? (i := 200) rfl) rfl
theorem kl_RX1_175 : Cond.methodLink RX1 175 yX1_fewestRockets ∈ lw_g := lw_m2 (List.mem_of_getElem? (i := 201) rfl) rfl
theorem ki_yX1_fewestRockets : Cond.instanceMethod yX1_fewestRockets ∈ lw_g := lw_m2 (List.mem_of_getElem? (i := 203) rfl) rfl
theorem kc_yX1_fewestRockets : Cond.code yX1_fewestRockets cX1_fewestRockets 6 (some .int) ∈ lw_g := lw_m2 (List.mem_of_getElem? (i := 204) rfl) rfl
theorem kl_RX1_297 : Cond.methodLink RX1 297 yX1_makesWhole ∈ lw_g := lw_m2 (List.mem_of_getElem? (i := 205) rfl) rfl
theorem ki_yX1_makesWhole : Cond.instanceMethod yX1_makesWhole ∈ lw_g := lw_m2 (List.mem_of_getElem? (i := 207) rfl) rfl
theorem kc_yX1_makesWhole : Cond.code yX1_makesWhole cX1_makesWhole 5 (some .boolean) ∈ lw_g := lw_m2 (List.mem_of_getElem? (i := 208) rfl) rfl
theorem kl_RX1_178 : Cond.methodLink RX1 178 yX1_leastCost ∈ lw_g := lw_m2 (List.mem_of_getElem? (i := 209) rfl) rfl
theorem ki_yX1_leastCost : Cond.instanceMethod yX1_leastCost ∈ lw_g := lw_m2 (List.mem_of_getElem? (i := 211) rfl) rfl
theorem kc_yX1_leastCost : Cond.code yX1_leastCost cX1_leastCost 5 (some .int) ∈ lw_g := lw_m2 (List.mem_of_getElem? (i := 212) rfl) rfl
theorem kl_RX1_300 : Cond.methodLink RX1 300 yX1_costOfChosen ∈ lw_g := lw_m2 (List.mem_of_getElem? (i := 213) rfl) rfl
theorem ki_yX1_costOfChosen : Cond.instanceMethod yX1_costOfChosen ∈ lw_g := lw_m2 (List.mem_of_getElem? (i := 215) rfl) rfl
theorem kc_yX1_costOfChosen : Cond.code yX1_costOfChosen cX1_costOfChosen 4 (some .int) ∈ lw_g := lw_m2 (List.mem_of_getElem? (i := 216) rfl) rfl
theorem kl_RL_85 : Cond.methodLink RL 85 yX1_windBest ∈ lw_g := lw_m2 (List.mem_of_getElem? (i := 217) rfl) rfl
theorem ki_yX1_windBest : Cond.instanceMethod yX1_windBest ∈ lw_g := lw_m2 (List.mem_of_getElem? (i := 218) rfl) rfl
theorem ks_yX1_windBest : Cond.selects RX1 yX1_windBest yX1_windBest ∈ lw_g := lw_m2 (List.mem_of_getElem? (i := 219) rfl) rfl
theorem kc_yX1_windBest : Cond.code yX1_windBest cX1_windBest 8 (some .int) ∈ lw_g := lw_m2 (List.mem_of_getElem? (i := 220) rfl) rfl
theorem kl_RX1_181 : Cond.methodLink RX1 181 yX0_countWhole ∈ lw_g := lw_m2 (List.mem_of_getElem? (i := 221) rfl) rfl
theorem ki_yX0_countWhole : Cond.instanceMethod yX0_countWhole ∈ lw_g := lw_m2 (List.mem_of_getElem? (i := 222) rfl) rfl
theorem ks_yX0_countWhole : Cond.selects RX0 yX0_countWhole yX0_countWhole ∈ lw_g := lw_m2 (List.mem_of_getElem? (i := 223) rfl) rfl
theorem kc_yX0_countWhole : Cond.code yX0_countWhole cX0_countWhole 3 (some .int) ∈ lw_g := lw_m2 (List.mem_of_getElem? (i := 224) rfl) rfl
theorem kl_RX0_99 : Cond.methodLink RX0 99 yX0_isWhole ∈ lw_g := lw_m2 (List.mem_of_getElem? (i := 225) rfl) rfl
theorem kl_RL_89 : Cond.methodLink RL 89 yX1_move ∈ lw_g := lw_m2 (List.mem_of_getElem? (i := 226) rfl) rfl
theorem ki_yX1_move : Cond.instanceMethod yX1_move ∈ lw_g := lw_m2 (List.mem_of_getElem? (i := 227) rfl) rfl
theorem ks_yX1_move : Cond.selects RX1 yX1_move yX1_move ∈ lw_g := lw_m2 (List.mem_of_getElem? (i := 228) rfl) rfl
theorem kc_yX1_move : Cond.code yX1_move cX1_move 9 (some .int) ∈ lw_g := lw_m2 (List.mem_of_getElem? (i := 229) rfl) rfl
theorem kl_RL_93 : Cond.methodLink RL 93 yX1_forgo ∈ lw_g := lw_m2 (List.mem_of_getElem? (i := 230) rfl) rfl
theorem ki_yX1_forgo : Cond.instanceMethod yX1_forgo ∈ lw_g := lw_m2 (List.mem_of_getElem? (i := 231) rfl) rfl
theorem ks_yX1_forgo : Cond.selects RX1 yX1_forgo yX1_forgo ∈ lw_g := lw_m2 (List.mem_of_getElem? (i := 232) rfl) rfl
theorem kc_yX1_forgo : Cond.code yX1_forgo cX1_forgo 3 (some .int) ∈ lw_g := lw_m2 (List.mem_of_getElem? (i := 233) rfl) rfl
theorem kl_RX1_184 : Cond.methodLink RX1 184 yX1_bestToSpend ∈ lw_g := lw_m2 (List.mem_of_getElem? (i := 234) rfl) rfl
theorem ki_yX1_bestToSpend : Cond.instanceMethod yX1_bestToSpend ∈ lw_g := lw_m2 (List.mem_of_getElem? (i := 236) rfl) rfl
theorem kc_yX1_bestToSpend : Cond.code yX1_bestToSpend cX1_bestToSpend 7 (some .int) ∈ lw_g := lw_m2 (List.mem_of_getElem? (i := 237) rfl) rfl
theorem kl_RX1_245 : Cond.methodLink RX1 245 yX0_countWords ∈ lw_g := lw_m2 (List.mem_of_getElem? (i := 238) rfl) rfl
theorem ki_yX0_countWords : Cond.instanceMethod yX0_countWords ∈ lw_g := lw_m2 (List.mem_of_getElem? (i := 239) rfl) rfl
theorem ks_yX0_countWords : Cond.selects RX0 yX0_countWords yX0_countWords ∈ lw_g := lw_m3 (List.mem_of_getElem? (i := 0) rfl) rfl
theorem kc_yX0_countWords : Cond.code yX0_countWords cX0_countWords 3 (some .int) ∈ lw_g := lw_m3 (List.mem_of_getElem? (i := 1) rfl) rfl
theorem kl_RX0_102 : Cond.methodLink RX0 102 yJ6_bitCount_0f7a4 ∈ lw_g := lw_m3 (List.mem_of_getElem? (i := 2) rfl) rfl
theorem kl_RX1_303 : Cond.methodLink RX1 303 yX1_wordsHadBySpending ∈ lw_g := lw_m3 (List.mem_of_getElem? (i := 3) rfl) rfl
theorem ki_yX1_wordsHadBySpending : Cond.instanceMethod yX1_wordsHadBySpending ∈ lw_g := lw_m3 (List.mem_of_getElem? (i := 5) rfl) rfl
theorem kc_yX1_wordsHadBySpending : Cond.code yX1_wordsHadBySpending cX1_wordsHadBySpending 4 (some .int) ∈ lw_g := lw_m3 (List.mem_of_getElem? (i := 6) rfl) rfl
theorem kl_RX1_307 : Cond.methodLink RX1 307 yX0_throwAway ∈ lw_g := lw_m3 (List.mem_of_getElem? (i := 7) rfl) rfl
theorem kl_RL_97 : Cond.methodLink RL 97 yX1_firstUp ∈ lw_g := lw_m3 (List.mem_of_getElem? (i := 8) rfl) rfl
theorem ki_yX1_firstUp : Cond.instanceMethod yX1_firstUp ∈ lw_g := lw_m3 (List.mem_of_getElem? (i := 9) rfl) rfl
theorem ks_yX1_firstUp : Cond.selects RX1 yX1_firstUp yX1_firstUp ∈ lw_g := lw_m3 (List.mem_of_getElem? (i := 10) rfl) rfl
theorem kc_yX1_firstUp : Cond.code yX1_firstUp cX1_firstUp 3 (some .int) ∈ lw_g := lw_m3 (List.mem_of_getElem? (i := 11) rfl) rfl
theorem kl_RL_101 : Cond.methodLink RL 101 yX1_longest ∈ lw_g := lw_m3 (List.mem_of_getElem? (i := 12) rfl) rfl
theorem ki_yX1_longest : Cond.instanceMethod yX1_longest ∈ lw_g := lw_m3 (List.mem_of_getElem? (i := 13) rfl) rfl
theorem ks_yX1_longest : Cond.selects RX1 yX1_longest yX1_longest ∈ lw_g := lw_m3 (List.mem_of_getElem? (i := 14) rfl) rfl
theorem kc_yX1_longest : Cond.code yX1_longest cX1_longest 2 (some .int) ∈ lw_g := lw_m3 (List.mem_of_getElem? (i := 15) rfl) rfl
theorem kl_RX1_188 : Cond.methodLink RX1 188 yX1_longestDark ∈ lw_g := lw_m3 (List.mem_of_getElem? (i := 16) rfl) rfl
theorem ki_yX1_longestDark : Cond.instanceMethod yX1_longestDark ∈ lw_g := lw_m3 (List.mem_of_getElem? (i := 18) rfl) rfl
theorem kc_yX1_longestDark : Cond.code yX1_longestDark cX1_longestDark 5 (some .int) ∈ lw_g := lw_m3 (List.mem_of_getElem? (i := 19) rfl) rfl
theorem kl_RX1_191 : Cond.methodLink RX1 191 yX1_costOfTheBox ∈ lw_g := lw_m3 (List.mem_of_getElem? (i := 20) rfl) rfl
theorem ki_yX1_costOfTheBox : Cond.instanceMethod yX1_costOfTheBox ∈ lw_g := lw_m3 (List.mem_of_getElem? (i := 22) rfl) rfl
theorem kc_yX1_costOfTheBox : Cond.code yX1_costOfTheBox cX1_costOfTheBox 1 (some .int) ∈ lw_g := lw_m3 (List.mem_of_getElem? (i := 23) rfl) rfl
theorem kl_RL_105 : Cond.methodLink RL 105 yX1_seen ∈ lw_g := lw_m3 (List.mem_of_getElem? (i := 24) rfl) rfl
theorem ki_yX1_seen : Cond.instanceMethod yX1_seen ∈ lw_g := lw_m3 (List.mem_of_getElem? (i := 25) rfl) rfl
theorem ks_yX1_seen : Cond.selects RX1 yX1_seen yX1_seen ∈ lw_g := lw_m3 (List.mem_of_getElem? (i := 26) rfl) rfl
theorem kc_yX1_seen : Cond.code yX1_seen cX1_seen 6 (some .int) ∈ lw_g := lw_m3 (List.mem_of_getElem? (i := 27) rfl) rfl
theorem kl_RL_109 : Cond.methodLink RL 109 yX1_words ∈ lw_g := lw_m3 (List.mem_of_getElem? (i := 28) rfl) rfl
theorem ki_yX1_words : Cond.instanceMethod yX1_words ∈ lw_g := lw_m3 (List.mem_of_getElem? (i := 29) rfl) rfl
theorem ks_yX1_words : Cond.selects RX1 yX1_words yX1_words ∈ lw_g := lw_m3 (List.mem_of_getElem? (i := 30) rfl) rfl
theorem kc_yX1_words : Cond.code yX1_words cX1_words 2 (some .int) ∈ lw_g := lw_m3 (List.mem_of_getElem? (i := 31) rfl) rfl
theorem kl_RX1_194 : Cond.methodLink RX1 194 yX1_lackingWords ∈ lw_g := lw_m3 (List.mem_of_getElem? (i := 32) rfl) rfl
theorem ki_yX1_lackingWords : Cond.instanceMethod yX1_lackingWords ∈ lw_g := lw_m3 (List.mem_of_getElem? (i := 34) rfl) rfl
theorem kc_yX1_lackingWords : Cond.code yX1_lackingWords cX1_lackingWords 3 (some .int) ∈ lw_g := lw_m3 (List.mem_of_getElem? (i := 35) rfl) rfl
theorem kl_RX1_197 : Cond.methodLink RX1 197 yX1_knownWords ∈ lw_g := lw_m3 (List.mem_of_getElem? (i := 36) rfl) rfl
theorem ki_yX1_knownWords : Cond.instanceMethod yX1_knownWords ∈ lw_g := lw_m3 (List.mem_of_getElem? (i := 38) rfl) rfl
theorem kc_yX1_knownWords : Cond.code yX1_knownWords cX1_knownWords 3 (some .int) ∈ lw_g := lw_m3 (List.mem_of_getElem? (i := 39) rfl) rfl
theorem kl_RX1_200 : Cond.methodLink RX1 200 yX1_rarestWord ∈ lw_g := lw_m3 (List.mem_of_getElem? (i := 40) rfl) rfl
theorem ki_yX1_rarestWord : Cond.instanceMethod yX1_rarestWord ∈ lw_g := lw_m3 (List.mem_of_getElem? (i := 42) rfl) rfl
theorem kc_yX1_rarestWord : Cond.code yX1_rarestWord cX1_rarestWord 6 (some .int) ∈ lw_g := lw_m3 (List.mem_of_getElem? (i := 43) rfl) rfl
theorem kl_RL_113 : Cond.methodLink RL 113 yX1_near ∈ lw_g := lw_m3 (List.mem_of_getElem? (i := 44) rfl) rfl
theorem ki_yX1_near : Cond.instanceMethod yX1_near ∈ lw_g := lw_m3 (List.mem_of_getElem? (i := 45) rfl) rfl
theorem ks_yX1_near : Cond.selects RX1 yX1_near yX1_near ∈ lw_g := lw_m3 (List.mem_of_getElem? (i := 46) rfl) rfl
theorem kc_yX1_near : Cond.code yX1_near cX1_near 5 (some .int) ∈ lw_g := lw_m3 (List.mem_of_getElem? (i := 47) rfl) rfl
theorem kl_RX1_206 : Cond.methodLink RX1 206 yJ9_abs_0f7a4 ∈ lw_g := lw_m3 (List.mem_of_getElem? (i := 48) rfl) rfl
theorem kt_yJ9_abs_0f7a4 : Cond.static yJ9_abs_0f7a4 ∈ lw_g := lw_m3 (List.mem_of_getElem? (i := 49) rfl) rfl
theorem kc_yJ9_abs_0f7a4 : Cond.code yJ9_abs_0f7a4 cJ9_abs_0f7a4 1 (some .int) ∈ lw_g := lw_m3 (List.mem_of_getElem? (i := 50) rfl) rfl
theorem kl_RL_117 : Cond.methodLink RL 117 yX1_alone ∈ lw_g := lw_m3 (List.mem_of_getElem? (i := 51) rfl) rfl
theorem ki_yX1_alone : Cond.instanceMethod yX1_alone ∈ lw_g := lw_m3 (List.mem_of_getElem? (i := 52) rfl) rfl
theorem ks_yX1_alone : Cond.selects RX1 yX1_alone yX1_alone ∈ lw_g := lw_m3 (List.mem_of_getElem? (i := 53) rfl) rfl
theorem kc_yX1_alone : Cond.code yX1_alone cX1_alone 5 (some .int) ∈ lw_g := lw_m3 (List.mem_of_getElem? (i := 54) rfl) rfl
theorem kl_RL_121 : Cond.methodLink RL 121 yX1_tell ∈ lw_g := lw_m3 (List.mem_of_getElem? (i := 55) rfl) rfl
theorem ki_yX1_tell : Cond.instanceMethod yX1_tell ∈ lw_g := lw_m3 (List.mem_of_getElem? (i := 56) rfl) rfl
theorem ks_yX1_tell : Cond.selects RX1 yX1_tell yX1_tell ∈ lw_g := lw_m3 (List.mem_of_getElem? (i := 57) rfl) rfl
theorem kc_yX1_tell : Cond.code yX1_tell cX1_tell 4 (some .int) ∈ lw_g := lw_m3 (List.mem_of_getElem? (i := 58) rfl) rfl
theorem kl_RL_125 : Cond.methodLink RL 125 yX1_two ∈ lw_g := lw_m3 (List.mem_of_getElem? (i := 59) rfl) rfl
theorem ki_yX1_two : Cond.instanceMethod yX1_two ∈ lw_g := lw_m3 (List.mem_of_getElem? (i := 60) rfl) rfl
theorem ks_yX1_two : Cond.selects RX1 yX1_two yX1_two ∈ lw_g := lw_m3 (List.mem_of_getElem? (i := 61) rfl) rfl
theorem kc_yX1_two : Cond.code yX1_two cX1_two 6 (some .int) ∈ lw_g := lw_m3 (List.mem_of_getElem? (i := 62) rfl) rfl
theorem kl_RX1_211 : Cond.methodLink RX1 211 yX1_noteWhatPairGets ∈ lw_g := lw_m3 (List.mem_of_getElem? (i := 63) rfl) rfl
theorem ki_yX1_noteWhatPairGets : Cond.instanceMethod yX1_noteWhatPairGets ∈ lw_g := lw_m3 (List.mem_of_getElem? (i := 65) rfl) rfl
theorem kc_yX1_noteWhatPairGets : Cond.code yX1_noteWhatPairGets cX1_noteWhatPairGets 8 none ∈ lw_g := lw_m3 (List.mem_of_getElem? (i := 66) rfl) rfl
theorem kl_RX1_310 : Cond.methodLink RX1 310 yX1_gain ∈ lw_g := lw_m3 (List.mem_of_getElem? (i := 67) rfl) rfl
theorem ki_yX1_gain : Cond.instanceMethod yX1_gain ∈ lw_g := lw_m3 (List.mem_of_getElem? (i := 69) rfl) rfl
theorem kc_yX1_gain : Cond.code yX1_gain cX1_gain 4 (some .int) ∈ lw_g := lw_m3 (List.mem_of_getElem? (i := 70) rfl) rfl
theorem kl_RL_129 : Cond.methodLink RL 129 yX1_rain ∈ lw_g := lw_m3 (List.mem_of_getElem? (i := 71) rfl) rfl
theorem ki_yX1_rain : Cond.instanceMethod yX1_rain ∈ lw_g := lw_m3 (List.mem_of_getElem? (i := 72) rfl) rfl
theorem ks_yX1_rain : Cond.selects RX1 yX1_rain yX1_rain ∈ lw_g := lw_m3 (List.mem_of_getElem? (i := 73) rfl) rfl
theorem kc_yX1_rain : Cond.code yX1_rain cX1_rain 8 (some .long) ∈ lw_g := lw_m3 (List.mem_of_getElem? (i := 74) rfl) rfl
theorem kl_RX1_215 : Cond.methodLink RX1 215 yX1_refuseLong ∈ lw_g := lw_m3 (List.mem_of_getElem? (i := 75) rfl) rfl
theorem ki_yX1_refuseLong : Cond.instanceMethod yX1_refuseLong ∈ lw_g := lw_m3 (List.mem_of_getElem? (i := 77) rfl) rfl
theorem kc_yX1_refuseLong : Cond.code yX1_refuseLong cX1_refuseLong 2 (some .long) ∈ lw_g := lw_m3 (List.mem_of_getElem? (i := 78) rfl) rfl
theorem kk_RX1_251 : Cond.constantLong RX1 251 (4000000000000000000) ∈ lw_g := lw_m3 (List.mem_of_getElem? (i := 79) rfl) rfl
theorem kl_RX1_219 : Cond.methodLink RX1 219 yX1_isWholeAfter ∈ lw_g := lw_m3 (List.mem_of_getElem? (i := 80) rfl) rfl
theorem ki_yX1_isWholeAfter : Cond.instanceMethod yX1_isWholeAfter ∈ lw_g := lw_m3 (List.mem_of_getElem? (i := 82) rfl) rfl
theorem kc_yX1_isWholeAfter : Cond.code yX1_isWholeAfter cX1_isWholeAfter 5 (some .boolean) ∈ lw_g := lw_m3 (List.mem_of_getElem? (i := 83) rfl) rfl
theorem kl_RX1_223 : Cond.methodLink RX1 223 yX1_power ∈ lw_g := lw_m3 (List.mem_of_getElem? (i := 84) rfl) rfl
theorem kt_yX1_power : Cond.static yX1_power ∈ lw_g := lw_m3 (List.mem_of_getElem? (i := 85) rfl) rfl
theorem kc_yX1_power : Cond.code yX1_power cX1_power 5 (some .long) ∈ lw_g := lw_m3 (List.mem_of_getElem? (i := 86) rfl) rfl
theorem kl_RX1_227 : Cond.methodLink RX1 227 yX1_partOf ∈ lw_g := lw_m3 (List.mem_of_getElem? (i := 87) rfl) rfl
theorem kt_yX1_partOf : Cond.static yX1_partOf ∈ lw_g := lw_m3 (List.mem_of_getElem? (i := 88) rfl) rfl
theorem kc_yX1_partOf : Cond.code yX1_partOf cX1_partOf 7 (some .long) ∈ lw_g := lw_m3 (List.mem_of_getElem? (i := 89) rfl) rfl
theorem kl_RX1_313 : Cond.methodLink RX1 313 yX1_commonDivisor ∈ lw_g := lw_m3 (List.mem_of_getElem? (i := 90) rfl) rfl
theorem kt_yX1_commonDivisor : Cond.static yX1_commonDivisor ∈ lw_g := lw_m3 (List.mem_of_getElem? (i := 91) rfl) rfl
theorem kc_yX1_commonDivisor : Cond.code yX1_commonDivisor cX1_commonDivisor 11 (some .long) ∈ lw_g := lw_m3 (List.mem_of_getElem? (i := 92) rfl) rfl
theorem kl_RL_134 : Cond.methodLink RL 134 yX1_mean ∈ lw_g := lw_m3 (List.mem_of_getElem? (i := 93) rfl) rfl
theorem ki_yX1_mean : Cond.instanceMethod yX1_mean ∈ lw_g := lw_m3 (List.mem_of_getElem? (i := 94) rfl) rfl
theorem ks_yX1_mean : Cond.selects RX1 yX1_mean yX1_mean ∈ lw_g := lw_m3 (List.mem_of_getElem? (i := 95) rfl) rfl
theorem kc_yX1_mean : Cond.code yX1_mean cX1_mean 5 (some .long) ∈ lw_g := lw_m3 (List.mem_of_getElem? (i := 96) rfl) rfl
theorem kl_RX1_231 : Cond.methodLink RX1 231 yJ9_max_7cf53 ∈ lw_g := lw_m3 (List.mem_of_getElem? (i := 97) rfl) rfl
theorem kl_RL_139 : Cond.methodLink RL 139 yX1_whatSaid ∈ lw_g := lw_m3 (List.mem_of_getElem? (i := 98) rfl) rfl
theorem ki_yX1_whatSaid : Cond.instanceMethod yX1_whatSaid ∈ lw_g := lw_m3 (List.mem_of_getElem? (i := 99) rfl) rfl
theorem ks_yX1_whatSaid : Cond.selects RX1 yX1_whatSaid yX1_whatSaid ∈ lw_g := lw_m3 (List.mem_of_getElem? (i := 100) rfl) rfl
theorem kc_yX1_whatSaid : Cond.code yX1_whatSaid cX1_whatSaid 6 (some .int) ∈ lw_g := lw_m3 (List.mem_of_getElem? (i := 101) rfl) rfl
theorem kl_RX1_235 : Cond.methodLink RX1 235 yX1_rowFitsMind ∈ lw_g := lw_m3 (List.mem_of_getElem? (i := 102) rfl) rfl
theorem ki_yX1_rowFitsMind : Cond.instanceMethod yX1_rowFitsMind ∈ lw_g := lw_m3 (List.mem_of_getElem? (i := 104) rfl) rfl
theorem kc_yX1_rowFitsMind : Cond.code yX1_rowFitsMind cX1_rowFitsMind 2 (some .boolean) ∈ lw_g := lw_m3 (List.mem_of_getElem? (i := 105) rfl) rfl
theorem kl_RL_143 : Cond.methodLink RL 143 yX1_row ∈ lw_g := lw_m3 (List.mem_of_getElem? (i := 106) rfl) rfl
theorem ki_yX1_row : Cond.instanceMethod yX1_row ∈ lw_g := lw_m3 (List.mem_of_getElem? (i := 107) rfl) rfl
theorem ks_yX1_row : Cond.selects RX1 yX1_row yX1_row ∈ lw_g := lw_m3 (List.mem_of_getElem? (i := 108) rfl) rfl
theorem kc_yX1_row : Cond.code yX1_row cX1_row 3 (some .int) ∈ lw_g := lw_m3 (List.mem_of_getElem? (i := 109) rfl) rfl
theorem kl_RL_147 : Cond.methodLink RL 147 yX1_judge ∈ lw_g := lw_m3 (List.mem_of_getElem? (i := 110) rfl) rfl
theorem ki_yX1_judge : Cond.instanceMethod yX1_judge ∈ lw_g := lw_m3 (List.mem_of_getElem? (i := 111) rfl) rfl
theorem ks_yX1_judge : Cond.selects RX1 yX1_judge yX1_judge ∈ lw_g := lw_m3 (List.mem_of_getElem? (i := 112) rfl) rfl
theorem kc_yX1_judge : Cond.code yX1_judge cX1_judge 3 (some .int) ∈ lw_g := lw_m3 (List.mem_of_getElem? (i := 113) rfl) rfl
theorem kl_RX1_239 : Cond.methodLink RX1 239 yJ9_min_7cf53 ∈ lw_g := lw_m3 (List.mem_of_getElem? (i := 114) rfl) rfl
theorem kl_RL_151 : Cond.methodLink RL 151 yX1_clear ∈ lw_g := lw_m3 (List.mem_of_getElem? (i := 115) rfl) rfl
theorem ki_yX1_clear : Cond.instanceMethod yX1_clear ∈ lw_g := lw_m3 (List.mem_of_getElem? (i := 116) rfl) rfl
theorem ks_yX1_clear : Cond.selects RX1 yX1_clear yX1_clear ∈ lw_g := lw_m3 (List.mem_of_getElem? (i := 117) rfl) rfl
theorem kc_yX1_clear : Cond.code yX1_clear cX1_clear 2 (some .int) ∈ lw_g := lw_m3 (List.mem_of_getElem? (i := 118) rfl) rfl
theorem kl_RL_155 : Cond.methodLink RL 155 yX1_lots ∈ lw_g := lw_m3 (List.mem_of_getElem? (i := 119) rfl) rfl
theorem ki_yX1_lots : Cond.instanceMethod yX1_lots ∈ lw_g := lw_m3 (List.mem_of_getElem? (i := 120) rfl) rfl
theorem ks_yX1_lots : Cond.selects RX1 yX1_lots yX1_lots ∈ lw_g := lw_m3 (List.mem_of_getElem? (i := 121) rfl) rfl
theorem kc_yX1_lots : Cond.code yX1_lots cX1_lots 9 (some .int) ∈ lw_g := lw_m3 (List.mem_of_getElem? (i := 122) rfl) rfl
theorem kk_RX1_242 : Cond.constant RX1 242 (1664525) ∈ lw_g := lw_m3 (List.mem_of_getElem? (i := 123) rfl) rfl
theorem kk_RX1_243 : Cond.constant RX1 243 (1013904223) ∈ lw_g := lw_m3 (List.mem_of_getElem? (i := 124) rfl) rfl
theorem kk_RX1_244 : Cond.constant RX1 244 (2147483647) ∈ lw_g := lw_m3 (List.mem_of_getElem? (i := 125) rfl) rfl
theorem kl_RL_159 : Cond.methodLink RL 159 yX1_image ∈ lw_g := lw_m3 (List.mem_of_getElem? (i := 126) rfl) rfl
theorem ki_yX1_image : Cond.instanceMethod yX1_image ∈ lw_g := lw_m3 (List.mem_of_getElem? (i := 127) rfl) rfl
theorem ks_yX1_image : Cond.selects RX1 yX1_image yX1_image ∈ lw_g := lw_m3 (List.mem_of_getElem? (i := 128) rfl) rfl
theorem kc_yX1_image : Cond.code yX1_image cX1_image 1 (some .int) ∈ lw_g := lw_m3 (List.mem_of_getElem? (i := 129) rfl) rfl
theorem kl_RL_163 : Cond.methodLink RL 163 yX1_on ∈ lw_g := lw_m3 (List.mem_of_getElem? (i := 130) rfl) rfl
theorem ki_yX1_on : Cond.instanceMethod yX1_on ∈ lw_g := lw_m3 (List.mem_of_getElem? (i := 131) rfl) rfl
theorem ks_yX1_on : Cond.selects RX1 yX1_on yX1_on ∈ lw_g := lw_m3 (List.mem_of_getElem? (i := 132) rfl) rfl
theorem kc_yX1_on : Cond.code yX1_on cX1_on 1 (some .int) ∈ lw_g := lw_m3 (List.mem_of_getElem? (i := 133) rfl) rfl
theorem kl_RL_167 : Cond.methodLink RL 167 yX1_count ∈ lw_g := lw_m3 (List.mem_of_getElem? (i := 134) rfl) rfl
theorem ki_yX1_count : Cond.instanceMethod yX1_count ∈ lw_g := lw_m3 (List.mem_of_getElem? (i := 135) rfl) rfl
theorem ks_yX1_count : Cond.selects RX1 yX1_count yX1_count ∈ lw_g := lw_m3 (List.mem_of_getElem? (i := 136) rfl) rfl
theorem kc_yX1_count : Cond.code yX1_count cX1_count 2 (some .int) ∈ lw_g := lw_m3 (List.mem_of_getElem? (i := 137) rfl) rfl
theorem kl_RX1_248 : Cond.methodLink RX1 248 yX1_refusalsOf ∈ lw_g := lw_m3 (List.mem_of_getElem? (i := 138) rfl) rfl
theorem ki_yX1_refusalsOf : Cond.instanceMethod yX1_refusalsOf ∈ lw_g := lw_m3 (List.mem_of_getElem? (i := 140) rfl) rfl
theorem kc_yX1_refusalsOf : Cond.code yX1_refusalsOf cX1_refusalsOf 2 (some .int) ∈ lw_g := lw_m3 (List.mem_of_getElem? (i := 141) rfl) rfl
theorem kq_RL_10 : Cond.classLink RL 10 RX2 ∈ lw_g := lw_m3 (List.mem_of_getElem? (i := 142) rfl) rfl
theorem kb_RX2 : Cond.instantiable RX2 13 ∈ lw_g := lw_m3 (List.mem_of_getElem? (i := 143) rfl) rfl
theorem kl_RL_12 : Cond.methodLink RL 12 yX2_init ∈ lw_g := lw_m3 (List.mem_of_getElem? (i := 144) rfl) rfl
theorem ki_yX2_init : Cond.instanceMethod yX2_init ∈ lw_g := lw_m3 (List.mem_of_getElem? (i := 145) rfl) rfl
theorem kc_yX2_init : Cond.code yX2_init cX2_init 1 none ∈ lw_g := lw_m3 (List.mem_of_getElem? (i := 146) rfl) rfl
theorem kl_RX2_1 : Cond.methodLink RX2 1 ({ cls := "java/lang/Object", name := "<init>", desc := "()V" } : MethodName) ∈ lw_g := lw_m3 (List.mem_of_getElem? (i := 147) rfl) rfl
theorem kf_RX2_9 : Cond.fieldLink RX2 9 "RocketsAskModel" "s" "[I" ∈ lw_g := lw_m3 (List.mem_of_getElem? (i := 148) rfl) rfl
theorem kf_RX2_13 : Cond.fieldLink RX2 13 "RocketsAskModel" "m" "[I" ∈ lw_g := lw_m3 (List.mem_of_getElem? (i := 149) rfl) rfl
theorem kf_RX2_16 : Cond.fieldLink RX2 16 "RocketsAskModel" "image" "[I" ∈ lw_g := lw_m3 (List.mem_of_getElem? (i := 150) rfl) rfl
theorem kf_RX2_19 : Cond.fieldLink RX2 19 "RocketsAskModel" "was" "[I" ∈ lw_g := lw_m3 (List.mem_of_getElem? (i := 151) rfl) rfl
theorem kf_RX2_231 : Cond.fieldLink RX2 231 "RocketsAskModel" "hasImage" "Z" ∈ lw_g := lw_m3 (List.mem_of_getElem? (i := 152) rfl) rfl
theorem kf_RX2_22 : Cond.fieldLink RX2 22 "RocketsAskModel" "letters" "[I" ∈ lw_g := lw_m3 (List.mem_of_getElem? (i := 153) rfl) rfl
theorem kf_RX2_25 : Cond.fieldLink RX2 25 "RocketsAskModel" "row" "[I" ∈ lw_g := lw_m3 (List.mem_of_getElem? (i := 154) rfl) rfl
theorem kf_RX2_28 : Cond.fieldLink RX2 28 "RocketsAskModel" "refused" "[I" ∈ lw_g := lw_m3 (List.mem_of_getElem? (i := 155) rfl) rfl
theorem kf_RX2_97 : Cond.fieldLink RX2 97 "RocketsAskModel" "letterMany" "I" ∈ lw_g := lw_m3 (List.mem_of_getElem? (i := 156) rfl) rfl
theorem kf_RX2_216 : Cond.fieldLink RX2 216 "RocketsAskModel" "rowMany" "I" ∈ lw_g := lw_m3 (List.mem_of_getElem? (i := 157) rfl) rfl
theorem kf_RX2_101 : Cond.fieldLink RX2 101 "RocketsAskModel" "place" "I" ∈ lw_g := lw_m3 (List.mem_of_getElem? (i := 158) rfl) rfl
theorem kf_RX2_31 : Cond.fieldLink RX2 31 "RocketsAskModel" "numbers" "[I" ∈ lw_g := lw_m3 (List.mem_of_getElem? (i := 159) rfl) rfl
theorem kf_RX2_222 : Cond.fieldLink RX2 222 "RocketsAskModel" "seed" "I" ∈ lw_g := lw_m3 (List.mem_of_getElem? (i := 160) rfl) rfl
theorem kl_RL_17 : Cond.methodLink RL 17 yX2_letter ∈ lw_g := lw_m3 (List.mem_of_getElem? (i := 188) rfl) rfl
theorem ki_yX2_letter : Cond.instanceMethod yX2_letter ∈ lw_g := lw_m3 (List.mem_of_getElem? (i := 189) rfl) rfl
theorem ks_yX2_letter : Cond.selects RX2 yX2_letter yX2_letter ∈ lw_g := lw_m3 (List.mem_of_getElem? (i := 190) rfl) rfl
theorem kc_yX2_letter : Cond.code yX2_letter cX2_letter 2 (some .int) ∈ lw_g := lw_m3 (List.mem_of_getElem? (i := 191) rfl) rfl
theorem kl_RX2_36 : Cond.methodLink RX2 36 yX2_no ∈ lw_g := lw_m3 (List.mem_of_getElem? (i := 192) rfl) rfl
theorem ki_yX2_no : Cond.instanceMethod yX2_no ∈ lw_g := lw_m3 (List.mem_of_getElem? (i := 194) rfl) rfl
theorem kc_yX2_no : Cond.code yX2_no cX2_no 2 (some .int) ∈ lw_g := lw_m3 (List.mem_of_getElem? (i := 195) rfl) rfl
theorem kl_RL_22 : Cond.methodLink RL 22 yX2_valley ∈ lw_g := lw_m3 (List.mem_of_getElem? (i := 196) rfl) rfl
theorem ki_yX2_valley : Cond.instanceMethod yX2_valley ∈ lw_g := lw_m3 (List.mem_of_getElem? (i := 197) rfl) rfl
theorem ks_yX2_valley : Cond.selects RX2 yX2_valley yX2_valley ∈ lw_g := lw_m3 (List.mem_of_getElem? (i := 198) rfl) rfl
theorem kc_yX2_valley : Cond.code yX2_valley cX2_valley 6 (some .int) ∈ lw_g := lw_m3 (List.mem_of_getElem? (i := 199) rfl) rfl
theorem kl_RX2_131 : Cond.methodLink RX2 131 yX2_readsStatement ∈ lw_g := lw_m3 (List.mem_of_getElem? (i := 200) rfl) rfl
theorem ki_yX2_readsStatement : Cond.instanceMethod yX2_readsStatement ∈ lw_g := lw_m3 (List.mem_of_getElem? (i := 202) rfl) rfl
theorem kc_yX2_readsStatement : Cond.code yX2_readsStatement cX2_readsStatement 3 (some .boolean) ∈ lw_g := lw_m3 (List.mem_of_getElem? (i := 203) rfl) rfl
theorem kl_RX2_104 : Cond.methodLink RX2 104 yX2_here ∈ lw_g := lw_m3 (List.mem_of_getElem? (i := 204) rfl) rfl
theorem ki_yX2_here : Cond.instanceMethod yX2_here ∈ lw_g := lw_m3 (List.mem_of_getElem? (i := 206) rfl) rfl
theorem kc_yX2_here : Cond.code yX2_here cX2_here 1 (some .int) ∈ lw_g := lw_m3 (List.mem_of_getElem? (i := 207) rfl) rfl
theorem kl_RX2_111 : Cond.methodLink RX2 111 yX2_readsKind ∈ lw_g := lw_m3 (List.mem_of_getElem? (i := 208) rfl) rfl
theorem ki_yX2_readsKind : Cond.instanceMethod yX2_readsKind ∈ lw_g := lw_m3 (List.mem_of_getElem? (i := 210) rfl) rfl
theorem kc_yX2_readsKind : Cond.code yX2_readsKind cX2_readsKind 1 (some .boolean) ∈ lw_g := lw_m3 (List.mem_of_getElem? (i := 211) rfl) rfl
theorem kl_RX2_108 : Cond.methodLink RX2 108 yX2_kindBy ∈ lw_g := lw_m3 (List.mem_of_getElem? (i := 212) rfl) rfl
theorem kt_yX2_kindBy : Cond.static yX2_kindBy ∈ lw_g := lw_m3 (List.mem_of_getElem? (i := 213) rfl) rfl
theorem kc_yX2_kindBy : Cond.code yX2_kindBy cX2_kindBy 1 (some .int) ∈ lw_g := lw_m3 (List.mem_of_getElem? (i := 214) rfl) rfl
theorem kl_RX2_115 : Cond.methodLink RX2 115 yX2_readsNumber ∈ lw_g := lw_m3 (List.mem_of_getElem? (i := 215) rfl) rfl
theorem ki_yX2_readsNumber : Cond.instanceMethod yX2_readsNumber ∈ lw_g := lw_m3 (List.mem_of_getElem? (i := 217) rfl) rfl
theorem kc_yX2_readsNumber : Cond.code yX2_readsNumber cX2_readsNumber 4 (some .boolean) ∈ lw_g := lw_m3 (List.mem_of_getElem? (i := 218) rfl) rfl
theorem kl_RX2_40 : Cond.methodLink RX2 40 yX2_isIn ∈ lw_g := lw_m3 (List.mem_of_getElem? (i := 219) rfl) rfl
theorem kt_yX2_isIn : Cond.static yX2_isIn ∈ lw_g := lw_m3 (List.mem_of_getElem? (i := 220) rfl) rfl
theorem kc_yX2_isIn : Cond.code yX2_isIn cX2_isIn 3 (some .boolean) ∈ lw_g := lw_m3 (List.mem_of_getElem? (i := 221) rfl) rfl
theorem kl_RX2_134 : Cond.methodLink RX2 134 yX2_copies ∈ lw_g := lw_m3 (List.mem_of_getElem? (i := 222) rfl) rfl
theorem kt_yX2_copies : Cond.static yX2_copies ∈ lw_g := lw_m3 (List.mem_of_getElem? (i := 223) rfl) rfl
theorem kc_yX2_copies : Cond.code yX2_copies cX2_copies 3 none ∈ lw_g := lw_m3 (List.mem_of_getElem? (i := 224) rfl) rfl
theorem kl_RX2_138 : Cond.methodLink RX2 138 yX2_isDone ∈ lw_g := lw_m3 (List.mem_of_getElem? (i := 225) rfl) rfl
theorem ki_yX2_isDone : Cond.instanceMethod yX2_isDone ∈ lw_g := lw_m3 (List.mem_of_getElem? (i := 227) rfl) rfl
theorem kc_yX2_isDone : Cond.code yX2_isDone cX2_isDone 3 (some .boolean) ∈ lw_g := lw_m3 (List.mem_of_getElem? (i := 228) rfl) rfl
theorem kl_RX2_118 : Cond.methodLink RX2 118 yX2_addsRocket ∈ lw_g := lw_m3 (List.mem_of_getElem? (i := 229) rfl) rfl
theorem ki_yX2_addsRocket : Cond.instanceMethod yX2_addsRocket ∈ lw_g := lw_m3 (List.mem_of_getElem? (i := 231) rfl) rfl
theorem kc_yX2_addsRocket : Cond.code yX2_addsRocket cX2_addsRocket 2 (some .boolean) ∈ lw_g := lw_m3 (List.mem_of_getElem? (i := 232) rfl) rfl
theorem kl_RX2_44 : Cond.methodLink RX2 44 yX2_ofR ∈ lw_g := lw_m3 (List.mem_of_getElem? (i := 233) rfl) rfl
theorem kt_yX2_ofR : Cond.static yX2_ofR ∈ lw_g := lw_m3 (List.mem_of_getElem? (i := 234) rfl) rfl
theorem kc_yX2_ofR : Cond.code yX2_ofR cX2_ofR 2 (some .int) ∈ lw_g := lw_m3 (List.mem_of_getElem? (i := 235) rfl) rfl
theorem kl_RX2_121 : Cond.methodLink RX2 121 yX2_addsReader ∈ lw_g := lw_m3 (List.mem_of_getElem? (i := 236) rfl) rfl
theorem ki_yX2_addsReader : Cond.instanceMethod yX2_addsReader ∈ lw_g := lw_m3 (List.mem_of_getElem? (i := 238) rfl) rfl
theorem kc_yX2_addsReader : Cond.code yX2_addsReader cX2_addsReader 2 (some .boolean) ∈ lw_g := lw_m3 (List.mem_of_getElem? (i := 239) rfl) rfl
theorem kl_RX2_48 : Cond.methodLink RX2 48 yX2_ofP ∈ lw_g := lw_m4 (List.mem_of_getElem? (i := 0) rfl) rfl
theorem kt_yX2_ofP : Cond.static yX2_ofP ∈ lw_g := lw_m4 (List.mem_of_getElem? (i := 1) rfl) rfl
theorem kc_yX2_ofP : Cond.code yX2_ofP cX2_ofP 2 (some .int) ∈ lw_g := lw_m4 (List.mem_of_getElem? (i := 2) rfl) rfl
theorem kl_RX2_124 : Cond.methodLink RX2 124 yX2_isRocket ∈ lw_g := lw_m4 (List.mem_of_getElem? (i := 3) rfl) rfl
theorem ki_yX2_isRocket : Cond.instanceMethod yX2_isRocket ∈ lw_g := lw_m4 (List.mem_of_getElem? (i := 5) rfl) rfl
theorem kc_yX2_isRocket : Cond.code yX2_isRocket cX2_isRocket 2 (some .boolean) ∈ lw_g := lw_m4 (List.mem_of_getElem? (i := 6) rfl) rfl
theorem kl_RX2_76 : Cond.methodLink RX2 76 yX2_canGo ∈ lw_g := lw_m4 (List.mem_of_getElem? (i := 7) rfl) rfl
theorem kt_yX2_canGo : Cond.static yX2_canGo ∈ lw_g := lw_m4 (List.mem_of_getElem? (i := 8) rfl) rfl
theorem kc_yX2_canGo : Cond.code yX2_canGo cX2_canGo 2 (some .boolean) ∈ lw_g := lw_m4 (List.mem_of_getElem? (i := 9) rfl) rfl
theorem kl_RX2_69 : Cond.methodLink RX2 69 yX2_costBy ∈ lw_g := lw_m4 (List.mem_of_getElem? (i := 10) rfl) rfl
theorem kt_yX2_costBy : Cond.static yX2_costBy ∈ lw_g := lw_m4 (List.mem_of_getElem? (i := 11) rfl) rfl
theorem kc_yX2_costBy : Cond.code yX2_costBy cX2_costBy 1 (some .int) ∈ lw_g := lw_m4 (List.mem_of_getElem? (i := 12) rfl) rfl
theorem kl_RX2_84 : Cond.methodLink RX2 84 yX2_sendsIn ∈ lw_g := lw_m4 (List.mem_of_getElem? (i := 13) rfl) rfl
theorem kt_yX2_sendsIn : Cond.static yX2_sendsIn ∈ lw_g := lw_m4 (List.mem_of_getElem? (i := 14) rfl) rfl
theorem kc_yX2_sendsIn : Cond.code yX2_sendsIn cX2_sendsIn 3 none ∈ lw_g := lw_m4 (List.mem_of_getElem? (i := 15) rfl) rfl
theorem kl_RX2_72 : Cond.methodLink RX2 72 yX2_bursts ∈ lw_g := lw_m4 (List.mem_of_getElem? (i := 16) rfl) rfl
theorem kt_yX2_bursts : Cond.static yX2_bursts ∈ lw_g := lw_m4 (List.mem_of_getElem? (i := 17) rfl) rfl
theorem kc_yX2_bursts : Cond.code yX2_bursts cX2_bursts 6 none ∈ lw_g := lw_m4 (List.mem_of_getElem? (i := 18) rfl) rfl
theorem kl_RX2_65 : Cond.methodLink RX2 65 yX2_has ∈ lw_g := lw_m4 (List.mem_of_getElem? (i := 19) rfl) rfl
theorem kt_yX2_has : Cond.static yX2_has ∈ lw_g := lw_m4 (List.mem_of_getElem? (i := 20) rfl) rfl
theorem kc_yX2_has : Cond.code yX2_has cX2_has 2 (some .boolean) ∈ lw_g := lw_m4 (List.mem_of_getElem? (i := 21) rfl) rfl
theorem kl_RX2_61 : Cond.methodLink RX2 61 yX2_isRead ∈ lw_g := lw_m4 (List.mem_of_getElem? (i := 22) rfl) rfl
theorem kt_yX2_isRead : Cond.static yX2_isRead ∈ lw_g := lw_m4 (List.mem_of_getElem? (i := 23) rfl) rfl
theorem kc_yX2_isRead : Cond.code yX2_isRead cX2_isRead 3 (some .boolean) ∈ lw_g := lw_m4 (List.mem_of_getElem? (i := 24) rfl) rfl
theorem kl_RX2_51 : Cond.methodLink RX2 51 yX2_burstsAt ∈ lw_g := lw_m4 (List.mem_of_getElem? (i := 25) rfl) rfl
theorem kt_yX2_burstsAt : Cond.static yX2_burstsAt ∈ lw_g := lw_m4 (List.mem_of_getElem? (i := 26) rfl) rfl
theorem kc_yX2_burstsAt : Cond.code yX2_burstsAt cX2_burstsAt 4 (some .int) ∈ lw_g := lw_m4 (List.mem_of_getElem? (i := 27) rfl) rfl
theorem kl_RX2_55 : Cond.methodLink RX2 55 yX2_apart ∈ lw_g := lw_m4 (List.mem_of_getElem? (i := 28) rfl) rfl
theorem kt_yX2_apart : Cond.static yX2_apart ∈ lw_g := lw_m4 (List.mem_of_getElem? (i := 29) rfl) rfl
theorem kc_yX2_apart : Cond.code yX2_apart cX2_apart 2 (some .int) ∈ lw_g := lw_m4 (List.mem_of_getElem? (i := 30) rfl) rfl
theorem kl_RX2_58 : Cond.methodLink RX2 58 yX2_reachBy ∈ lw_g := lw_m4 (List.mem_of_getElem? (i := 31) rfl) rfl
theorem kt_yX2_reachBy : Cond.static yX2_reachBy ∈ lw_g := lw_m4 (List.mem_of_getElem? (i := 32) rfl) rfl
theorem kc_yX2_reachBy : Cond.code yX2_reachBy cX2_reachBy 3 (some .int) ∈ lw_g := lw_m4 (List.mem_of_getElem? (i := 33) rfl) rfl
theorem kl_RX2_128 : Cond.methodLink RX2 128 yX2_nightsOn ∈ lw_g := lw_m4 (List.mem_of_getElem? (i := 34) rfl) rfl
theorem kt_yX2_nightsOn : Cond.static yX2_nightsOn ∈ lw_g := lw_m4 (List.mem_of_getElem? (i := 35) rfl) rfl
theorem kc_yX2_nightsOn : Cond.code yX2_nightsOn cX2_nightsOn 4 none ∈ lw_g := lw_m4 (List.mem_of_getElem? (i := 36) rfl) rfl
theorem kl_RX2_87 : Cond.methodLink RX2 87 yX2_night ∈ lw_g := lw_m4 (List.mem_of_getElem? (i := 37) rfl) rfl
theorem kt_yX2_night : Cond.static yX2_night ∈ lw_g := lw_m4 (List.mem_of_getElem? (i := 38) rfl) rfl
theorem kc_yX2_night : Cond.code yX2_night cX2_night 5 none ∈ lw_g := lw_m4 (List.mem_of_getElem? (i := 39) rfl) rfl
theorem kl_RX2_80 : Cond.methodLink RX2 80 yX2_nextOf ∈ lw_g := lw_m4 (List.mem_of_getElem? (i := 40) rfl) rfl
theorem kt_yX2_nextOf : Cond.static yX2_nextOf ∈ lw_g := lw_m4 (List.mem_of_getElem? (i := 41) rfl) rfl
theorem kc_yX2_nextOf : Cond.code yX2_nextOf cX2_nextOf 2 (some .int) ∈ lw_g := lw_m4 (List.mem_of_getElem? (i := 42) rfl) rfl
theorem kl_RL_27 : Cond.methodLink RL 27 yX2_rocket ∈ lw_g := lw_m4 (List.mem_of_getElem? (i := 43) rfl) rfl
theorem ki_yX2_rocket : Cond.instanceMethod yX2_rocket ∈ lw_g := lw_m4 (List.mem_of_getElem? (i := 44) rfl) rfl
theorem ks_yX2_rocket : Cond.selects RX2 yX2_rocket yX2_rocket ∈ lw_g := lw_m4 (List.mem_of_getElem? (i := 45) rfl) rfl
theorem kc_yX2_rocket : Cond.code yX2_rocket cX2_rocket 5 (some .int) ∈ lw_g := lw_m4 (List.mem_of_getElem? (i := 46) rfl) rfl
theorem kl_RX2_141 : Cond.methodLink RX2 141 yX2_darkBy ∈ lw_g := lw_m4 (List.mem_of_getElem? (i := 47) rfl) rfl
theorem kt_yX2_darkBy : Cond.static yX2_darkBy ∈ lw_g := lw_m4 (List.mem_of_getElem? (i := 48) rfl) rfl
theorem kc_yX2_darkBy : Cond.code yX2_darkBy cX2_darkBy 2 (some .int) ∈ lw_g := lw_m4 (List.mem_of_getElem? (i := 49) rfl) rfl
theorem kl_RX2_144 : Cond.methodLink RX2 144 yX2_readers ∈ lw_g := lw_m4 (List.mem_of_getElem? (i := 50) rfl) rfl
theorem kt_yX2_readers : Cond.static yX2_readers ∈ lw_g := lw_m4 (List.mem_of_getElem? (i := 51) rfl) rfl
theorem kc_yX2_readers : Cond.code yX2_readers cX2_readers 4 (some .int) ∈ lw_g := lw_m4 (List.mem_of_getElem? (i := 52) rfl) rfl
theorem kl_RL_31 : Cond.methodLink RL 31 yX2_reader ∈ lw_g := lw_m4 (List.mem_of_getElem? (i := 53) rfl) rfl
theorem ki_yX2_reader : Cond.instanceMethod yX2_reader ∈ lw_g := lw_m4 (List.mem_of_getElem? (i := 54) rfl) rfl
theorem ks_yX2_reader : Cond.selects RX2 yX2_reader yX2_reader ∈ lw_g := lw_m4 (List.mem_of_getElem? (i := 55) rfl) rfl
theorem kc_yX2_reader : Cond.code yX2_reader cX2_reader 3 (some .int) ∈ lw_g := lw_m4 (List.mem_of_getElem? (i := 56) rfl) rfl
theorem kl_RX2_147 : Cond.methodLink RX2 147 yX2_isReader ∈ lw_g := lw_m4 (List.mem_of_getElem? (i := 57) rfl) rfl
theorem ki_yX2_isReader : Cond.instanceMethod yX2_isReader ∈ lw_g := lw_m4 (List.mem_of_getElem? (i := 59) rfl) rfl
theorem kc_yX2_isReader : Cond.code yX2_isReader cX2_isReader 2 (some .boolean) ∈ lw_g := lw_m4 (List.mem_of_getElem? (i := 60) rfl) rfl
theorem kl_RX2_91 : Cond.methodLink RX2 91 yX2_wordsOf ∈ lw_g := lw_m4 (List.mem_of_getElem? (i := 61) rfl) rfl
theorem kt_yX2_wordsOf : Cond.static yX2_wordsOf ∈ lw_g := lw_m4 (List.mem_of_getElem? (i := 62) rfl) rfl
theorem kc_yX2_wordsOf : Cond.code yX2_wordsOf cX2_wordsOf 4 (some .int) ∈ lw_g := lw_m4 (List.mem_of_getElem? (i := 63) rfl) rfl
theorem kl_RL_35 : Cond.methodLink RL 35 yX2_keeps ∈ lw_g := lw_m4 (List.mem_of_getElem? (i := 64) rfl) rfl
theorem ki_yX2_keeps : Cond.instanceMethod yX2_keeps ∈ lw_g := lw_m4 (List.mem_of_getElem? (i := 65) rfl) rfl
theorem ks_yX2_keeps : Cond.selects RX2 yX2_keeps yX2_keeps ∈ lw_g := lw_m4 (List.mem_of_getElem? (i := 66) rfl) rfl
theorem kc_yX2_keeps : Cond.code yX2_keeps cX2_keeps 3 (some .int) ∈ lw_g := lw_m4 (List.mem_of_getElem? (i := 67) rfl) rfl
theorem kl_RL_39 : Cond.methodLink RL 39 yX2_sends ∈ lw_g := lw_m4 (List.mem_of_getElem? (i := 68) rfl) rfl
theorem ki_yX2_sends : Cond.instanceMethod yX2_sends ∈ lw_g := lw_m4 (List.mem_of_getElem? (i := 69) rfl) rfl
theorem ks_yX2_sends : Cond.selects RX2 yX2_sends yX2_sends ∈ lw_g := lw_m4 (List.mem_of_getElem? (i := 70) rfl) rfl
theorem kc_yX2_sends : Cond.code yX2_sends cX2_sends 2 (some .int) ∈ lw_g := lw_m4 (List.mem_of_getElem? (i := 71) rfl) rfl
theorem kl_RL_43 : Cond.methodLink RL 43 yX2_boxes ∈ lw_g := lw_m4 (List.mem_of_getElem? (i := 72) rfl) rfl
theorem ki_yX2_boxes : Cond.instanceMethod yX2_boxes ∈ lw_g := lw_m4 (List.mem_of_getElem? (i := 73) rfl) rfl
theorem ks_yX2_boxes : Cond.selects RX2 yX2_boxes yX2_boxes ∈ lw_g := lw_m4 (List.mem_of_getElem? (i := 74) rfl) rfl
theorem kc_yX2_boxes : Cond.code yX2_boxes cX2_boxes 2 (some .int) ∈ lw_g := lw_m4 (List.mem_of_getElem? (i := 75) rfl) rfl
theorem kl_RX2_150 : Cond.methodLink RX2 150 yX2_sentIn ∈ lw_g := lw_m4 (List.mem_of_getElem? (i := 76) rfl) rfl
theorem kt_yX2_sentIn : Cond.static yX2_sentIn ∈ lw_g := lw_m4 (List.mem_of_getElem? (i := 77) rfl) rfl
theorem kc_yX2_sentIn : Cond.code yX2_sentIn cX2_sentIn 3 (some .int) ∈ lw_g := lw_m4 (List.mem_of_getElem? (i := 78) rfl) rfl
theorem kl_RX2_94 : Cond.methodLink RX2 94 yX2_bits ∈ lw_g := lw_m4 (List.mem_of_getElem? (i := 79) rfl) rfl
theorem kt_yX2_bits : Cond.static yX2_bits ∈ lw_g := lw_m4 (List.mem_of_getElem? (i := 80) rfl) rfl
theorem kc_yX2_bits : Cond.code yX2_bits cX2_bits 3 (some .int) ∈ lw_g := lw_m4 (List.mem_of_getElem? (i := 81) rfl) rfl
theorem kl_RL_47 : Cond.methodLink RL 47 yX2_wind ∈ lw_g := lw_m4 (List.mem_of_getElem? (i := 82) rfl) rfl
theorem ki_yX2_wind : Cond.instanceMethod yX2_wind ∈ lw_g := lw_m4 (List.mem_of_getElem? (i := 83) rfl) rfl
theorem ks_yX2_wind : Cond.selects RX2 yX2_wind yX2_wind ∈ lw_g := lw_m4 (List.mem_of_getElem? (i := 84) rfl) rfl
theorem kc_yX2_wind : Cond.code yX2_wind cX2_wind 2 (some .int) ∈ lw_g := lw_m4 (List.mem_of_getElem? (i := 85) rfl) rfl
theorem kl_RX2_157 : Cond.methodLink RX2 157 yX2_sets ∈ lw_g := lw_m4 (List.mem_of_getElem? (i := 86) rfl) rfl
theorem ki_yX2_sets : Cond.instanceMethod yX2_sets ∈ lw_g := lw_m4 (List.mem_of_getElem? (i := 88) rfl) rfl
theorem kc_yX2_sets : Cond.code yX2_sets cX2_sets 6 (some .int) ∈ lw_g := lw_m4 (List.mem_of_getElem? (i := 89) rfl) rfl
theorem kl_RX2_153 : Cond.methodLink RX2 153 yX2_wrongBy ∈ lw_g := lw_m4 (List.mem_of_getElem? (i := 90) rfl) rfl
theorem kt_yX2_wrongBy : Cond.static yX2_wrongBy ∈ lw_g := lw_m4 (List.mem_of_getElem? (i := 91) rfl) rfl
theorem kc_yX2_wrongBy : Cond.code yX2_wrongBy cX2_wrongBy 3 (some .int) ∈ lw_g := lw_m4 (List.mem_of_getElem? (i := 92) rfl) rfl
theorem kl_RL_51 : Cond.methodLink RL 51 yX2_grant ∈ lw_g := lw_m4 (List.mem_of_getElem? (i := 93) rfl) rfl
theorem ki_yX2_grant : Cond.instanceMethod yX2_grant ∈ lw_g := lw_m4 (List.mem_of_getElem? (i := 94) rfl) rfl
theorem ks_yX2_grant : Cond.selects RX2 yX2_grant yX2_grant ∈ lw_g := lw_m4 (List.mem_of_getElem? (i := 95) rfl) rfl
theorem kc_yX2_grant : Cond.code yX2_grant cX2_grant 2 (some .int) ∈ lw_g := lw_m4 (List.mem_of_getElem? (i := 96) rfl) rfl
theorem kl_RL_55 : Cond.methodLink RL 55 yX2_stands ∈ lw_g := lw_m4 (List.mem_of_getElem? (i := 97) rfl) rfl
theorem ki_yX2_stands : Cond.instanceMethod yX2_stands ∈ lw_g := lw_m4 (List.mem_of_getElem? (i := 98) rfl) rfl
theorem ks_yX2_stands : Cond.selects RX2 yX2_stands yX2_stands ∈ lw_g := lw_m4 (List.mem_of_getElem? (i := 99) rfl) rfl
theorem kc_yX2_stands : Cond.code yX2_stands cX2_stands 3 (some .int) ∈ lw_g := lw_m4 (List.mem_of_getElem? (i := 100) rfl) rfl
theorem kl_RL_60 : Cond.methodLink RL 60 yX2_turn ∈ lw_g := lw_m4 (List.mem_of_getElem? (i := 101) rfl) rfl
theorem ki_yX2_turn : Cond.instanceMethod yX2_turn ∈ lw_g := lw_m4 (List.mem_of_getElem? (i := 102) rfl) rfl
theorem ks_yX2_turn : Cond.selects RX2 yX2_turn yX2_turn ∈ lw_g := lw_m4 (List.mem_of_getElem? (i := 103) rfl) rfl
theorem kc_yX2_turn : Cond.code yX2_turn cX2_turn 6 (some .int) ∈ lw_g := lw_m4 (List.mem_of_getElem? (i := 104) rfl) rfl
theorem kl_RL_64 : Cond.methodLink RL 64 yX2_nights ∈ lw_g := lw_m4 (List.mem_of_getElem? (i := 105) rfl) rfl
theorem ki_yX2_nights : Cond.instanceMethod yX2_nights ∈ lw_g := lw_m4 (List.mem_of_getElem? (i := 106) rfl) rfl
theorem ks_yX2_nights : Cond.selects RX2 yX2_nights yX2_nights ∈ lw_g := lw_m4 (List.mem_of_getElem? (i := 107) rfl) rfl
theorem kc_yX2_nights : Cond.code yX2_nights cX2_nights 2 (some .int) ∈ lw_g := lw_m4 (List.mem_of_getElem? (i := 108) rfl) rfl
theorem kl_RL_68 : Cond.methodLink RL 68 yX2_wordsThen ∈ lw_g := lw_m4 (List.mem_of_getElem? (i := 109) rfl) rfl
theorem ki_yX2_wordsThen : Cond.instanceMethod yX2_wordsThen ∈ lw_g := lw_m4 (List.mem_of_getElem? (i := 110) rfl) rfl
theorem ks_yX2_wordsThen : Cond.selects RX2 yX2_wordsThen yX2_wordsThen ∈ lw_g := lw_m4 (List.mem_of_getElem? (i := 111) rfl) rfl
theorem kc_yX2_wordsThen : Cond.code yX2_wordsThen cX2_wordsThen 4 (some .int) ∈ lw_g := lw_m4 (List.mem_of_getElem? (i := 112) rfl) rfl
theorem kl_RX2_160 : Cond.methodLink RX2 160 yX2_takes ∈ lw_g := lw_m4 (List.mem_of_getElem? (i := 113) rfl) rfl
theorem ki_yX2_takes : Cond.instanceMethod yX2_takes ∈ lw_g := lw_m4 (List.mem_of_getElem? (i := 115) rfl) rfl
theorem kc_yX2_takes : Cond.code yX2_takes cX2_takes 2 none ∈ lw_g := lw_m4 (List.mem_of_getElem? (i := 116) rfl) rfl
theorem kl_RL_72 : Cond.methodLink RL 72 yX2_then ∈ lw_g := lw_m4 (List.mem_of_getElem? (i := 117) rfl) rfl
theorem ki_yX2_then : Cond.instanceMethod yX2_then ∈ lw_g := lw_m4 (List.mem_of_getElem? (i := 118) rfl) rfl
theorem ks_yX2_then : Cond.selects RX2 yX2_then yX2_then ∈ lw_g := lw_m4 (List.mem_of_getElem? (i := 119) rfl) rfl
theorem kc_yX2_then : Cond.code yX2_then cX2_then 4 (some .int) ∈ lw_g := lw_m4 (List.mem_of_getElem? (i := 120) rfl) rfl
theorem kl_RL_76 : Cond.methodLink RL 76 yX2_whole ∈ lw_g := lw_m4 (List.mem_of_getElem? (i := 121) rfl) rfl
theorem ki_yX2_whole : Cond.instanceMethod yX2_whole ∈ lw_g := lw_m4 (List.mem_of_getElem? (i := 122) rfl) rfl
theorem ks_yX2_whole : Cond.selects RX2 yX2_whole yX2_whole ∈ lw_g := lw_m4 (List.mem_of_getElem? (i := 123) rfl) rfl
theorem kc_yX2_whole : Cond.code yX2_whole cX2_whole 2 (some .int) ∈ lw_g := lw_m4 (List.mem_of_getElem? (i := 124) rfl) rfl
theorem kl_RX2_168 : Cond.methodLink RX2 168 yX2_firstWhole ∈ lw_g := lw_m4 (List.mem_of_getElem? (i := 125) rfl) rfl
theorem ki_yX2_firstWhole : Cond.instanceMethod yX2_firstWhole ∈ lw_g := lw_m4 (List.mem_of_getElem? (i := 127) rfl) rfl
theorem kc_yX2_firstWhole : Cond.code yX2_firstWhole cX2_firstWhole 5 (some .int) ∈ lw_g := lw_m4 (List.mem_of_getElem? (i := 128) rfl) rfl
theorem kk_RX2_164 : Cond.constant RX2 164 (1000000000) ∈ lw_g := lw_m4 (List.mem_of_getElem? (i := 129) rfl) rfl
theorem kl_RX2_165 : Cond.methodLink RX2 165 yX2_wholeOf ∈ lw_g := lw_m4 (List.mem_of_getElem? (i := 130) rfl) rfl
theorem ki_yX2_wholeOf : Cond.instanceMethod yX2_wholeOf ∈ lw_g := lw_m4 (List.mem_of_getElem? (i := 132) rfl) rfl
theorem kc_yX2_wholeOf : Cond.code yX2_wholeOf cX2_wholeOf 3 (some .int) ∈ lw_g := lw_m4 (List.mem_of_getElem? (i := 133) rfl) rfl
theorem kl_RL_80 : Cond.methodLink RL 80 yX2_next ∈ lw_g := lw_m4 (List.mem_of_getElem? (i := 134) rfl) rfl
theorem ki_yX2_next : Cond.instanceMethod yX2_next ∈ lw_g := lw_m4 (List.mem_of_getElem? (i := 135) rfl) rfl
theorem ks_yX2_next : Cond.selects RX2 yX2_next yX2_next ∈ lw_g := lw_m4 (List.mem_of_getElem? (i := 136) rfl) rfl
theorem kc_yX2_next : Cond.code yX2_next cX2_next 3 (some .int) ∈ lw_g := lw_m4 (List.mem_of_getElem? (i := 137) rfl) rfl
theorem kl_RL_84 : Cond.methodLink RL 84 yX2_fewest ∈ lw_g := lw_m4 (List.mem_of_getElem? (i := 138) rfl) rfl
theorem ki_yX2_fewest : Cond.instanceMethod yX2_fewest ∈ lw_g := lw_m4 (List.mem_of_getElem? (i := 139) rfl) rfl
theorem ks_yX2_fewest : Cond.selects RX2 yX2_fewest yX2_fewest ∈ lw_g := lw_m4 (List.mem_of_getElem? (i := 140) rfl) rfl
theorem kc_yX2_fewest : Cond.code yX2_fewest cX2_fewest 6 (some .int) ∈ lw_g := lw_m4 (List.mem_of_getElem? (i := 141) rfl) rfl
theorem kl_RX2_171 : Cond.methodLink RX2 171 yX2_boxed ∈ lw_g := lw_m4 (List.mem_of_getElem? (i := 142) rfl) rfl
theorem ki_yX2_boxed : Cond.instanceMethod yX2_boxed ∈ lw_g := lw_m4 (List.mem_of_getElem? (i := 144) rfl) rfl
theorem kc_yX2_boxed : Cond.code yX2_boxed cX2_boxed 1 (some .int) ∈ lw_g := lw_m4 (List.mem_of_getElem? (i := 145) rfl) rfl
theorem kl_RX2_174 : Cond.methodLink RX2 174 yX2_isWholeBy ∈ lw_g := lw_m4 (List.mem_of_getElem? (i := 146) rfl) rfl
theorem ki_yX2_isWholeBy : Cond.instanceMethod yX2_isWholeBy ∈ lw_g := lw_m4 (List.mem_of_getElem? (i := 148) rfl) rfl
theorem kc_yX2_isWholeBy : Cond.code yX2_isWholeBy cX2_isWholeBy 4 (some .boolean) ∈ lw_g := lw_m4 (List.mem_of_getElem? (i := 149) rfl) rfl
theorem kl_RX2_177 : Cond.methodLink RX2 177 yX2_costOf ∈ lw_g := lw_m4 (List.mem_of_getElem? (i := 150) rfl) rfl
theorem ki_yX2_costOf : Cond.instanceMethod yX2_costOf ∈ lw_g := lw_m4 (List.mem_of_getElem? (i := 152) rfl) rfl
theorem kc_yX2_costOf : Cond.code yX2_costOf cX2_costOf 4 (some .int) ∈ lw_g := lw_m4 (List.mem_of_getElem? (i := 153) rfl) rfl
theorem kl_RL_88 : Cond.methodLink RL 88 yX2_windBest ∈ lw_g := lw_m4 (List.mem_of_getElem? (i := 154) rfl) rfl
theorem ki_yX2_windBest : Cond.instanceMethod yX2_windBest ∈ lw_g := lw_m4 (List.mem_of_getElem? (i := 155) rfl) rfl
theorem ks_yX2_windBest : Cond.selects RX2 yX2_windBest yX2_windBest ∈ lw_g := lw_m4 (List.mem_of_getElem? (i := 156) rfl) rfl
theorem kc_yX2_windBest : Cond.code yX2_windBest cX2_windBest 7 (some .int) ∈ lw_g := lw_m4 (List.mem_of_getElem? (i := 157) rfl) rfl
theorem kl_RX2_180 : Cond.methodLink RX2 180 yX2_wholeOnes ∈ lw_g := lw_m4 (List.mem_of_getElem? (i := 158) rfl) rfl
theorem kt_yX2_wholeOnes : Cond.static yX2_wholeOnes ∈ lw_g := lw_m4 (List.mem_of_getElem? (i := 159) rfl) rfl
theorem kc_yX2_wholeOnes : Cond.code yX2_wholeOnes cX2_wholeOnes 3 (some .int) ∈ lw_g := lw_m4 (List.mem_of_getElem? (i := 160) rfl) rfl
theorem kl_RL_92 : Cond.methodLink RL 92 yX2_move ∈ lw_g := lw_m4 (List.mem_of_getElem? (i := 161) rfl) rfl
theorem ki_yX2_move : Cond.instanceMethod yX2_move ∈ lw_g := lw_m4 (List.mem_of_getElem? (i := 162) rfl) rfl
theorem ks_yX2_move : Cond.selects RX2 yX2_move yX2_move ∈ lw_g := lw_m4 (List.mem_of_getElem? (i := 163) rfl) rfl
theorem kc_yX2_move : Cond.code yX2_move cX2_move 8 (some .int) ∈ lw_g := lw_m4 (List.mem_of_getElem? (i := 164) rfl) rfl
theorem kl_RL_96 : Cond.methodLink RL 96 yX2_forgo ∈ lw_g := lw_m4 (List.mem_of_getElem? (i := 165) rfl) rfl
theorem ki_yX2_forgo : Cond.instanceMethod yX2_forgo ∈ lw_g := lw_m4 (List.mem_of_getElem? (i := 166) rfl) rfl
theorem ks_yX2_forgo : Cond.selects RX2 yX2_forgo yX2_forgo ∈ lw_g := lw_m4 (List.mem_of_getElem? (i := 167) rfl) rfl
theorem kc_yX2_forgo : Cond.code yX2_forgo cX2_forgo 3 (some .int) ∈ lw_g := lw_m4 (List.mem_of_getElem? (i := 168) rfl) rfl
theorem kl_RX2_186 : Cond.methodLink RX2 186 yX2_bestNow ∈ lw_g := lw_m4 (List.mem_of_getElem? (i := 169) rfl) rfl
theorem ki_yX2_bestNow : Cond.instanceMethod yX2_bestNow ∈ lw_g := lw_m4 (List.mem_of_getElem? (i := 171) rfl) rfl
theorem kc_yX2_bestNow : Cond.code yX2_bestNow cX2_bestNow 6 (some .int) ∈ lw_g := lw_m4 (List.mem_of_getElem? (i := 172) rfl) rfl
theorem kl_RX2_183 : Cond.methodLink RX2 183 yX2_allWords ∈ lw_g := lw_m4 (List.mem_of_getElem? (i := 173) rfl) rfl
theorem kt_yX2_allWords : Cond.static yX2_allWords ∈ lw_g := lw_m4 (List.mem_of_getElem? (i := 174) rfl) rfl
theorem kc_yX2_allWords : Cond.code yX2_allWords cX2_allWords 3 (some .int) ∈ lw_g := lw_m4 (List.mem_of_getElem? (i := 175) rfl) rfl
theorem kl_RL_100 : Cond.methodLink RL 100 yX2_firstUp ∈ lw_g := lw_m4 (List.mem_of_getElem? (i := 176) rfl) rfl
theorem ki_yX2_firstUp : Cond.instanceMethod yX2_firstUp ∈ lw_g := lw_m4 (List.mem_of_getElem? (i := 177) rfl) rfl
theorem ks_yX2_firstUp : Cond.selects RX2 yX2_firstUp yX2_firstUp ∈ lw_g := lw_m4 (List.mem_of_getElem? (i := 178) rfl) rfl
theorem kc_yX2_firstUp : Cond.code yX2_firstUp cX2_firstUp 3 (some .int) ∈ lw_g := lw_m4 (List.mem_of_getElem? (i := 179) rfl) rfl
theorem kl_RL_104 : Cond.methodLink RL 104 yX2_longest ∈ lw_g := lw_m4 (List.mem_of_getElem? (i := 180) rfl) rfl
theorem ki_yX2_longest : Cond.instanceMethod yX2_longest ∈ lw_g := lw_m4 (List.mem_of_getElem? (i := 181) rfl) rfl
theorem ks_yX2_longest : Cond.selects RX2 yX2_longest yX2_longest ∈ lw_g := lw_m4 (List.mem_of_getElem? (i := 182) rfl) rfl
theorem kc_yX2_longest : Cond.code yX2_longest cX2_longest 4 (some .int) ∈ lw_g := lw_m4 (List.mem_of_getElem? (i := 183) rfl) rfl
theorem kl_RX2_190 : Cond.methodLink RX2 190 yX2_darkOf ∈ lw_g := lw_m4 (List.mem_of_getElem? (i := 184) rfl) rfl
theorem ki_yX2_darkOf : Cond.instanceMethod yX2_darkOf ∈ lw_g := lw_m4 (List.mem_of_getElem? (i := 186) rfl) rfl
theorem kc_yX2_darkOf : Cond.code yX2_darkOf cX2_darkOf 2 (some .int) ∈ lw_g := lw_m4 (List.mem_of_getElem? (i := 187) rfl) rfl
theorem kl_RL_108 : Cond.methodLink RL 108 yX2_seen ∈ lw_g := lw_m4 (List.mem_of_getElem? (i := 188) rfl) rfl
theorem ki_yX2_seen : Cond.instanceMethod yX2_seen ∈ lw_g := lw_m4 (List.mem_of_getElem? (i := 189) rfl) rfl
theorem ks_yX2_seen : Cond.selects RX2 yX2_seen yX2_seen ∈ lw_g := lw_m4 (List.mem_of_getElem? (i := 190) rfl) rfl
theorem kc_yX2_seen : Cond.code yX2_seen cX2_seen 4 (some .int) ∈ lw_g := lw_m4 (List.mem_of_getElem? (i := 191) rfl) rfl
theorem kl_RL_112 : Cond.methodLink RL 112 yX2_words ∈ lw_g := lw_m4 (List.mem_of_getElem? (i := 192) rfl) rfl
theorem ki_yX2_words : Cond.instanceMethod yX2_words ∈ lw_g := lw_m4 (List.mem_of_getElem? (i := 193) rfl) rfl
theorem ks_yX2_words : Cond.selects RX2 yX2_words yX2_words ∈ lw_g := lw_m4 (List.mem_of_getElem? (i := 194) rfl) rfl
theorem kc_yX2_words : Cond.code yX2_words cX2_words 6 (some .int) ∈ lw_g := lw_m4 (List.mem_of_getElem? (i := 195) rfl) rfl
theorem kl_RX2_193 : Cond.methodLink RX2 193 yX2_manyWith ∈ lw_g := lw_m4 (List.mem_of_getElem? (i := 196) rfl) rfl
theorem ki_yX2_manyWith : Cond.instanceMethod yX2_manyWith ∈ lw_g := lw_m4 (List.mem_of_getElem? (i := 198) rfl) rfl
theorem kc_yX2_manyWith : Cond.code yX2_manyWith cX2_manyWith 4 (some .int) ∈ lw_g := lw_m4 (List.mem_of_getElem? (i := 199) rfl) rfl
theorem kl_RL_116 : Cond.methodLink RL 116 yX2_near ∈ lw_g := lw_m4 (List.mem_of_getElem? (i := 200) rfl) rfl
theorem ki_yX2_near : Cond.instanceMethod yX2_near ∈ lw_g := lw_m4 (List.mem_of_getElem? (i := 201) rfl) rfl
theorem ks_yX2_near : Cond.selects RX2 yX2_near yX2_near ∈ lw_g := lw_m4 (List.mem_of_getElem? (i := 202) rfl) rfl
theorem kc_yX2_near : Cond.code yX2_near cX2_near 3 (some .int) ∈ lw_g := lw_m4 (List.mem_of_getElem? (i := 203) rfl) rfl
theorem kl_RL_120 : Cond.methodLink RL 120 yX2_alone ∈ lw_g := lw_m4 (List.mem_of_getElem? (i := 204) rfl) rfl
theorem ki_yX2_alone : Cond.instanceMethod yX2_alone ∈ lw_g := lw_m4 (List.mem_of_getElem? (i := 205) rfl) rfl
theorem ks_yX2_alone : Cond.selects RX2 yX2_alone yX2_alone ∈ lw_g := lw_m4 (List.mem_of_getElem? (i := 206) rfl) rfl
theorem kc_yX2_alone : Cond.code yX2_alone cX2_alone 4 (some .int) ∈ lw_g := lw_m4 (List.mem_of_getElem? (i := 207) rfl) rfl
theorem kl_RL_124 : Cond.methodLink RL 124 yX2_tell ∈ lw_g := lw_m4 (List.mem_of_getElem? (i := 208) rfl) rfl
theorem ki_yX2_tell : Cond.instanceMethod yX2_tell ∈ lw_g := lw_m4 (List.mem_of_getElem? (i := 209) rfl) rfl
theorem ks_yX2_tell : Cond.selects RX2 yX2_tell yX2_tell ∈ lw_g := lw_m4 (List.mem_of_getElem? (i := 210) rfl) rfl
theorem kc_yX2_tell : Cond.code yX2_tell cX2_tell 6 (some .int) ∈ lw_g := lw_m4 (List.mem_of_getElem? (i := 211) rfl) rfl
theorem kl_RL_128 : Cond.methodLink RL 128 yX2_two ∈ lw_g := lw_m4 (List.mem_of_getElem? (i := 212) rfl) rfl
theorem ki_yX2_two : Cond.instanceMethod yX2_two ∈ lw_g := lw_m4 (List.mem_of_getElem? (i := 213) rfl) rfl
theorem ks_yX2_two : Cond.selects RX2 yX2_two yX2_two ∈ lw_g := lw_m4 (List.mem_of_getElem? (i := 214) rfl) rfl
theorem kc_yX2_two : Cond.code yX2_two cX2_two 9 (some .int) ∈ lw_g := lw_m4 (List.mem_of_getElem? (i := 215) rfl) rfl
theorem kl_RX2_196 : Cond.methodLink RX2 196 yX2_lookingBy ∈ lw_g := lw_m4 (List.mem_of_getElem? (i := 216) rfl) rfl
theorem kt_yX2_lookingBy : Cond.static yX2_lookingBy ∈ lw_g := lw_m4 (List.mem_of_getElem? (i := 217) rfl) rfl
theorem kc_yX2_lookingBy : Cond.code yX2_lookingBy cX2_lookingBy 4 (some .int) ∈ lw_g := lw_m4 (List.mem_of_getElem? (i := 218) rfl) rfl
theorem kl_RX2_200 : Cond.methodLink RX2 200 yX2_hasBy ∈ lw_g := lw_m4 (List.mem_of_getElem? (i := 219) rfl) rfl
theorem ki_yX2_hasBy : Cond.instanceMethod yX2_hasBy ∈ lw_g := lw_m4 (List.mem_of_getElem? (i := 221) rfl) rfl
theorem kc_yX2_hasBy : Cond.code yX2_hasBy cX2_hasBy 7 (some .int) ∈ lw_g := lw_m4 (List.mem_of_getElem? (i := 222) rfl) rfl
theorem kl_RL_133 : Cond.methodLink RL 133 yX2_rain ∈ lw_g := lw_m4 (List.mem_of_getElem? (i := 223) rfl) rfl
theorem ki_yX2_rain : Cond.instanceMethod yX2_rain ∈ lw_g := lw_m4 (List.mem_of_getElem? (i := 224) rfl) rfl
theorem ks_yX2_rain : Cond.selects RX2 yX2_rain yX2_rain ∈ lw_g := lw_m4 (List.mem_of_getElem? (i := 225) rfl) rfl
theorem kc_yX2_rain : Cond.code yX2_rain cX2_rain 13 (some .long) ∈ lw_g := lw_m4 (List.mem_of_getElem? (i := 226) rfl) rfl
theorem kl_RX2_208 : Cond.methodLink RX2 208 yX2_noWide ∈ lw_g := lw_m4 (List.mem_of_getElem? (i := 227) rfl) rfl
theorem ki_yX2_noWide : Cond.instanceMethod yX2_noWide ∈ lw_g := lw_m4 (List.mem_of_getElem? (i := 229) rfl) rfl
theorem kc_yX2_noWide : Cond.code yX2_noWide cX2_noWide 2 (some .long) ∈ lw_g := lw_m4 (List.mem_of_getElem? (i := 230) rfl) rfl
theorem kk_RX2_34 : Cond.constantLong RX2 34 (4000000000000000000) ∈ lw_g := lw_m4 (List.mem_of_getElem? (i := 231) rfl) rfl
theorem kl_RX2_212 : Cond.methodLink RX2 212 yX2_partOf ∈ lw_g := lw_m4 (List.mem_of_getElem? (i := 232) rfl) rfl
theorem kt_yX2_partOf : Cond.static yX2_partOf ∈ lw_g := lw_m4 (List.mem_of_getElem? (i := 233) rfl) rfl
theorem kc_yX2_partOf : Cond.code yX2_partOf cX2_partOf 5 (some .long) ∈ lw_g := lw_m4 (List.mem_of_getElem? (i := 234) rfl) rfl
theorem kl_RX2_204 : Cond.methodLink RX2 204 yX2_gcd ∈ lw_g := lw_m4 (List.mem_of_getElem? (i := 235) rfl) rfl
theorem kt_yX2_gcd : Cond.static yX2_gcd ∈ lw_g := lw_m4 (List.mem_of_getElem? (i := 236) rfl) rfl
theorem kc_yX2_gcd : Cond.code yX2_gcd cX2_gcd 10 (some .long) ∈ lw_g := lw_m4 (List.mem_of_getElem? (i := 237) rfl) rfl
theorem kl_RL_138 : Cond.methodLink RL 138 yX2_mean ∈ lw_g := lw_m4 (List.mem_of_getElem? (i := 238) rfl) rfl
theorem ki_yX2_mean : Cond.instanceMethod yX2_mean ∈ lw_g := lw_m4 (List.mem_of_getElem? (i := 239) rfl) rfl
theorem ks_yX2_mean : Cond.selects RX2 yX2_mean yX2_mean ∈ lw_g := lw_m5 (List.mem_of_getElem? (i := 0) rfl) rfl
theorem kc_yX2_mean : Cond.code yX2_mean cX2_mean 2 (some .long) ∈ lw_g := lw_m5 (List.mem_of_getElem? (i := 1) rfl) rfl
theorem kl_RL_142 : Cond.methodLink RL 142 yX2_whatSaid ∈ lw_g := lw_m5 (List.mem_of_getElem? (i := 2) rfl) rfl
theorem ki_yX2_whatSaid : Cond.instanceMethod yX2_whatSaid ∈ lw_g := lw_m5 (List.mem_of_getElem? (i := 3) rfl) rfl
theorem ks_yX2_whatSaid : Cond.selects RX2 yX2_whatSaid yX2_whatSaid ∈ lw_g := lw_m5 (List.mem_of_getElem? (i := 4) rfl) rfl
theorem kc_yX2_whatSaid : Cond.code yX2_whatSaid cX2_whatSaid 5 (some .int) ∈ lw_g := lw_m5 (List.mem_of_getElem? (i := 5) rfl) rfl
theorem kl_RX2_219 : Cond.methodLink RX2 219 yX2_isSaidSo ∈ lw_g := lw_m5 (List.mem_of_getElem? (i := 6) rfl) rfl
theorem ki_yX2_isSaidSo : Cond.instanceMethod yX2_isSaidSo ∈ lw_g := lw_m5 (List.mem_of_getElem? (i := 8) rfl) rfl
theorem kc_yX2_isSaidSo : Cond.code yX2_isSaidSo cX2_isSaidSo 3 (some .boolean) ∈ lw_g := lw_m5 (List.mem_of_getElem? (i := 9) rfl) rfl
theorem kl_RL_146 : Cond.methodLink RL 146 yX2_row ∈ lw_g := lw_m5 (List.mem_of_getElem? (i := 10) rfl) rfl
theorem ki_yX2_row : Cond.instanceMethod yX2_row ∈ lw_g := lw_m5 (List.mem_of_getElem? (i := 11) rfl) rfl
theorem ks_yX2_row : Cond.selects RX2 yX2_row yX2_row ∈ lw_g := lw_m5 (List.mem_of_getElem? (i := 12) rfl) rfl
theorem kc_yX2_row : Cond.code yX2_row cX2_row 3 (some .int) ∈ lw_g := lw_m5 (List.mem_of_getElem? (i := 13) rfl) rfl
theorem kl_RL_150 : Cond.methodLink RL 150 yX2_judge ∈ lw_g := lw_m5 (List.mem_of_getElem? (i := 14) rfl) rfl
theorem ki_yX2_judge : Cond.instanceMethod yX2_judge ∈ lw_g := lw_m5 (List.mem_of_getElem? (i := 15) rfl) rfl
theorem ks_yX2_judge : Cond.selects RX2 yX2_judge yX2_judge ∈ lw_g := lw_m5 (List.mem_of_getElem? (i := 16) rfl) rfl
theorem kc_yX2_judge : Cond.code yX2_judge cX2_judge 3 (some .int) ∈ lw_g := lw_m5 (List.mem_of_getElem? (i := 17) rfl) rfl
theorem kl_RL_154 : Cond.methodLink RL 154 yX2_clear ∈ lw_g := lw_m5 (List.mem_of_getElem? (i := 18) rfl) rfl
theorem ki_yX2_clear : Cond.instanceMethod yX2_clear ∈ lw_g := lw_m5 (List.mem_of_getElem? (i := 19) rfl) rfl
theorem ks_yX2_clear : Cond.selects RX2 yX2_clear yX2_clear ∈ lw_g := lw_m5 (List.mem_of_getElem? (i := 20) rfl) rfl
theorem kc_yX2_clear : Cond.code yX2_clear cX2_clear 2 (some .int) ∈ lw_g := lw_m5 (List.mem_of_getElem? (i := 21) rfl) rfl
theorem kl_RL_158 : Cond.methodLink RL 158 yX2_lots ∈ lw_g := lw_m5 (List.mem_of_getElem? (i := 22) rfl) rfl
theorem ki_yX2_lots : Cond.instanceMethod yX2_lots ∈ lw_g := lw_m5 (List.mem_of_getElem? (i := 23) rfl) rfl
theorem ks_yX2_lots : Cond.selects RX2 yX2_lots yX2_lots ∈ lw_g := lw_m5 (List.mem_of_getElem? (i := 24) rfl) rfl
theorem kc_yX2_lots : Cond.code yX2_lots cX2_lots 7 (some .int) ∈ lw_g := lw_m5 (List.mem_of_getElem? (i := 25) rfl) rfl
theorem kl_RX2_228 : Cond.methodLink RX2 228 yX2_drawn ∈ lw_g := lw_m5 (List.mem_of_getElem? (i := 26) rfl) rfl
theorem ki_yX2_drawn : Cond.instanceMethod yX2_drawn ∈ lw_g := lw_m5 (List.mem_of_getElem? (i := 28) rfl) rfl
theorem kc_yX2_drawn : Cond.code yX2_drawn cX2_drawn 2 (some .int) ∈ lw_g := lw_m5 (List.mem_of_getElem? (i := 29) rfl) rfl
theorem kk_RX2_225 : Cond.constant RX2 225 (1664525) ∈ lw_g := lw_m5 (List.mem_of_getElem? (i := 30) rfl) rfl
theorem kk_RX2_226 : Cond.constant RX2 226 (1013904223) ∈ lw_g := lw_m5 (List.mem_of_getElem? (i := 31) rfl) rfl
theorem kk_RX2_227 : Cond.constant RX2 227 (2147483647) ∈ lw_g := lw_m5 (List.mem_of_getElem? (i := 32) rfl) rfl
theorem kl_RL_162 : Cond.methodLink RL 162 yX2_image ∈ lw_g := lw_m5 (List.mem_of_getElem? (i := 33) rfl) rfl
theorem ki_yX2_image : Cond.instanceMethod yX2_image ∈ lw_g := lw_m5 (List.mem_of_getElem? (i := 34) rfl) rfl
theorem ks_yX2_image : Cond.selects RX2 yX2_image yX2_image ∈ lw_g := lw_m5 (List.mem_of_getElem? (i := 35) rfl) rfl
theorem kc_yX2_image : Cond.code yX2_image cX2_image 1 (some .int) ∈ lw_g := lw_m5 (List.mem_of_getElem? (i := 36) rfl) rfl
theorem kl_RL_166 : Cond.methodLink RL 166 yX2_on ∈ lw_g := lw_m5 (List.mem_of_getElem? (i := 37) rfl) rfl
theorem ki_yX2_on : Cond.instanceMethod yX2_on ∈ lw_g := lw_m5 (List.mem_of_getElem? (i := 38) rfl) rfl
theorem ks_yX2_on : Cond.selects RX2 yX2_on yX2_on ∈ lw_g := lw_m5 (List.mem_of_getElem? (i := 39) rfl) rfl
theorem kc_yX2_on : Cond.code yX2_on cX2_on 1 (some .int) ∈ lw_g := lw_m5 (List.mem_of_getElem? (i := 40) rfl) rfl
theorem kl_RL_170 : Cond.methodLink RL 170 yX2_count ∈ lw_g := lw_m5 (List.mem_of_getElem? (i := 41) rfl) rfl
theorem ki_yX2_count : Cond.instanceMethod yX2_count ∈ lw_g := lw_m5 (List.mem_of_getElem? (i := 42) rfl) rfl
theorem ks_yX2_count : Cond.selects RX2 yX2_count yX2_count ∈ lw_g := lw_m5 (List.mem_of_getElem? (i := 43) rfl) rfl
theorem kc_yX2_count : Cond.code yX2_count cX2_count 2 (some .int) ∈ lw_g := lw_m5 (List.mem_of_getElem? (i := 44) rfl) rfl
theorem kf_RJ0_15 : Cond.fieldLink RJ0 15 "java/lang/String" "coder" "B" ∈ lw_g := lw_m5 (List.mem_of_getElem? (i := 45) rfl) rfl
theorem kf_RJ0_9 : Cond.fieldLink RJ0 9 "java/lang/String" "value" "[B" ∈ lw_g := lw_m5 (List.mem_of_getElem? (i := 46) rfl) rfl
theorem ks_yX1_refuse : Cond.selects RX1 yX1_refuse yX1_refuse ∈ lw_g := lw_m0 (List.mem_of_getElem? (i := 0) rfl) rfl
theorem ks_yX1_wrongLetter : Cond.selects RX1 yX1_wrongLetter yX1_wrongLetter ∈ lw_g := lw_m0 (List.mem_of_getElem? (i := 1) rfl) rfl
theorem ks_yX1_comesToMind : Cond.selects RX1 yX1_comesToMind yX1_comesToMind ∈ lw_g := lw_m0 (List.mem_of_getElem? (i := 2) rfl) rfl
theorem ks_yX1_rocketComes : Cond.selects RX1 yX1_rocketComes yX1_rocketComes ∈ lw_g := lw_m0 (List.mem_of_getElem? (i := 3) rfl) rfl
theorem ks_yX1_numberAt : Cond.selects RX1 yX1_numberAt yX1_numberAt ∈ lw_g := lw_m0 (List.mem_of_getElem? (i := 4) rfl) rfl
theorem ks_yX1_rocketGoesUp : Cond.selects RX1 yX1_rocketGoesUp yX1_rocketGoesUp ∈ lw_g := lw_m0 (List.mem_of_getElem? (i := 5) rfl) rfl
theorem ks_yX1_rocketGoesBack : Cond.selects RX1 yX1_rocketGoesBack yX1_rocketGoesBack ∈ lw_g := lw_m0 (List.mem_of_getElem? (i := 6) rfl) rfl
theorem ks_yX1_nightsGoBy : Cond.selects RX1 yX1_nightsGoBy yX1_nightsGoBy ∈ lw_g := lw_m0 (List.mem_of_getElem? (i := 7) rfl) rfl
theorem ks_yX1_thinkOn : Cond.selects RX1 yX1_thinkOn yX1_thinkOn ∈ lw_g := lw_m0 (List.mem_of_getElem? (i := 8) rfl) rfl
theorem ks_yX1_firstWhole : Cond.selects RX1 yX1_firstWhole yX1_firstWhole ∈ lw_g := lw_m0 (List.mem_of_getElem? (i := 9) rfl) rfl
theorem ks_yX1_nightsUntilWhole : Cond.selects RX1 yX1_nightsUntilWhole yX1_nightsUntilWhole ∈ lw_g := lw_m0 (List.mem_of_getElem? (i := 10) rfl) rfl
theorem ks_yX1_nightsUntilSpent : Cond.selects RX1 yX1_nightsUntilSpent yX1_nightsUntilSpent ∈ lw_g := lw_m0 (List.mem_of_getElem? (i := 11) rfl) rfl
theorem ks_yX1_noteWhatIsBrought : Cond.selects RX1 yX1_noteWhatIsBrought yX1_noteWhatIsBrought ∈ lw_g := lw_m0 (List.mem_of_getElem? (i := 12) rfl) rfl
theorem ks_yX1_fewestRockets : Cond.selects RX1 yX1_fewestRockets yX1_fewestRockets ∈ lw_g := lw_m0 (List.mem_of_getElem? (i := 13) rfl) rfl
theorem ks_yX1_makesWhole : Cond.selects RX1 yX1_makesWhole yX1_makesWhole ∈ lw_g := lw_m0 (List.mem_of_getElem? (i := 14) rfl) rfl
theorem ks_yX1_leastCost : Cond.selects RX1 yX1_leastCost yX1_leastCost ∈ lw_g := lw_m0 (List.mem_of_getElem? (i := 15) rfl) rfl
theorem ks_yX1_costOfChosen : Cond.selects RX1 yX1_costOfChosen yX1_costOfChosen ∈ lw_g := lw_m0 (List.mem_of_getElem? (i := 16) rfl) rfl
theorem ks_yX1_bestToSpend : Cond.selects RX1 yX1_bestToSpend yX1_bestToSpend ∈ lw_g := lw_m0 (List.mem_of_getElem? (i := 17) rfl) rfl
theorem ks_yX1_wordsHadBySpending : Cond.selects RX1 yX1_wordsHadBySpending yX1_wordsHadBySpending ∈ lw_g := lw_m0 (List.mem_of_getElem? (i := 18) rfl) rfl
theorem ks_yX1_longestDark : Cond.selects RX1 yX1_longestDark yX1_longestDark ∈ lw_g := lw_m0 (List.mem_of_getElem? (i := 19) rfl) rfl
theorem ks_yX1_costOfTheBox : Cond.selects RX1 yX1_costOfTheBox yX1_costOfTheBox ∈ lw_g := lw_m0 (List.mem_of_getElem? (i := 20) rfl) rfl
theorem ks_yX1_lackingWords : Cond.selects RX1 yX1_lackingWords yX1_lackingWords ∈ lw_g := lw_m0 (List.mem_of_getElem? (i := 21) rfl) rfl
theorem ks_yX1_knownWords : Cond.selects RX1 yX1_knownWords yX1_knownWords ∈ lw_g := lw_m0 (List.mem_of_getElem? (i := 22) rfl) rfl
theorem ks_yX1_rarestWord : Cond.selects RX1 yX1_rarestWord yX1_rarestWord ∈ lw_g := lw_m0 (List.mem_of_getElem? (i := 23) rfl) rfl
theorem ks_yX1_noteWhatPairGets : Cond.selects RX1 yX1_noteWhatPairGets yX1_noteWhatPairGets ∈ lw_g := lw_m0 (List.mem_of_getElem? (i := 24) rfl) rfl
theorem ks_yX1_gain : Cond.selects RX1 yX1_gain yX1_gain ∈ lw_g := lw_m0 (List.mem_of_getElem? (i := 25) rfl) rfl
theorem ks_yX1_refuseLong : Cond.selects RX1 yX1_refuseLong yX1_refuseLong ∈ lw_g := lw_m0 (List.mem_of_getElem? (i := 26) rfl) rfl
theorem ks_yX1_isWholeAfter : Cond.selects RX1 yX1_isWholeAfter yX1_isWholeAfter ∈ lw_g := lw_m0 (List.mem_of_getElem? (i := 27) rfl) rfl
theorem ks_yX1_rowFitsMind : Cond.selects RX1 yX1_rowFitsMind yX1_rowFitsMind ∈ lw_g := lw_m0 (List.mem_of_getElem? (i := 28) rfl) rfl
theorem ks_yX1_refusalsOf : Cond.selects RX1 yX1_refusalsOf yX1_refusalsOf ∈ lw_g := lw_m0 (List.mem_of_getElem? (i := 29) rfl) rfl
theorem ks_yX2_no : Cond.selects RX2 yX2_no yX2_no ∈ lw_g := lw_m0 (List.mem_of_getElem? (i := 30) rfl) rfl
theorem ks_yX2_readsStatement : Cond.selects RX2 yX2_readsStatement yX2_readsStatement ∈ lw_g := lw_m0 (List.mem_of_getElem? (i := 31) rfl) rfl
theorem ks_yX2_here : Cond.selects RX2 yX2_here yX2_here ∈ lw_g := lw_m0 (List.mem_of_getElem? (i := 32) rfl) rfl
theorem ks_yX2_readsKind : Cond.selects RX2 yX2_readsKind yX2_readsKind ∈ lw_g := lw_m0 (List.mem_of_getElem? (i := 33) rfl) rfl
theorem ks_yX2_readsNumber : Cond.selects RX2 yX2_readsNumber yX2_readsNumber ∈ lw_g := lw_m0 (List.mem_of_getElem? (i := 34) rfl) rfl
theorem ks_yX2_isDone : Cond.selects RX2 yX2_isDone yX2_isDone ∈ lw_g := lw_m0 (List.mem_of_getElem? (i := 35) rfl) rfl
theorem ks_yX2_addsRocket : Cond.selects RX2 yX2_addsRocket yX2_addsRocket ∈ lw_g := lw_m0 (List.mem_of_getElem? (i := 36) rfl) rfl
theorem ks_yX2_addsReader : Cond.selects RX2 yX2_addsReader yX2_addsReader ∈ lw_g := lw_m0 (List.mem_of_getElem? (i := 37) rfl) rfl
theorem ks_yX2_isRocket : Cond.selects RX2 yX2_isRocket yX2_isRocket ∈ lw_g := lw_m0 (List.mem_of_getElem? (i := 38) rfl) rfl
theorem ks_yX2_isReader : Cond.selects RX2 yX2_isReader yX2_isReader ∈ lw_g := lw_m0 (List.mem_of_getElem? (i := 39) rfl) rfl
theorem ks_yX2_sets : Cond.selects RX2 yX2_sets yX2_sets ∈ lw_g := lw_m0 (List.mem_of_getElem? (i := 40) rfl) rfl
theorem ks_yX2_takes : Cond.selects RX2 yX2_takes yX2_takes ∈ lw_g := lw_m0 (List.mem_of_getElem? (i := 41) rfl) rfl
theorem ks_yX2_firstWhole : Cond.selects RX2 yX2_firstWhole yX2_firstWhole ∈ lw_g := lw_m0 (List.mem_of_getElem? (i := 42) rfl) rfl
theorem ks_yX2_wholeOf : Cond.selects RX2 yX2_wholeOf yX2_wholeOf ∈ lw_g := lw_m0 (List.mem_of_getElem? (i := 43) rfl) rfl
theorem ks_yX2_boxed : Cond.selects RX2 yX2_boxed yX2_boxed ∈ lw_g := lw_m0 (List.mem_of_getElem? (i := 44) rfl) rfl
theorem ks_yX2_isWholeBy : Cond.selects RX2 yX2_isWholeBy yX2_isWholeBy ∈ lw_g := lw_m0 (List.mem_of_getElem? (i := 45) rfl) rfl
theorem ks_yX2_costOf : Cond.selects RX2 yX2_costOf yX2_costOf ∈ lw_g := lw_m0 (List.mem_of_getElem? (i := 46) rfl) rfl
theorem ks_yX2_bestNow : Cond.selects RX2 yX2_bestNow yX2_bestNow ∈ lw_g := lw_m0 (List.mem_of_getElem? (i := 47) rfl) rfl
theorem ks_yX2_darkOf : Cond.selects RX2 yX2_darkOf yX2_darkOf ∈ lw_g := lw_m0 (List.mem_of_getElem? (i := 48) rfl) rfl
theorem ks_yX2_manyWith : Cond.selects RX2 yX2_manyWith yX2_manyWith ∈ lw_g := lw_m0 (List.mem_of_getElem? (i := 49) rfl) rfl
theorem ks_yX2_hasBy : Cond.selects RX2 yX2_hasBy yX2_hasBy ∈ lw_g := lw_m0 (List.mem_of_getElem? (i := 50) rfl) rfl
theorem ks_yX2_noWide : Cond.selects RX2 yX2_noWide yX2_noWide ∈ lw_g := lw_m0 (List.mem_of_getElem? (i := 51) rfl) rfl
theorem ks_yX2_isSaidSo : Cond.selects RX2 yX2_isSaidSo yX2_isSaidSo ∈ lw_g := lw_m0 (List.mem_of_getElem? (i := 52) rfl) rfl
theorem ks_yX2_drawn : Cond.selects RX2 yX2_drawn yX2_drawn ∈ lw_g := lw_m0 (List.mem_of_getElem? (i := 53) rfl) rfl
theorem gl_tbl : GoodIn lw_g lw_g := fun w hw => ⟨hw, good_of_word (List.mem_filter.mp hw).2⟩
set_option maxRecDepth 20000 in
theorem inX0 : ∀ w ∈ wsX00, w ∈ lw_g := by decide +kernel
set_option maxRecDepth 20000 in
theorem inX1 : ∀ w ∈ wsX10, w ∈ lw_g := by decide +kernel
set_option maxRecDepth 20000 in
theorem inX2 : ∀ w ∈ wsX20, w ∈ lw_g := by decide +kernel
