/-- the words that every method of this claim rests on: one list for all -/
def TT : List Cond := lw_tbl.filter goodWord
theorem tt_in {w : Cond} (h : w ∈ TT) : w ∈ lw_tbl := (List.mem_filter.mp h).1
theorem tt_good {w : Cond} (h : w ∈ TT) : goodWord w = true := (List.mem_filter.mp h).2
theorem tt_p {w : Cond} (h : w ∈ k2_sels lw_privs) (hg : goodWord w = true) : w ∈ TT := List.mem_filter.mpr ⟨List.mem_append_left _ h, hg⟩
theorem tt_1 {w : Cond} (h : w ∈ tables_1_1) (hg : goodWord w = true) : w ∈ TT := List.mem_filter.mpr ⟨List.mem_append_right _ (show w ∈ tables_1 from List.mem_append_left _ h), hg⟩
theorem tt_2 {w : Cond} (h : w ∈ tables_1_2) (hg : goodWord w = true) : w ∈ TT := List.mem_filter.mpr ⟨List.mem_append_right _ (show w ∈ tables_1 from List.mem_append_right _ (List.mem_append_left _ h)), hg⟩
theorem tt_3 {w : Cond} (h : w ∈ tables_1_3) (hg : goodWord w = true) : w ∈ TT := List.mem_filter.mpr ⟨List.mem_append_right _ (show w ∈ tables_1 from List.mem_append_right _ (List.mem_append_right _ (h))), hg⟩
theorem qn_L : Cond.initialized RL ∈ TT := tt_1 (List.mem_of_getElem? (i := 0) rfl) rfl
theorem qn_X5 : Cond.initialized RX5 ∈ TT := tt_1 (List.mem_of_getElem? (i := 1) rfl) rfl
theorem qn_X0 : Cond.initialized RX0 ∈ TT := tt_1 (List.mem_of_getElem? (i := 2) rfl) rfl
theorem qn_X4 : Cond.initialized RX4 ∈ TT := tt_1 (List.mem_of_getElem? (i := 3) rfl) rfl
theorem qn_X3 : Cond.initialized RX3 ∈ TT := tt_1 (List.mem_of_getElem? (i := 4) rfl) rfl
theorem qn_X2 : Cond.initialized RX2 ∈ TT := tt_1 (List.mem_of_getElem? (i := 5) rfl) rfl
theorem qn_X1 : Cond.initialized RX1 ∈ TT := tt_1 (List.mem_of_getElem? (i := 6) rfl) rfl
theorem qn_Throwable : Cond.initialized "java/lang/Throwable" ∈ TT := tt_1 (List.mem_of_getElem? (i := 7) rfl) rfl
theorem qn_Exception : Cond.initialized "java/lang/Exception" ∈ TT := tt_1 (List.mem_of_getElem? (i := 8) rfl) rfl
theorem qn_RuntimeException : Cond.initialized "java/lang/RuntimeException" ∈ TT := tt_1 (List.mem_of_getElem? (i := 9) rfl) rfl
theorem qn_IllegalStateException : Cond.initialized "java/lang/IllegalStateException" ∈ TT := tt_1 (List.mem_of_getElem? (i := 10) rfl) rfl
theorem qn_J9 : Cond.initialized "java/lang/Math" ∈ TT := tt_1 (List.mem_of_getElem? (i := 11) rfl) rfl
theorem qn_IndexOutOfBoundsException : Cond.initialized "java/lang/IndexOutOfBoundsException" ∈ TT := tt_1 (List.mem_of_getElem? (i := 12) rfl) rfl
theorem qn_IllegalArgumentException : Cond.initialized "java/lang/IllegalArgumentException" ∈ TT := tt_1 (List.mem_of_getElem? (i := 13) rfl) rfl
theorem qk_L_31 : Cond.classLink RL 31 RX5 ∈ TT := tt_1 (List.mem_of_getElem? (i := 14) rfl) rfl
theorem qa_X5 : Cond.instantiable RX5 3 ∈ TT := tt_1 (List.mem_of_getElem? (i := 15) rfl) rfl
theorem qm_L_88 : Cond.methodLink RL 88 yX5_init ∈ TT := tt_1 (List.mem_of_getElem? (i := 16) rfl) rfl
theorem qi_X5_init : Cond.instanceMethod yX5_init ∈ TT := tt_1 (List.mem_of_getElem? (i := 17) rfl) rfl
theorem qc_X5_init : Cond.code yX5_init cX5_init 1 none ∈ TT := tt_1 (List.mem_of_getElem? (i := 18) rfl) rfl
theorem qm_X5_1 : Cond.methodLink RX5 1 objectInit ∈ TT := tt_1 (List.mem_of_getElem? (i := 19) rfl) rfl
theorem qi_objinit : Cond.instanceMethod objectInit ∈ TT := tt_1 (List.mem_of_getElem? (i := 20) rfl) rfl
theorem qc_objinit : Cond.code objectInit ⟨#[0xb1]⟩ 1 none ∈ TT := tt_1 (List.mem_of_getElem? (i := 21) rfl) rfl
theorem qk_X5_7 : Cond.classLink RX5 7 RX0 ∈ TT := tt_1 (List.mem_of_getElem? (i := 22) rfl) rfl
theorem qa_X0 : Cond.instantiable RX0 9 ∈ TT := tt_1 (List.mem_of_getElem? (i := 23) rfl) rfl
theorem qm_X5_9 : Cond.methodLink RX5 9 yX0_init ∈ TT := tt_1 (List.mem_of_getElem? (i := 24) rfl) rfl
theorem qi_X0_init : Cond.instanceMethod yX0_init ∈ TT := tt_1 (List.mem_of_getElem? (i := 25) rfl) rfl
theorem qc_X0_init : Cond.code yX0_init cX0_init 2 none ∈ TT := tt_1 (List.mem_of_getElem? (i := 26) rfl) rfl
theorem qm_X0_3 : Cond.methodLink RX0 3 objectInit ∈ TT := tt_1 (List.mem_of_getElem? (i := 27) rfl) rfl
theorem qk_X0_9 : Cond.classLink RX0 9 RX4 ∈ TT := tt_1 (List.mem_of_getElem? (i := 28) rfl) rfl
theorem qa_X4 : Cond.instantiable RX4 13 ∈ TT := tt_1 (List.mem_of_getElem? (i := 30) rfl) rfl
theorem qm_X0_17 : Cond.methodLink RX0 17 yX4_init ∈ TT := tt_1 (List.mem_of_getElem? (i := 31) rfl) rfl
theorem qi_X4_init : Cond.instanceMethod yX4_init ∈ TT := tt_1 (List.mem_of_getElem? (i := 32) rfl) rfl
theorem qc_X4_init : Cond.code yX4_init cX4_init 1 none ∈ TT := tt_1 (List.mem_of_getElem? (i := 33) rfl) rfl
theorem qm_X4_3 : Cond.methodLink RX4 3 objectInit ∈ TT := tt_1 (List.mem_of_getElem? (i := 34) rfl) rfl
theorem qf_X4_9 : Cond.fieldLink RX4 9 "RipeHours$Member" "practice" "[I" ∈ TT := tt_1 (List.mem_of_getElem? (i := 35) rfl) rfl
theorem qf_X5_212 : Cond.fieldLink RX5 212 "RipeHours$Member" "practice" "[I" ∈ TT := tt_1 (List.mem_of_getElem? (i := 36) rfl) rfl
theorem qf_X4_15 : Cond.fieldLink RX4 15 "RipeHours$Member" "isThere" "Z" ∈ TT := tt_1 (List.mem_of_getElem? (i := 37) rfl) rfl
theorem qf_X5_62 : Cond.fieldLink RX5 62 "RipeHours$Member" "isThere" "Z" ∈ TT := tt_1 (List.mem_of_getElem? (i := 38) rfl) rfl
theorem qf_X0_51 : Cond.fieldLink RX0 51 "RipeHours$Member" "isThere" "Z" ∈ TT := tt_1 (List.mem_of_getElem? (i := 39) rfl) rfl
theorem qf_X4_19 : Cond.fieldLink RX4 19 "RipeHours$Member" "isBusy" "Z" ∈ TT := tt_1 (List.mem_of_getElem? (i := 40) rfl) rfl
theorem qf_X0_100 : Cond.fieldLink RX0 100 "RipeHours$Member" "isBusy" "Z" ∈ TT := tt_1 (List.mem_of_getElem? (i := 41) rfl) rfl
theorem qf_X4_22 : Cond.fieldLink RX4 22 "RipeHours$Member" "balance" "I" ∈ TT := tt_1 (List.mem_of_getElem? (i := 42) rfl) rfl
theorem qf_X5_68 : Cond.fieldLink RX5 68 "RipeHours$Member" "balance" "I" ∈ TT := tt_1 (List.mem_of_getElem? (i := 43) rfl) rfl
theorem qf_X0_55 : Cond.fieldLink RX0 55 "RipeHours$Member" "balance" "I" ∈ TT := tt_1 (List.mem_of_getElem? (i := 44) rfl) rfl
theorem qf_X4_26 : Cond.fieldLink RX4 26 "RipeHours$Member" "loan" "I" ∈ TT := tt_1 (List.mem_of_getElem? (i := 45) rfl) rfl
theorem qf_X0_58 : Cond.fieldLink RX0 58 "RipeHours$Member" "loan" "I" ∈ TT := tt_1 (List.mem_of_getElem? (i := 46) rfl) rfl
theorem qf_X4_29 : Cond.fieldLink RX4 29 "RipeHours$Member" "idleWeeks" "I" ∈ TT := tt_1 (List.mem_of_getElem? (i := 47) rfl) rfl
theorem qf_X0_137 : Cond.fieldLink RX0 137 "RipeHours$Member" "idleWeeks" "I" ∈ TT := tt_1 (List.mem_of_getElem? (i := 48) rfl) rfl
theorem qf_X4_32 : Cond.fieldLink RX4 32 "RipeHours$Member" "minutesGiven" "I" ∈ TT := tt_1 (List.mem_of_getElem? (i := 49) rfl) rfl
theorem qf_X0_106 : Cond.fieldLink RX0 106 "RipeHours$Member" "minutesGiven" "I" ∈ TT := tt_1 (List.mem_of_getElem? (i := 50) rfl) rfl
theorem qf_X4_35 : Cond.fieldLink RX4 35 "RipeHours$Member" "minutesTaken" "I" ∈ TT := tt_1 (List.mem_of_getElem? (i := 51) rfl) rfl
theorem qf_X0_97 : Cond.fieldLink RX0 97 "RipeHours$Member" "minutesTaken" "I" ∈ TT := tt_1 (List.mem_of_getElem? (i := 52) rfl) rfl
theorem qf_X4_38 : Cond.fieldLink RX4 38 "RipeHours$Member" "earned" "I" ∈ TT := tt_1 (List.mem_of_getElem? (i := 53) rfl) rfl
theorem qf_X0_103 : Cond.fieldLink RX0 103 "RipeHours$Member" "earned" "I" ∈ TT := tt_1 (List.mem_of_getElem? (i := 54) rfl) rfl
theorem qf_X4_41 : Cond.fieldLink RX4 41 "RipeHours$Member" "paid" "I" ∈ TT := tt_1 (List.mem_of_getElem? (i := 55) rfl) rfl
theorem qf_X0_94 : Cond.fieldLink RX0 94 "RipeHours$Member" "paid" "I" ∈ TT := tt_1 (List.mem_of_getElem? (i := 56) rfl) rfl
theorem qf_X4_44 : Cond.fieldLink RX4 44 "RipeHours$Member" "decayed" "I" ∈ TT := tt_1 (List.mem_of_getElem? (i := 57) rfl) rfl
theorem qf_X0_143 : Cond.fieldLink RX0 143 "RipeHours$Member" "decayed" "I" ∈ TT := tt_1 (List.mem_of_getElem? (i := 58) rfl) rfl
theorem qf_X4_47 : Cond.fieldLink RX4 47 "RipeHours$Member" "forgiven" "I" ∈ TT := tt_1 (List.mem_of_getElem? (i := 59) rfl) rfl
theorem qf_X0_162 : Cond.fieldLink RX0 162 "RipeHours$Member" "forgiven" "I" ∈ TT := tt_1 (List.mem_of_getElem? (i := 60) rfl) rfl
theorem qf_X4_50 : Cond.fieldLink RX4 50 "RipeHours$Member" "ballot" "I" ∈ TT := tt_1 (List.mem_of_getElem? (i := 61) rfl) rfl
theorem qf_X0_65 : Cond.fieldLink RX0 65 "RipeHours$Member" "ballot" "I" ∈ TT := tt_1 (List.mem_of_getElem? (i := 62) rfl) rfl
theorem qf_X5_155 : Cond.fieldLink RX5 155 "RipeHours$Member" "ballot" "I" ∈ TT := tt_1 (List.mem_of_getElem? (i := 63) rfl) rfl
theorem qy_X4_practice : Cond.laysFinal RX4 "RipeHours$Member" "practice" "[I" ∈ TT := tt_1 (List.mem_of_getElem? (i := 64) rfl) rfl
theorem qy_X4_isThere : Cond.lays RX4 "RipeHours$Member" "isThere" "Z" ∈ TT := tt_1 (List.mem_of_getElem? (i := 66) rfl) rfl
theorem qy_X4_isBusy : Cond.lays RX4 "RipeHours$Member" "isBusy" "Z" ∈ TT := tt_1 (List.mem_of_getElem? (i := 68) rfl) rfl
theorem qy_X4_balance : Cond.lays RX4 "RipeHours$Member" "balance" "I" ∈ TT := tt_1 (List.mem_of_getElem? (i := 70) rfl) rfl
theorem qy_X4_loan : Cond.lays RX4 "RipeHours$Member" "loan" "I" ∈ TT := tt_1 (List.mem_of_getElem? (i := 72) rfl) rfl
theorem qy_X4_idleWeeks : Cond.lays RX4 "RipeHours$Member" "idleWeeks" "I" ∈ TT := tt_1 (List.mem_of_getElem? (i := 74) rfl) rfl
theorem qy_X4_minutesGiven : Cond.lays RX4 "RipeHours$Member" "minutesGiven" "I" ∈ TT := tt_1 (List.mem_of_getElem? (i := 76) rfl) rfl
theorem qy_X4_minutesTaken : Cond.lays RX4 "RipeHours$Member" "minutesTaken" "I" ∈ TT := tt_1 (List.mem_of_getElem? (i := 78) rfl) rfl
theorem qy_X4_earned : Cond.lays RX4 "RipeHours$Member" "earned" "I" ∈ TT := tt_1 (List.mem_of_getElem? (i := 80) rfl) rfl
theorem qy_X4_paid : Cond.lays RX4 "RipeHours$Member" "paid" "I" ∈ TT := tt_1 (List.mem_of_getElem? (i := 82) rfl) rfl
theorem qy_X4_decayed : Cond.lays RX4 "RipeHours$Member" "decayed" "I" ∈ TT := tt_1 (List.mem_of_getElem? (i := 84) rfl) rfl
theorem qy_X4_forgiven : Cond.lays RX4 "RipeHours$Member" "forgiven" "I" ∈ TT := tt_1 (List.mem_of_getElem? (i := 86) rfl) rfl
theorem qy_X4_ballot : Cond.lays RX4 "RipeHours$Member" "ballot" "I" ∈ TT := tt_1 (List.mem_of_getElem? (i := 88) rfl) rfl
theorem qr_int : Cond.arrayClass .int ∈ TT := tt_1 (List.mem_of_getElem? (i := 91) rfl) rfl
theorem qf_X0_11 : Cond.fieldLink RX0 11 "RipeHours$Bank" "members" "[LRipeHours$Member;" ∈ TT := tt_1 (List.mem_of_getElem? (i := 94) rfl) rfl
theorem qf_X5_58 : Cond.fieldLink RX5 58 "RipeHours$Bank" "members" "[LRipeHours$Member;" ∈ TT := tt_1 (List.mem_of_getElem? (i := 95) rfl) rfl
theorem qf_X0_18 : Cond.fieldLink RX0 18 "RipeHours$Bank" "settings" "[I" ∈ TT := tt_1 (List.mem_of_getElem? (i := 96) rfl) rfl
theorem qf_X5_133 : Cond.fieldLink RX5 133 "RipeHours$Bank" "settings" "[I" ∈ TT := tt_1 (List.mem_of_getElem? (i := 97) rfl) rfl
theorem qf_X5_30 : Cond.fieldLink RX5 30 "RipeHours$Bank" "came" "I" ∈ TT := tt_1 (List.mem_of_getElem? (i := 98) rfl) rfl
theorem qf_X0_33 : Cond.fieldLink RX0 33 "RipeHours$Bank" "came" "I" ∈ TT := tt_1 (List.mem_of_getElem? (i := 99) rfl) rfl
theorem qf_X0_36 : Cond.fieldLink RX0 36 "RipeHours$Bank" "common" "I" ∈ TT := tt_1 (List.mem_of_getElem? (i := 100) rfl) rfl
theorem qf_X5_273 : Cond.fieldLink RX5 273 "RipeHours$Bank" "common" "I" ∈ TT := tt_1 (List.mem_of_getElem? (i := 101) rfl) rfl
theorem qf_X0_39 : Cond.fieldLink RX0 39 "RipeHours$Bank" "forgiven" "I" ∈ TT := tt_1 (List.mem_of_getElem? (i := 102) rfl) rfl
theorem qf_X5_276 : Cond.fieldLink RX5 276 "RipeHours$Bank" "forgiven" "I" ∈ TT := tt_1 (List.mem_of_getElem? (i := 103) rfl) rfl
theorem qf_X0_42 : Cond.fieldLink RX0 42 "RipeHours$Bank" "week" "I" ∈ TT := tt_1 (List.mem_of_getElem? (i := 104) rfl) rfl
theorem qf_X5_114 : Cond.fieldLink RX5 114 "RipeHours$Bank" "week" "I" ∈ TT := tt_1 (List.mem_of_getElem? (i := 105) rfl) rfl
theorem qf_X0_45 : Cond.fieldLink RX0 45 "RipeHours$Bank" "deals" "I" ∈ TT := tt_1 (List.mem_of_getElem? (i := 106) rfl) rfl
theorem qf_X5_279 : Cond.fieldLink RX5 279 "RipeHours$Bank" "deals" "I" ∈ TT := tt_1 (List.mem_of_getElem? (i := 107) rfl) rfl
theorem qf_X0_25 : Cond.fieldLink RX0 25 "RipeHours$Bank" "debtor" "I" ∈ TT := tt_1 (List.mem_of_getElem? (i := 108) rfl) rfl
theorem qf_X5_291 : Cond.fieldLink RX5 291 "RipeHours$Bank" "debtor" "I" ∈ TT := tt_1 (List.mem_of_getElem? (i := 109) rfl) rfl
theorem qf_X0_48 : Cond.fieldLink RX0 48 "RipeHours$Bank" "motionMinutes" "I" ∈ TT := tt_1 (List.mem_of_getElem? (i := 110) rfl) rfl
theorem qf_X5_294 : Cond.fieldLink RX5 294 "RipeHours$Bank" "motionMinutes" "I" ∈ TT := tt_1 (List.mem_of_getElem? (i := 111) rfl) rfl
theorem qy_X0_members : Cond.laysFinal RX0 "RipeHours$Bank" "members" "[LRipeHours$Member;" ∈ TT := tt_1 (List.mem_of_getElem? (i := 112) rfl) rfl
theorem qy_X0_settings : Cond.laysFinal RX0 "RipeHours$Bank" "settings" "[I" ∈ TT := tt_1 (List.mem_of_getElem? (i := 114) rfl) rfl
theorem qy_X0_came : Cond.lays RX0 "RipeHours$Bank" "came" "I" ∈ TT := tt_1 (List.mem_of_getElem? (i := 116) rfl) rfl
theorem qy_X0_common : Cond.lays RX0 "RipeHours$Bank" "common" "I" ∈ TT := tt_1 (List.mem_of_getElem? (i := 118) rfl) rfl
theorem qy_X0_forgiven : Cond.lays RX0 "RipeHours$Bank" "forgiven" "I" ∈ TT := tt_1 (List.mem_of_getElem? (i := 120) rfl) rfl
theorem qy_X0_week : Cond.lays RX0 "RipeHours$Bank" "week" "I" ∈ TT := tt_1 (List.mem_of_getElem? (i := 122) rfl) rfl
theorem qy_X0_deals : Cond.lays RX0 "RipeHours$Bank" "deals" "I" ∈ TT := tt_1 (List.mem_of_getElem? (i := 124) rfl) rfl
theorem qy_X0_debtor : Cond.lays RX0 "RipeHours$Bank" "debtor" "I" ∈ TT := tt_1 (List.mem_of_getElem? (i := 126) rfl) rfl
theorem qy_X0_motionMinutes : Cond.lays RX0 "RipeHours$Bank" "motionMinutes" "I" ∈ TT := tt_1 (List.mem_of_getElem? (i := 128) rfl) rfl
theorem qk_X5_16 : Cond.classLink RX5 16 RX3 ∈ TT := tt_1 (List.mem_of_getElem? (i := 131) rfl) rfl
theorem qa_X3 : Cond.instantiable RX3 3 ∈ TT := tt_1 (List.mem_of_getElem? (i := 132) rfl) rfl
theorem qm_X5_18 : Cond.methodLink RX5 18 yX3_init ∈ TT := tt_1 (List.mem_of_getElem? (i := 133) rfl) rfl
theorem qi_X3_init : Cond.instanceMethod yX3_init ∈ TT := tt_1 (List.mem_of_getElem? (i := 134) rfl) rfl
theorem qc_X3_init : Cond.code yX3_init cX3_init 2 none ∈ TT := tt_1 (List.mem_of_getElem? (i := 135) rfl) rfl
theorem qm_X3_3 : Cond.methodLink RX3 3 objectInit ∈ TT := tt_1 (List.mem_of_getElem? (i := 136) rfl) rfl
theorem qk_X3_9 : Cond.classLink RX3 9 RX0 ∈ TT := tt_1 (List.mem_of_getElem? (i := 137) rfl) rfl
theorem qm_X3_17 : Cond.methodLink RX3 17 yX0_init ∈ TT := tt_1 (List.mem_of_getElem? (i := 139) rfl) rfl
theorem qf_X3_11 : Cond.fieldLink RX3 11 "RipeHours$History" "states" "[LRipeHours$Bank;" ∈ TT := tt_1 (List.mem_of_getElem? (i := 140) rfl) rfl
theorem qf_X3_18 : Cond.fieldLink RX3 18 "RipeHours$History" "next" "I" ∈ TT := tt_1 (List.mem_of_getElem? (i := 141) rfl) rfl
theorem qf_X3_26 : Cond.fieldLink RX3 26 "RipeHours$History" "kept" "I" ∈ TT := tt_1 (List.mem_of_getElem? (i := 142) rfl) rfl
theorem qf_X5_196 : Cond.fieldLink RX5 196 "RipeHours$History" "kept" "I" ∈ TT := tt_1 (List.mem_of_getElem? (i := 143) rfl) rfl
theorem qy_X3_states : Cond.laysFinal RX3 "RipeHours$History" "states" "[LRipeHours$Bank;" ∈ TT := tt_1 (List.mem_of_getElem? (i := 144) rfl) rfl
theorem qy_X3_next : Cond.lays RX3 "RipeHours$History" "next" "I" ∈ TT := tt_1 (List.mem_of_getElem? (i := 146) rfl) rfl
theorem qy_X3_kept : Cond.lays RX3 "RipeHours$History" "kept" "I" ∈ TT := tt_1 (List.mem_of_getElem? (i := 148) rfl) rfl
theorem qk_X5_23 : Cond.classLink RX5 23 RX2 ∈ TT := tt_1 (List.mem_of_getElem? (i := 151) rfl) rfl
theorem qa_X2 : Cond.instantiable RX2 3 ∈ TT := tt_1 (List.mem_of_getElem? (i := 152) rfl) rfl
theorem qm_X5_25 : Cond.methodLink RX5 25 yX2_init ∈ TT := tt_1 (List.mem_of_getElem? (i := 153) rfl) rfl
theorem qi_X2_init : Cond.instanceMethod yX2_init ∈ TT := tt_1 (List.mem_of_getElem? (i := 154) rfl) rfl
theorem qc_X2_init : Cond.code yX2_init cX2_init 1 none ∈ TT := tt_1 (List.mem_of_getElem? (i := 155) rfl) rfl
theorem qm_X2_3 : Cond.methodLink RX2 3 objectInit ∈ TT := tt_1 (List.mem_of_getElem? (i := 156) rfl) rfl
theorem qk_X2_15 : Cond.classLink RX2 15 RX1 ∈ TT := tt_1 (List.mem_of_getElem? (i := 157) rfl) rfl
theorem qa_X1 : Cond.instantiable RX1 5 ∈ TT := tt_1 (List.mem_of_getElem? (i := 158) rfl) rfl
theorem qm_X2_17 : Cond.methodLink RX2 17 yX1_init ∈ TT := tt_1 (List.mem_of_getElem? (i := 159) rfl) rfl
theorem qi_X1_init : Cond.instanceMethod yX1_init ∈ TT := tt_1 (List.mem_of_getElem? (i := 160) rfl) rfl
theorem qc_X1_init : Cond.code yX1_init cX1_init 1 none ∈ TT := tt_1 (List.mem_of_getElem? (i := 161) rfl) rfl
theorem qm_X1_3 : Cond.methodLink RX1 3 objectInit ∈ TT := tt_1 (List.mem_of_getElem? (i := 162) rfl) rfl
theorem qf_X1_11 : Cond.fieldLink RX1 11 "RipeHours$DealReader" "place" "I" ∈ TT := tt_1 (List.mem_of_getElem? (i := 163) rfl) rfl
theorem qy_X1_place : Cond.lays RX1 "RipeHours$DealReader" "place" "I" ∈ TT := tt_1 (List.mem_of_getElem? (i := 164) rfl) rfl
theorem qy_X1_giver : Cond.lays RX1 "RipeHours$DealReader" "giver" "I" ∈ TT := tt_1 (List.mem_of_getElem? (i := 166) rfl) rfl
theorem qy_X1_taker : Cond.lays RX1 "RipeHours$DealReader" "taker" "I" ∈ TT := tt_1 (List.mem_of_getElem? (i := 168) rfl) rfl
theorem qy_X1_skill : Cond.lays RX1 "RipeHours$DealReader" "skill" "I" ∈ TT := tt_1 (List.mem_of_getElem? (i := 170) rfl) rfl
theorem qy_X1_minutes : Cond.lays RX1 "RipeHours$DealReader" "minutes" "I" ∈ TT := tt_1 (List.mem_of_getElem? (i := 172) rfl) rfl
theorem qr_char : Cond.arrayClass .char ∈ TT := tt_1 (List.mem_of_getElem? (i := 175) rfl) rfl
theorem qf_X2_9 : Cond.fieldLink RX2 9 "RipeHours$DealText" "signs" "[C" ∈ TT := tt_1 (List.mem_of_getElem? (i := 176) rfl) rfl
theorem qf_X2_18 : Cond.fieldLink RX2 18 "RipeHours$DealText" "reader" "LRipeHours$DealReader;" ∈ TT := tt_1 (List.mem_of_getElem? (i := 177) rfl) rfl
theorem qy_X2_signs : Cond.laysFinal RX2 "RipeHours$DealText" "signs" "[C" ∈ TT := tt_1 (List.mem_of_getElem? (i := 178) rfl) rfl
theorem qy_X2_reader : Cond.laysFinal RX2 "RipeHours$DealText" "reader" "LRipeHours$DealReader;" ∈ TT := tt_1 (List.mem_of_getElem? (i := 180) rfl) rfl
theorem qy_X2_size : Cond.lays RX2 "RipeHours$DealText" "size" "I" ∈ TT := tt_1 (List.mem_of_getElem? (i := 182) rfl) rfl
theorem qf_X5_10 : Cond.fieldLink RX5 10 "RipeHours" "bank" "LRipeHours$Bank;" ∈ TT := tt_1 (List.mem_of_getElem? (i := 185) rfl) rfl
theorem qf_X5_19 : Cond.fieldLink RX5 19 "RipeHours" "history" "LRipeHours$History;" ∈ TT := tt_1 (List.mem_of_getElem? (i := 186) rfl) rfl
theorem qf_X5_26 : Cond.fieldLink RX5 26 "RipeHours" "text" "LRipeHours$DealText;" ∈ TT := tt_1 (List.mem_of_getElem? (i := 187) rfl) rfl
theorem qy_X5_bank : Cond.laysFinal RX5 "RipeHours" "bank" "LRipeHours$Bank;" ∈ TT := tt_1 (List.mem_of_getElem? (i := 188) rfl) rfl
theorem qy_X5_history : Cond.laysFinal RX5 "RipeHours" "history" "LRipeHours$History;" ∈ TT := tt_1 (List.mem_of_getElem? (i := 190) rfl) rfl
theorem qy_X5_text : Cond.laysFinal RX5 "RipeHours" "text" "LRipeHours$DealText;" ∈ TT := tt_1 (List.mem_of_getElem? (i := 192) rfl) rfl
theorem qm_L_89 : Cond.methodLink RL 89 yL_cell ∈ TT := tt_1 (List.mem_of_getElem? (i := 195) rfl) rfl
theorem qt_L_cell : Cond.static yL_cell ∈ TT := tt_1 (List.mem_of_getElem? (i := 196) rfl) rfl
theorem qc_L_cell : Cond.code yL_cell cL_cell 2 (some .int) ∈ TT := tt_1 (List.mem_of_getElem? (i := 197) rfl) rfl
theorem qo_L_7 : Cond.constant RL 7 (706717907) ∈ TT := tt_1 (List.mem_of_getElem? (i := 198) rfl) rfl
theorem qm_L_26 : Cond.methodLink RL 26 yL_at ∈ TT := tt_1 (List.mem_of_getElem? (i := 199) rfl) rfl
theorem qt_L_at : Cond.static yL_at ∈ TT := tt_1 (List.mem_of_getElem? (i := 200) rfl) rfl
theorem qc_L_at : Cond.code yL_at cL_at 2 (some .int) ∈ TT := tt_1 (List.mem_of_getElem? (i := 201) rfl) rfl
theorem qm_L_93 : Cond.methodLink RL 93 yL_members ∈ TT := tt_1 (List.mem_of_getElem? (i := 202) rfl) rfl
theorem qt_L_members : Cond.static yL_members ∈ TT := tt_1 (List.mem_of_getElem? (i := 203) rfl) rfl
theorem qc_L_members : Cond.code yL_members cL_members 12 (some .boolean) ∈ TT := tt_1 (List.mem_of_getElem? (i := 204) rfl) rfl
theorem qm_L_30 : Cond.methodLink RL 30 yX5_join ∈ TT := tt_1 (List.mem_of_getElem? (i := 205) rfl) rfl
theorem qi_X5_join : Cond.instanceMethod yX5_join ∈ TT := tt_1 (List.mem_of_getElem? (i := 206) rfl) rfl
theorem qs_X5_join : Cond.selects RX5 yX5_join yX5_join ∈ TT := tt_1 (List.mem_of_getElem? (i := 207) rfl) rfl
theorem qc_X5_join : Cond.code yX5_join cX5_join 1 (some .int) ∈ TT := tt_1 (List.mem_of_getElem? (i := 208) rfl) rfl
theorem qk_X5_34 : Cond.classLink RX5 34 "java/lang/IllegalStateException" ∈ TT := tt_1 (List.mem_of_getElem? (i := 209) rfl) rfl
theorem qr_byte : Cond.arrayClass .byte ∈ TT := tt_2 (List.mem_of_getElem? (i := 36) rfl) rfl
theorem qm_X5_41 : Cond.methodLink RX5 41 yX3_keep ∈ TT := tt_2 (List.mem_of_getElem? (i := 37) rfl) rfl
theorem qi_X3_keep : Cond.instanceMethod yX3_keep ∈ TT := tt_2 (List.mem_of_getElem? (i := 38) rfl) rfl
theorem qs_X3_keep : Cond.selects RX3 yX3_keep yX3_keep ∈ TT := tt_2 (List.mem_of_getElem? (i := 39) rfl) rfl
theorem qc_X3_keep : Cond.code yX3_keep cX3_keep 2 none ∈ TT := tt_2 (List.mem_of_getElem? (i := 40) rfl) rfl
theorem qm_X3_22 : Cond.methodLink RX3 22 yX0_copyFrom ∈ TT := tt_2 (List.mem_of_getElem? (i := 41) rfl) rfl
theorem qi_X0_copyFrom : Cond.instanceMethod yX0_copyFrom ∈ TT := tt_2 (List.mem_of_getElem? (i := 42) rfl) rfl
theorem qs_X0_copyFrom : Cond.selects RX0 yX0_copyFrom yX0_copyFrom ∈ TT := tt_2 (List.mem_of_getElem? (i := 43) rfl) rfl
theorem qc_X0_copyFrom : Cond.code yX0_copyFrom cX0_copyFrom 3 none ∈ TT := tt_2 (List.mem_of_getElem? (i := 44) rfl) rfl
theorem qm_X0_29 : Cond.methodLink RX0 29 yX4_copyFrom ∈ TT := tt_2 (List.mem_of_getElem? (i := 45) rfl) rfl
theorem qi_X4_copyFrom : Cond.instanceMethod yX4_copyFrom ∈ TT := tt_2 (List.mem_of_getElem? (i := 46) rfl) rfl
theorem qs_X4_copyFrom : Cond.selects RX4 yX4_copyFrom yX4_copyFrom ∈ TT := tt_2 (List.mem_of_getElem? (i := 47) rfl) rfl
theorem qc_X4_copyFrom : Cond.code yX4_copyFrom cX4_copyFrom 3 none ∈ TT := tt_2 (List.mem_of_getElem? (i := 48) rfl) rfl
theorem qm_X3_29 : Cond.methodLink RX3 29 Lib.Math.min.name ∈ TT := tt_2 (List.mem_of_getElem? (i := 49) rfl) rfl
theorem qt_Mmin : Cond.static Lib.Math.min.name ∈ TT := tt_2 (List.mem_of_getElem? (i := 50) rfl) rfl
theorem qc_Mmin : Cond.code Lib.Math.min.name Lib.Math.min.code 2 (some .int) ∈ TT := tt_2 (List.mem_of_getElem? (i := 51) rfl) rfl
theorem qm_X5_45 : Cond.methodLink RX5 45 yX0_admit ∈ TT := tt_2 (List.mem_of_getElem? (i := 52) rfl) rfl
theorem qi_X0_admit : Cond.instanceMethod yX0_admit ∈ TT := tt_2 (List.mem_of_getElem? (i := 53) rfl) rfl
theorem qs_X0_admit : Cond.selects RX0 yX0_admit yX0_admit ∈ TT := tt_2 (List.mem_of_getElem? (i := 54) rfl) rfl
theorem qc_X0_admit : Cond.code yX0_admit cX0_admit 3 (some .int) ∈ TT := tt_2 (List.mem_of_getElem? (i := 55) rfl) rfl
theorem qm_L_36 : Cond.methodLink RL 36 yL_can ∈ TT := tt_2 (List.mem_of_getElem? (i := 56) rfl) rfl
theorem qt_L_can : Cond.static yL_can ∈ TT := tt_2 (List.mem_of_getElem? (i := 57) rfl) rfl
theorem qc_L_can : Cond.code yL_can cL_can 6 (some .boolean) ∈ TT := tt_2 (List.mem_of_getElem? (i := 58) rfl) rfl
theorem qm_L_22 : Cond.methodLink RL 22 yL_value ∈ TT := tt_2 (List.mem_of_getElem? (i := 59) rfl) rfl
theorem qt_L_value : Cond.static yL_value ∈ TT := tt_2 (List.mem_of_getElem? (i := 60) rfl) rfl
theorem qc_L_value : Cond.code yL_value cL_value 5 (some .int) ∈ TT := tt_2 (List.mem_of_getElem? (i := 61) rfl) rfl
theorem qm_L_40 : Cond.methodLink RL 40 yX5_worth ∈ TT := tt_2 (List.mem_of_getElem? (i := 62) rfl) rfl
theorem qi_X5_worth : Cond.instanceMethod yX5_worth ∈ TT := tt_2 (List.mem_of_getElem? (i := 63) rfl) rfl
theorem qs_X5_worth : Cond.selects RX5 yX5_worth yX5_worth ∈ TT := tt_2 (List.mem_of_getElem? (i := 64) rfl) rfl
theorem qc_X5_worth : Cond.code yX5_worth cX5_worth 4 (some .int) ∈ TT := tt_2 (List.mem_of_getElem? (i := 65) rfl) rfl
theorem qm_X5_49 : Cond.methodLink RX5 49 yX0_isMember ∈ TT := tt_2 (List.mem_of_getElem? (i := 66) rfl) rfl
theorem qi_X0_isMember : Cond.instanceMethod yX0_isMember ∈ TT := tt_2 (List.mem_of_getElem? (i := 67) rfl) rfl
theorem qs_X0_isMember : Cond.selects RX0 yX0_isMember yX0_isMember ∈ TT := tt_2 (List.mem_of_getElem? (i := 68) rfl) rfl
theorem qc_X0_isMember : Cond.code yX0_isMember cX0_isMember 2 (some .boolean) ∈ TT := tt_2 (List.mem_of_getElem? (i := 69) rfl) rfl
theorem qm_X5_77 : Cond.methodLink RX5 77 yX5_isSkill ∈ TT := tt_2 (List.mem_of_getElem? (i := 70) rfl) rfl
theorem qt_X5_isSkill : Cond.static yX5_isSkill ∈ TT := tt_2 (List.mem_of_getElem? (i := 71) rfl) rfl
theorem qc_X5_isSkill : Cond.code yX5_isSkill cX5_isSkill 1 (some .boolean) ∈ TT := tt_2 (List.mem_of_getElem? (i := 72) rfl) rfl
theorem qm_X5_100 : Cond.methodLink RX5 100 yX5_isWithin ∈ TT := tt_2 (List.mem_of_getElem? (i := 73) rfl) rfl
theorem qt_X5_isWithin : Cond.static yX5_isWithin ∈ TT := tt_2 (List.mem_of_getElem? (i := 74) rfl) rfl
theorem qc_X5_isWithin : Cond.code yX5_isWithin cX5_isWithin 3 (some .boolean) ∈ TT := tt_2 (List.mem_of_getElem? (i := 75) rfl) rfl
theorem qk_X5_53 : Cond.classLink RX5 53 "java/lang/IndexOutOfBoundsException" ∈ TT := tt_2 (List.mem_of_getElem? (i := 76) rfl) rfl
theorem qm_X5_82 : Cond.methodLink RX5 82 yX5_isDealMinutes ∈ TT := tt_2 (List.mem_of_getElem? (i := 92) rfl) rfl
theorem qt_X5_isDealMinutes : Cond.static yX5_isDealMinutes ∈ TT := tt_2 (List.mem_of_getElem? (i := 93) rfl) rfl
theorem qc_X5_isDealMinutes : Cond.code yX5_isDealMinutes cX5_isDealMinutes 1 (some .boolean) ∈ TT := tt_2 (List.mem_of_getElem? (i := 94) rfl) rfl
theorem qk_X5_85 : Cond.classLink RX5 85 "java/lang/IllegalArgumentException" ∈ TT := tt_2 (List.mem_of_getElem? (i := 95) rfl) rfl
theorem qm_X5_223 : Cond.methodLink RX5 223 yX4_dealValue ∈ TT := tt_2 (List.mem_of_getElem? (i := 111) rfl) rfl
theorem qi_X4_dealValue : Cond.instanceMethod yX4_dealValue ∈ TT := tt_2 (List.mem_of_getElem? (i := 112) rfl) rfl
theorem qs_X4_dealValue : Cond.selects RX4 yX4_dealValue yX4_dealValue ∈ TT := tt_2 (List.mem_of_getElem? (i := 113) rfl) rfl
theorem qc_X4_dealValue : Cond.code yX4_dealValue cX4_dealValue 3 (some .int) ∈ TT := tt_2 (List.mem_of_getElem? (i := 114) rfl) rfl
theorem qm_X4_63 : Cond.methodLink RX4 63 yX4_dealRate ∈ TT := tt_2 (List.mem_of_getElem? (i := 115) rfl) rfl
theorem qi_X4_dealRate : Cond.instanceMethod yX4_dealRate ∈ TT := tt_2 (List.mem_of_getElem? (i := 116) rfl) rfl
theorem qs_X4_dealRate : Cond.selects RX4 yX4_dealRate yX4_dealRate ∈ TT := tt_2 (List.mem_of_getElem? (i := 117) rfl) rfl
theorem qc_X4_dealRate : Cond.code yX4_dealRate cX4_dealRate 2 (some .int) ∈ TT := tt_2 (List.mem_of_getElem? (i := 118) rfl) rfl
theorem qm_X4_59 : Cond.methodLink RX4 59 yX4_ripeness ∈ TT := tt_2 (List.mem_of_getElem? (i := 119) rfl) rfl
theorem qi_X4_ripeness : Cond.instanceMethod yX4_ripeness ∈ TT := tt_2 (List.mem_of_getElem? (i := 120) rfl) rfl
theorem qs_X4_ripeness : Cond.selects RX4 yX4_ripeness yX4_ripeness ∈ TT := tt_2 (List.mem_of_getElem? (i := 121) rfl) rfl
theorem qc_X4_ripeness : Cond.code yX4_ripeness cX4_ripeness 2 (some .int) ∈ TT := tt_2 (List.mem_of_getElem? (i := 122) rfl) rfl
theorem qm_X4_53 : Cond.methodLink RX4 53 Lib.Math.min.name ∈ TT := tt_2 (List.mem_of_getElem? (i := 123) rfl) rfl
theorem qm_L_44 : Cond.methodLink RL 44 yX5_give ∈ TT := tt_2 (List.mem_of_getElem? (i := 124) rfl) rfl
theorem qi_X5_give : Cond.instanceMethod yX5_give ∈ TT := tt_2 (List.mem_of_getElem? (i := 125) rfl) rfl
theorem qs_X5_give : Cond.selects RX5 yX5_give yX5_give ∈ TT := tt_2 (List.mem_of_getElem? (i := 126) rfl) rfl
theorem qc_X5_give : Cond.code yX5_give cX5_give 5 (some .int) ∈ TT := tt_2 (List.mem_of_getElem? (i := 127) rfl) rfl
theorem qm_X5_90 : Cond.methodLink RX5 90 yX0_allowsDeal ∈ TT := tt_2 (List.mem_of_getElem? (i := 129) rfl) rfl
theorem qi_X0_allowsDeal : Cond.instanceMethod yX0_allowsDeal ∈ TT := tt_2 (List.mem_of_getElem? (i := 130) rfl) rfl
theorem qs_X0_allowsDeal : Cond.selects RX0 yX0_allowsDeal yX0_allowsDeal ∈ TT := tt_2 (List.mem_of_getElem? (i := 131) rfl) rfl
theorem qc_X0_allowsDeal : Cond.code yX0_allowsDeal cX0_allowsDeal 5 (some .boolean) ∈ TT := tt_2 (List.mem_of_getElem? (i := 132) rfl) rfl
theorem qm_X0_79 : Cond.methodLink RX0 79 yX0_isMember ∈ TT := tt_2 (List.mem_of_getElem? (i := 133) rfl) rfl
theorem qm_X0_83 : Cond.methodLink RX0 83 yX0_areBothThere ∈ TT := tt_2 (List.mem_of_getElem? (i := 134) rfl) rfl
theorem qi_X0_areBothThere : Cond.instanceMethod yX0_areBothThere ∈ TT := tt_2 (List.mem_of_getElem? (i := 135) rfl) rfl
theorem qs_X0_areBothThere : Cond.selects RX0 yX0_areBothThere yX0_areBothThere ∈ TT := tt_2 (List.mem_of_getElem? (i := 136) rfl) rfl
theorem qc_X0_areBothThere : Cond.code yX0_areBothThere cX0_areBothThere 3 (some .boolean) ∈ TT := tt_2 (List.mem_of_getElem? (i := 137) rfl) rfl
theorem qm_X0_87 : Cond.methodLink RX0 87 yX4_dealValue ∈ TT := tt_2 (List.mem_of_getElem? (i := 138) rfl) rfl
theorem qm_X0_91 : Cond.methodLink RX0 91 yX0_canPay ∈ TT := tt_2 (List.mem_of_getElem? (i := 139) rfl) rfl
theorem qi_X0_canPay : Cond.instanceMethod yX0_canPay ∈ TT := tt_2 (List.mem_of_getElem? (i := 140) rfl) rfl
theorem qs_X0_canPay : Cond.selects RX0 yX0_canPay yX0_canPay ∈ TT := tt_2 (List.mem_of_getElem? (i := 141) rfl) rfl
theorem qc_X0_canPay : Cond.code yX0_canPay cX0_canPay 3 (some .boolean) ∈ TT := tt_2 (List.mem_of_getElem? (i := 142) rfl) rfl
theorem qm_X5_96 : Cond.methodLink RX5 96 yX0_makeDeal ∈ TT := tt_2 (List.mem_of_getElem? (i := 144) rfl) rfl
theorem qi_X0_makeDeal : Cond.instanceMethod yX0_makeDeal ∈ TT := tt_2 (List.mem_of_getElem? (i := 145) rfl) rfl
theorem qs_X0_makeDeal : Cond.selects RX0 yX0_makeDeal yX0_makeDeal ∈ TT := tt_2 (List.mem_of_getElem? (i := 146) rfl) rfl
theorem qc_X0_makeDeal : Cond.code yX0_makeDeal cX0_makeDeal 8 (some .int) ∈ TT := tt_2 (List.mem_of_getElem? (i := 147) rfl) rfl
theorem qm_X0_109 : Cond.methodLink RX0 109 yX4_practise ∈ TT := tt_2 (List.mem_of_getElem? (i := 148) rfl) rfl
theorem qi_X4_practise : Cond.instanceMethod yX4_practise ∈ TT := tt_2 (List.mem_of_getElem? (i := 149) rfl) rfl
theorem qs_X4_practise : Cond.selects RX4 yX4_practise yX4_practise ∈ TT := tt_2 (List.mem_of_getElem? (i := 150) rfl) rfl
theorem qc_X4_practise : Cond.code yX4_practise cX4_practise 3 none ∈ TT := tt_2 (List.mem_of_getElem? (i := 151) rfl) rfl
theorem qm_X0_112 : Cond.methodLink RX0 112 yX0_payLoanBack ∈ TT := tt_2 (List.mem_of_getElem? (i := 152) rfl) rfl
theorem qi_X0_payLoanBack : Cond.instanceMethod yX0_payLoanBack ∈ TT := tt_2 (List.mem_of_getElem? (i := 153) rfl) rfl
theorem qs_X0_payLoanBack : Cond.selects RX0 yX0_payLoanBack yX0_payLoanBack ∈ TT := tt_2 (List.mem_of_getElem? (i := 154) rfl) rfl
theorem qc_X0_payLoanBack : Cond.code yX0_payLoanBack cX0_payLoanBack 4 none ∈ TT := tt_2 (List.mem_of_getElem? (i := 155) rfl) rfl
theorem qm_X0_115 : Cond.methodLink RX0 115 Lib.Math.min.name ∈ TT := tt_2 (List.mem_of_getElem? (i := 156) rfl) rfl
theorem qm_X0_61 : Cond.methodLink RX0 61 yX0_payToCommon ∈ TT := tt_2 (List.mem_of_getElem? (i := 157) rfl) rfl
theorem qi_X0_payToCommon : Cond.instanceMethod yX0_payToCommon ∈ TT := tt_2 (List.mem_of_getElem? (i := 158) rfl) rfl
theorem qs_X0_payToCommon : Cond.selects RX0 yX0_payToCommon yX0_payToCommon ∈ TT := tt_2 (List.mem_of_getElem? (i := 159) rfl) rfl
theorem qc_X0_payToCommon : Cond.code yX0_payToCommon cX0_payToCommon 3 none ∈ TT := tt_2 (List.mem_of_getElem? (i := 160) rfl) rfl
theorem qm_L_18 : Cond.methodLink RL 18 yL_end ∈ TT := tt_2 (List.mem_of_getElem? (i := 161) rfl) rfl
theorem qt_L_end : Cond.static yL_end ∈ TT := tt_2 (List.mem_of_getElem? (i := 162) rfl) rfl
theorem qc_L_end : Cond.code yL_end cL_end 2 none ∈ TT := tt_2 (List.mem_of_getElem? (i := 163) rfl) rfl
theorem qm_L_48 : Cond.methodLink RL 48 yL_look ∈ TT := tt_2 (List.mem_of_getElem? (i := 164) rfl) rfl
theorem qt_L_look : Cond.static yL_look ∈ TT := tt_2 (List.mem_of_getElem? (i := 165) rfl) rfl
theorem qc_L_look : Cond.code yL_look cL_look 3 (some .int) ∈ TT := tt_2 (List.mem_of_getElem? (i := 166) rfl) rfl
theorem qm_L_8 : Cond.methodLink RL 8 yL_there ∈ TT := tt_2 (List.mem_of_getElem? (i := 167) rfl) rfl
theorem qt_L_there : Cond.static yL_there ∈ TT := tt_2 (List.mem_of_getElem? (i := 168) rfl) rfl
theorem qc_L_there : Cond.code yL_there cL_there 4 (some .int) ∈ TT := tt_2 (List.mem_of_getElem? (i := 169) rfl) rfl
theorem qm_L_14 : Cond.methodLink RL 14 yL_ones ∈ TT := tt_2 (List.mem_of_getElem? (i := 170) rfl) rfl
theorem qt_L_ones : Cond.static yL_ones ∈ TT := tt_2 (List.mem_of_getElem? (i := 171) rfl) rfl
theorem qc_L_ones : Cond.code yL_ones cL_ones 1 (some .int) ∈ TT := tt_2 (List.mem_of_getElem? (i := 172) rfl) rfl
theorem qm_L_51 : Cond.methodLink RL 51 yX5_leave ∈ TT := tt_2 (List.mem_of_getElem? (i := 173) rfl) rfl
theorem qi_X5_leave : Cond.instanceMethod yX5_leave ∈ TT := tt_2 (List.mem_of_getElem? (i := 174) rfl) rfl
theorem qs_X5_leave : Cond.selects RX5 yX5_leave yX5_leave ∈ TT := tt_2 (List.mem_of_getElem? (i := 175) rfl) rfl
theorem qc_X5_leave : Cond.code yX5_leave cX5_leave 2 (some .int) ∈ TT := tt_2 (List.mem_of_getElem? (i := 176) rfl) rfl
theorem qm_X5_73 : Cond.methodLink RX5 73 yX0_dismiss ∈ TT := tt_2 (List.mem_of_getElem? (i := 179) rfl) rfl
theorem qi_X0_dismiss : Cond.instanceMethod yX0_dismiss ∈ TT := tt_2 (List.mem_of_getElem? (i := 180) rfl) rfl
theorem qs_X0_dismiss : Cond.selects RX0 yX0_dismiss yX0_dismiss ∈ TT := tt_2 (List.mem_of_getElem? (i := 181) rfl) rfl
theorem qc_X0_dismiss : Cond.code yX0_dismiss cX0_dismiss 4 (some .int) ∈ TT := tt_2 (List.mem_of_getElem? (i := 182) rfl) rfl
theorem qm_X0_68 : Cond.methodLink RX0 68 yX0_dropMotion ∈ TT := tt_2 (List.mem_of_getElem? (i := 183) rfl) rfl
theorem qi_X0_dropMotion : Cond.instanceMethod yX0_dropMotion ∈ TT := tt_2 (List.mem_of_getElem? (i := 184) rfl) rfl
theorem qs_X0_dropMotion : Cond.selects RX0 yX0_dropMotion yX0_dropMotion ∈ TT := tt_2 (List.mem_of_getElem? (i := 185) rfl) rfl
theorem qc_X0_dropMotion : Cond.code yX0_dropMotion cX0_dropMotion 2 none ∈ TT := tt_2 (List.mem_of_getElem? (i := 186) rfl) rfl
theorem qm_X0_71 : Cond.methodLink RX0 71 yX0_hasMotion ∈ TT := tt_2 (List.mem_of_getElem? (i := 187) rfl) rfl
theorem qi_X0_hasMotion : Cond.instanceMethod yX0_hasMotion ∈ TT := tt_2 (List.mem_of_getElem? (i := 188) rfl) rfl
theorem qs_X0_hasMotion : Cond.selects RX0 yX0_hasMotion yX0_hasMotion ∈ TT := tt_2 (List.mem_of_getElem? (i := 189) rfl) rfl
theorem qc_X0_hasMotion : Cond.code yX0_hasMotion cX0_hasMotion 1 (some .boolean) ∈ TT := tt_2 (List.mem_of_getElem? (i := 190) rfl) rfl
theorem qm_X0_75 : Cond.methodLink RX0 75 yX0_settleMotion ∈ TT := tt_2 (List.mem_of_getElem? (i := 191) rfl) rfl
theorem qi_X0_settleMotion : Cond.instanceMethod yX0_settleMotion ∈ TT := tt_2 (List.mem_of_getElem? (i := 192) rfl) rfl
theorem qs_X0_settleMotion : Cond.selects RX0 yX0_settleMotion yX0_settleMotion ∈ TT := tt_2 (List.mem_of_getElem? (i := 193) rfl) rfl
theorem qc_X0_settleMotion : Cond.code yX0_settleMotion cX0_settleMotion 2 (some .int) ∈ TT := tt_2 (List.mem_of_getElem? (i := 194) rfl) rfl
theorem qm_X0_153 : Cond.methodLink RX0 153 yX0_countVoters ∈ TT := tt_2 (List.mem_of_getElem? (i := 195) rfl) rfl
theorem qi_X0_countVoters : Cond.instanceMethod yX0_countVoters ∈ TT := tt_2 (List.mem_of_getElem? (i := 196) rfl) rfl
theorem qs_X0_countVoters : Cond.selects RX0 yX0_countVoters yX0_countVoters ∈ TT := tt_2 (List.mem_of_getElem? (i := 197) rfl) rfl
theorem qc_X0_countVoters : Cond.code yX0_countVoters cX0_countVoters 1 (some .int) ∈ TT := tt_2 (List.mem_of_getElem? (i := 198) rfl) rfl
theorem qm_X0_150 : Cond.methodLink RX0 150 yX0_countThere ∈ TT := tt_2 (List.mem_of_getElem? (i := 199) rfl) rfl
theorem qi_X0_countThere : Cond.instanceMethod yX0_countThere ∈ TT := tt_2 (List.mem_of_getElem? (i := 200) rfl) rfl
theorem qs_X0_countThere : Cond.selects RX0 yX0_countThere yX0_countThere ∈ TT := tt_2 (List.mem_of_getElem? (i := 201) rfl) rfl
theorem qc_X0_countThere : Cond.code yX0_countThere cX0_countThere 3 (some .int) ∈ TT := tt_2 (List.mem_of_getElem? (i := 202) rfl) rfl
theorem qm_X0_156 : Cond.methodLink RX0 156 yX0_countBallots ∈ TT := tt_2 (List.mem_of_getElem? (i := 203) rfl) rfl
theorem qi_X0_countBallots : Cond.instanceMethod yX0_countBallots ∈ TT := tt_2 (List.mem_of_getElem? (i := 204) rfl) rfl
theorem qs_X0_countBallots : Cond.selects RX0 yX0_countBallots yX0_countBallots ∈ TT := tt_2 (List.mem_of_getElem? (i := 205) rfl) rfl
theorem qc_X0_countBallots : Cond.code yX0_countBallots cX0_countBallots 4 (some .int) ∈ TT := tt_2 (List.mem_of_getElem? (i := 206) rfl) rfl
theorem qm_X0_159 : Cond.methodLink RX0 159 yX0_forgive ∈ TT := tt_2 (List.mem_of_getElem? (i := 207) rfl) rfl
theorem qi_X0_forgive : Cond.instanceMethod yX0_forgive ∈ TT := tt_2 (List.mem_of_getElem? (i := 208) rfl) rfl
theorem qs_X0_forgive : Cond.selects RX0 yX0_forgive yX0_forgive ∈ TT := tt_2 (List.mem_of_getElem? (i := 209) rfl) rfl
theorem qc_X0_forgive : Cond.code yX0_forgive cX0_forgive 1 none ∈ TT := tt_2 (List.mem_of_getElem? (i := 210) rfl) rfl
theorem qm_L_54 : Cond.methodLink RL 54 yX5_donate ∈ TT := tt_2 (List.mem_of_getElem? (i := 211) rfl) rfl
theorem qi_X5_donate : Cond.instanceMethod yX5_donate ∈ TT := tt_2 (List.mem_of_getElem? (i := 212) rfl) rfl
theorem qs_X5_donate : Cond.selects RX5 yX5_donate yX5_donate ∈ TT := tt_2 (List.mem_of_getElem? (i := 213) rfl) rfl
theorem qc_X5_donate : Cond.code yX5_donate cX5_donate 3 (some .int) ∈ TT := tt_2 (List.mem_of_getElem? (i := 214) rfl) rfl
theorem qm_X5_108 : Cond.methodLink RX5 108 yX0_payToCommon ∈ TT := tt_2 (List.mem_of_getElem? (i := 216) rfl) rfl
theorem qm_L_57 : Cond.methodLink RL 57 yX5_set ∈ TT := tt_2 (List.mem_of_getElem? (i := 217) rfl) rfl
theorem qi_X5_set : Cond.instanceMethod yX5_set ∈ TT := tt_2 (List.mem_of_getElem? (i := 218) rfl) rfl
theorem qs_X5_set : Cond.selects RX5 yX5_set yX5_set ∈ TT := tt_2 (List.mem_of_getElem? (i := 219) rfl) rfl
theorem qc_X5_set : Cond.code yX5_set cX5_set 4 (some .int) ∈ TT := tt_2 (List.mem_of_getElem? (i := 220) rfl) rfl
theorem qm_X5_122 : Cond.methodLink RX5 122 yX5_isSetting ∈ TT := tt_2 (List.mem_of_getElem? (i := 221) rfl) rfl
theorem qt_X5_isSetting : Cond.static yX5_isSetting ∈ TT := tt_2 (List.mem_of_getElem? (i := 222) rfl) rfl
theorem qc_X5_isSetting : Cond.code yX5_isSetting cX5_isSetting 1 (some .boolean) ∈ TT := tt_2 (List.mem_of_getElem? (i := 223) rfl) rfl
theorem qf_X5_127 : Cond.fieldLink RX5 127 "RipeHours" "GREATEST_SETTINGS" "[I" ∈ TT := tt_2 (List.mem_of_getElem? (i := 225) rfl) rfl
theorem qm_L_97 : Cond.methodLink RL 97 yL_bank ∈ TT := tt_2 (List.mem_of_getElem? (i := 228) rfl) rfl
theorem qt_L_bank : Cond.static yL_bank ∈ TT := tt_2 (List.mem_of_getElem? (i := 229) rfl) rfl
theorem qc_L_bank : Cond.code yL_bank cL_bank 13 (some .boolean) ∈ TT := tt_2 (List.mem_of_getElem? (i := 230) rfl) rfl
theorem qm_L_60 : Cond.methodLink RL 60 yX5_pass ∈ TT := tt_2 (List.mem_of_getElem? (i := 231) rfl) rfl
theorem qi_X5_pass : Cond.instanceMethod yX5_pass ∈ TT := tt_2 (List.mem_of_getElem? (i := 232) rfl) rfl
theorem qs_X5_pass : Cond.selects RX5 yX5_pass yX5_pass ∈ TT := tt_2 (List.mem_of_getElem? (i := 233) rfl) rfl
theorem qc_X5_pass : Cond.code yX5_pass cX5_pass 4 (some .int) ∈ TT := tt_2 (List.mem_of_getElem? (i := 234) rfl) rfl
theorem qm_X5_119 : Cond.methodLink RX5 119 yX0_endWeek ∈ TT := tt_2 (List.mem_of_getElem? (i := 237) rfl) rfl
theorem qi_X0_endWeek : Cond.instanceMethod yX0_endWeek ∈ TT := tt_2 (List.mem_of_getElem? (i := 238) rfl) rfl
theorem qs_X0_endWeek : Cond.selects RX0 yX0_endWeek yX0_endWeek ∈ TT := tt_2 (List.mem_of_getElem? (i := 239) rfl) rfl
theorem qc_X0_endWeek : Cond.code yX0_endWeek cX0_endWeek 3 (some .int) ∈ TT := tt_3 (List.mem_of_getElem? (i := 0) rfl) rfl
theorem qm_X0_134 : Cond.methodLink RX0 134 yX0_endWeekOf ∈ TT := tt_3 (List.mem_of_getElem? (i := 1) rfl) rfl
theorem qi_X0_endWeekOf : Cond.instanceMethod yX0_endWeekOf ∈ TT := tt_3 (List.mem_of_getElem? (i := 2) rfl) rfl
theorem qs_X0_endWeekOf : Cond.selects RX0 yX0_endWeekOf yX0_endWeekOf ∈ TT := tt_3 (List.mem_of_getElem? (i := 3) rfl) rfl
theorem qc_X0_endWeekOf : Cond.code yX0_endWeekOf cX0_endWeekOf 4 (some .int) ∈ TT := tt_3 (List.mem_of_getElem? (i := 4) rfl) rfl
theorem qt_X5_decayingPart : Cond.static yX5_decayingPart ∈ TT := tt_3 (List.mem_of_getElem? (i := 6) rfl) rfl
theorem qc_X5_decayingPart : Cond.code yX5_decayingPart cX5_decayingPart 2 (some .int) ∈ TT := tt_3 (List.mem_of_getElem? (i := 7) rfl) rfl
theorem qm_X0_146 : Cond.methodLink RX0 146 yX4_rust ∈ TT := tt_3 (List.mem_of_getElem? (i := 8) rfl) rfl
theorem qi_X4_rust : Cond.instanceMethod yX4_rust ∈ TT := tt_3 (List.mem_of_getElem? (i := 9) rfl) rfl
theorem qs_X4_rust : Cond.selects RX4 yX4_rust yX4_rust ∈ TT := tt_3 (List.mem_of_getElem? (i := 10) rfl) rfl
theorem qc_X4_rust : Cond.code yX4_rust cX4_rust 3 none ∈ TT := tt_3 (List.mem_of_getElem? (i := 11) rfl) rfl
theorem qm_X4_66 : Cond.methodLink RX4 66 Lib.Math.max.name ∈ TT := tt_3 (List.mem_of_getElem? (i := 12) rfl) rfl
theorem qt_Mmax : Cond.static Lib.Math.max.name ∈ TT := tt_3 (List.mem_of_getElem? (i := 13) rfl) rfl
theorem qc_Mmax : Cond.code Lib.Math.max.name Lib.Math.max.code 2 (some .int) ∈ TT := tt_3 (List.mem_of_getElem? (i := 14) rfl) rfl
theorem qm_L_63 : Cond.methodLink RL 63 yX5_votesNeeded ∈ TT := tt_3 (List.mem_of_getElem? (i := 15) rfl) rfl
theorem qi_X5_votesNeeded : Cond.instanceMethod yX5_votesNeeded ∈ TT := tt_3 (List.mem_of_getElem? (i := 16) rfl) rfl
theorem qs_X5_votesNeeded : Cond.selects RX5 yX5_votesNeeded yX5_votesNeeded ∈ TT := tt_3 (List.mem_of_getElem? (i := 17) rfl) rfl
theorem qc_X5_votesNeeded : Cond.code yX5_votesNeeded cX5_votesNeeded 1 (some .int) ∈ TT := tt_3 (List.mem_of_getElem? (i := 18) rfl) rfl
theorem qm_X5_236 : Cond.methodLink RX5 236 yX0_missingVotes ∈ TT := tt_3 (List.mem_of_getElem? (i := 19) rfl) rfl
theorem qi_X0_missingVotes : Cond.instanceMethod yX0_missingVotes ∈ TT := tt_3 (List.mem_of_getElem? (i := 20) rfl) rfl
theorem qs_X0_missingVotes : Cond.selects RX0 yX0_missingVotes yX0_missingVotes ∈ TT := tt_3 (List.mem_of_getElem? (i := 21) rfl) rfl
theorem qc_X0_missingVotes : Cond.code yX0_missingVotes cX0_missingVotes 1 (some .int) ∈ TT := tt_3 (List.mem_of_getElem? (i := 22) rfl) rfl
theorem qm_L_66 : Cond.methodLink RL 66 yX5_move ∈ TT := tt_3 (List.mem_of_getElem? (i := 23) rfl) rfl
theorem qi_X5_move : Cond.instanceMethod yX5_move ∈ TT := tt_3 (List.mem_of_getElem? (i := 24) rfl) rfl
theorem qs_X5_move : Cond.selects RX5 yX5_move yX5_move ∈ TT := tt_3 (List.mem_of_getElem? (i := 25) rfl) rfl
theorem qc_X5_move : Cond.code yX5_move cX5_move 3 (some .int) ∈ TT := tt_3 (List.mem_of_getElem? (i := 26) rfl) rfl
theorem qm_X5_138 : Cond.methodLink RX5 138 yX0_allowsMotion ∈ TT := tt_3 (List.mem_of_getElem? (i := 28) rfl) rfl
theorem qi_X0_allowsMotion : Cond.instanceMethod yX0_allowsMotion ∈ TT := tt_3 (List.mem_of_getElem? (i := 29) rfl) rfl
theorem qs_X0_allowsMotion : Cond.selects RX0 yX0_allowsMotion yX0_allowsMotion ∈ TT := tt_3 (List.mem_of_getElem? (i := 30) rfl) rfl
theorem qc_X0_allowsMotion : Cond.code yX0_allowsMotion cX0_allowsMotion 3 (some .boolean) ∈ TT := tt_3 (List.mem_of_getElem? (i := 31) rfl) rfl
theorem qm_X5_144 : Cond.methodLink RX5 144 yX0_openMotion ∈ TT := tt_3 (List.mem_of_getElem? (i := 33) rfl) rfl
theorem qi_X0_openMotion : Cond.instanceMethod yX0_openMotion ∈ TT := tt_3 (List.mem_of_getElem? (i := 34) rfl) rfl
theorem qs_X0_openMotion : Cond.selects RX0 yX0_openMotion yX0_openMotion ∈ TT := tt_3 (List.mem_of_getElem? (i := 35) rfl) rfl
theorem qc_X0_openMotion : Cond.code yX0_openMotion cX0_openMotion 3 none ∈ TT := tt_3 (List.mem_of_getElem? (i := 36) rfl) rfl
theorem qm_X5_147 : Cond.methodLink RX5 147 yX0_countVoters ∈ TT := tt_3 (List.mem_of_getElem? (i := 37) rfl) rfl
theorem qm_L_69 : Cond.methodLink RL 69 yX5_takeBack ∈ TT := tt_3 (List.mem_of_getElem? (i := 38) rfl) rfl
theorem qi_X5_takeBack : Cond.instanceMethod yX5_takeBack ∈ TT := tt_3 (List.mem_of_getElem? (i := 39) rfl) rfl
theorem qs_X5_takeBack : Cond.selects RX5 yX5_takeBack yX5_takeBack ∈ TT := tt_3 (List.mem_of_getElem? (i := 40) rfl) rfl
theorem qc_X5_takeBack : Cond.code yX5_takeBack cX5_takeBack 2 (some .int) ∈ TT := tt_3 (List.mem_of_getElem? (i := 41) rfl) rfl
theorem qm_X5_161 : Cond.methodLink RX5 161 yX0_hasMotion ∈ TT := tt_3 (List.mem_of_getElem? (i := 42) rfl) rfl
theorem qm_X5_167 : Cond.methodLink RX5 167 yX0_countBallots ∈ TT := tt_3 (List.mem_of_getElem? (i := 44) rfl) rfl
theorem qm_X5_170 : Cond.methodLink RX5 170 yX0_dropMotion ∈ TT := tt_3 (List.mem_of_getElem? (i := 45) rfl) rfl
theorem qm_L_72 : Cond.methodLink RL 72 yX5_member ∈ TT := tt_3 (List.mem_of_getElem? (i := 46) rfl) rfl
theorem qi_X5_member : Cond.instanceMethod yX5_member ∈ TT := tt_3 (List.mem_of_getElem? (i := 47) rfl) rfl
theorem qs_X5_member : Cond.selects RX5 yX5_member yX5_member ∈ TT := tt_3 (List.mem_of_getElem? (i := 48) rfl) rfl
theorem qc_X5_member : Cond.code yX5_member cX5_member 3 (some .int) ∈ TT := tt_3 (List.mem_of_getElem? (i := 49) rfl) rfl
theorem qm_X5_206 : Cond.methodLink RX5 206 yX0_memberProperty ∈ TT := tt_3 (List.mem_of_getElem? (i := 51) rfl) rfl
theorem qi_X0_memberProperty : Cond.instanceMethod yX0_memberProperty ∈ TT := tt_3 (List.mem_of_getElem? (i := 52) rfl) rfl
theorem qs_X0_memberProperty : Cond.selects RX0 yX0_memberProperty yX0_memberProperty ∈ TT := tt_3 (List.mem_of_getElem? (i := 53) rfl) rfl
theorem qc_X0_memberProperty : Cond.code yX0_memberProperty cX0_memberProperty 4 (some .int) ∈ TT := tt_3 (List.mem_of_getElem? (i := 54) rfl) rfl
theorem qm_X0_166 : Cond.methodLink RX0 166 yX0_canVote ∈ TT := tt_3 (List.mem_of_getElem? (i := 55) rfl) rfl
theorem qi_X0_canVote : Cond.instanceMethod yX0_canVote ∈ TT := tt_3 (List.mem_of_getElem? (i := 56) rfl) rfl
theorem qs_X0_canVote : Cond.selects RX0 yX0_canVote yX0_canVote ∈ TT := tt_3 (List.mem_of_getElem? (i := 57) rfl) rfl
theorem qc_X0_canVote : Cond.code yX0_canVote cX0_canVote 2 (some .boolean) ∈ TT := tt_3 (List.mem_of_getElem? (i := 58) rfl) rfl
theorem qm_L_75 : Cond.methodLink RL 75 yX5_vote ∈ TT := tt_3 (List.mem_of_getElem? (i := 59) rfl) rfl
theorem qi_X5_vote : Cond.instanceMethod yX5_vote ∈ TT := tt_3 (List.mem_of_getElem? (i := 60) rfl) rfl
theorem qs_X5_vote : Cond.selects RX5 yX5_vote yX5_vote ∈ TT := tt_3 (List.mem_of_getElem? (i := 61) rfl) rfl
theorem qc_X5_vote : Cond.code yX5_vote cX5_vote 3 (some .int) ∈ TT := tt_3 (List.mem_of_getElem? (i := 62) rfl) rfl
theorem qm_X5_150 : Cond.methodLink RX5 150 yX0_canVote ∈ TT := tt_3 (List.mem_of_getElem? (i := 63) rfl) rfl
theorem qm_X5_158 : Cond.methodLink RX5 158 yX0_settleMotion ∈ TT := tt_3 (List.mem_of_getElem? (i := 65) rfl) rfl
theorem qm_L_100 : Cond.methodLink RL 100 yL_agree ∈ TT := tt_3 (List.mem_of_getElem? (i := 66) rfl) rfl
theorem qt_L_agree : Cond.static yL_agree ∈ TT := tt_3 (List.mem_of_getElem? (i := 67) rfl) rfl
theorem qc_L_agree : Cond.code yL_agree cL_agree 9 (some .boolean) ∈ TT := tt_3 (List.mem_of_getElem? (i := 68) rfl) rfl
theorem qm_L_79 : Cond.methodLink RL 79 yX5_skill ∈ TT := tt_3 (List.mem_of_getElem? (i := 69) rfl) rfl
theorem qi_X5_skill : Cond.instanceMethod yX5_skill ∈ TT := tt_3 (List.mem_of_getElem? (i := 70) rfl) rfl
theorem qs_X5_skill : Cond.selects RX5 yX5_skill yX5_skill ∈ TT := tt_3 (List.mem_of_getElem? (i := 71) rfl) rfl
theorem qc_X5_skill : Cond.code yX5_skill cX5_skill 4 (some .int) ∈ TT := tt_3 (List.mem_of_getElem? (i := 72) rfl) rfl
theorem qm_X5_215 : Cond.methodLink RX5 215 yX4_ripeness ∈ TT := tt_3 (List.mem_of_getElem? (i := 74) rfl) rfl
theorem qm_L_82 : Cond.methodLink RL 82 yX5_cheapest ∈ TT := tt_3 (List.mem_of_getElem? (i := 75) rfl) rfl
theorem qi_X5_cheapest : Cond.instanceMethod yX5_cheapest ∈ TT := tt_3 (List.mem_of_getElem? (i := 76) rfl) rfl
theorem qs_X5_cheapest : Cond.selects RX5 yX5_cheapest yX5_cheapest ∈ TT := tt_3 (List.mem_of_getElem? (i := 77) rfl) rfl
theorem qc_X5_cheapest : Cond.code yX5_cheapest cX5_cheapest 4 (some .int) ∈ TT := tt_3 (List.mem_of_getElem? (i := 78) rfl) rfl
theorem qm_X5_230 : Cond.methodLink RX5 230 yX0_cheapestGiver ∈ TT := tt_3 (List.mem_of_getElem? (i := 79) rfl) rfl
theorem qi_X0_cheapestGiver : Cond.instanceMethod yX0_cheapestGiver ∈ TT := tt_3 (List.mem_of_getElem? (i := 80) rfl) rfl
theorem qs_X0_cheapestGiver : Cond.selects RX0 yX0_cheapestGiver yX0_cheapestGiver ∈ TT := tt_3 (List.mem_of_getElem? (i := 81) rfl) rfl
theorem qc_X0_cheapestGiver : Cond.code yX0_cheapestGiver cX0_cheapestGiver 6 (some .int) ∈ TT := tt_3 (List.mem_of_getElem? (i := 82) rfl) rfl
theorem qm_X0_124 : Cond.methodLink RX0 124 yX0_allowsDeal ∈ TT := tt_3 (List.mem_of_getElem? (i := 83) rfl) rfl
theorem qm_X0_128 : Cond.methodLink RX0 128 yX0_isCheaper ∈ TT := tt_3 (List.mem_of_getElem? (i := 84) rfl) rfl
theorem qi_X0_isCheaper : Cond.instanceMethod yX0_isCheaper ∈ TT := tt_3 (List.mem_of_getElem? (i := 85) rfl) rfl
theorem qs_X0_isCheaper : Cond.selects RX0 yX0_isCheaper yX0_isCheaper ∈ TT := tt_3 (List.mem_of_getElem? (i := 86) rfl) rfl
theorem qc_X0_isCheaper : Cond.code yX0_isCheaper cX0_isCheaper 7 (some .boolean) ∈ TT := tt_3 (List.mem_of_getElem? (i := 87) rfl) rfl
theorem qm_L_85 : Cond.methodLink RL 85 yX5_count ∈ TT := tt_3 (List.mem_of_getElem? (i := 88) rfl) rfl
theorem qi_X5_count : Cond.instanceMethod yX5_count ∈ TT := tt_3 (List.mem_of_getElem? (i := 89) rfl) rfl
theorem qs_X5_count : Cond.selects RX5 yX5_count yX5_count ∈ TT := tt_3 (List.mem_of_getElem? (i := 90) rfl) rfl
theorem qc_X5_count : Cond.code yX5_count cX5_count 2 (some .int) ∈ TT := tt_3 (List.mem_of_getElem? (i := 91) rfl) rfl
theorem qm_X5_220 : Cond.methodLink RX5 220 yX5_number ∈ TT := tt_3 (List.mem_of_getElem? (i := 93) rfl) rfl
theorem qi_X5_number : Cond.instanceMethod yX5_number ∈ TT := tt_3 (List.mem_of_getElem? (i := 95) rfl) rfl
theorem qc_X5_number : Cond.code yX5_number cX5_number 2 (some .int) ∈ TT := tt_3 (List.mem_of_getElem? (i := 96) rfl) rfl
theorem qm_X5_270 : Cond.methodLink RX5 270 yX0_countThere ∈ TT := tt_3 (List.mem_of_getElem? (i := 97) rfl) rfl
theorem qm_X5_282 : Cond.methodLink RX5 282 yX0_sumOfCredits ∈ TT := tt_3 (List.mem_of_getElem? (i := 98) rfl) rfl
theorem qi_X0_sumOfCredits : Cond.instanceMethod yX0_sumOfCredits ∈ TT := tt_3 (List.mem_of_getElem? (i := 99) rfl) rfl
theorem qs_X0_sumOfCredits : Cond.selects RX0 yX0_sumOfCredits yX0_sumOfCredits ∈ TT := tt_3 (List.mem_of_getElem? (i := 100) rfl) rfl
theorem qc_X0_sumOfCredits : Cond.code yX0_sumOfCredits cX0_sumOfCredits 3 (some .int) ∈ TT := tt_3 (List.mem_of_getElem? (i := 101) rfl) rfl
theorem qm_X0_163 : Cond.methodLink RX0 163 Lib.Math.max.name ∈ TT := tt_3 (List.mem_of_getElem? (i := 102) rfl) rfl
theorem qm_X5_285 : Cond.methodLink RX5 285 yX0_sumOfDebts ∈ TT := tt_3 (List.mem_of_getElem? (i := 103) rfl) rfl
theorem qi_X0_sumOfDebts : Cond.instanceMethod yX0_sumOfDebts ∈ TT := tt_3 (List.mem_of_getElem? (i := 104) rfl) rfl
theorem qs_X0_sumOfDebts : Cond.selects RX0 yX0_sumOfDebts yX0_sumOfDebts ∈ TT := tt_3 (List.mem_of_getElem? (i := 105) rfl) rfl
theorem qc_X0_sumOfDebts : Cond.code yX0_sumOfDebts cX0_sumOfDebts 3 (some .int) ∈ TT := tt_3 (List.mem_of_getElem? (i := 106) rfl) rfl
theorem qm_X5_288 : Cond.methodLink RX5 288 yX0_sumOfLoans ∈ TT := tt_3 (List.mem_of_getElem? (i := 107) rfl) rfl
theorem qi_X0_sumOfLoans : Cond.instanceMethod yX0_sumOfLoans ∈ TT := tt_3 (List.mem_of_getElem? (i := 108) rfl) rfl
theorem qs_X0_sumOfLoans : Cond.selects RX0 yX0_sumOfLoans yX0_sumOfLoans ∈ TT := tt_3 (List.mem_of_getElem? (i := 109) rfl) rfl
theorem qc_X0_sumOfLoans : Cond.code yX0_sumOfLoans cX0_sumOfLoans 3 (some .int) ∈ TT := tt_3 (List.mem_of_getElem? (i := 110) rfl) rfl
theorem qs_X5_number : Cond.selects RX5 yX5_number yX5_number ∈ TT := tt_p (List.mem_of_getElem? (i := 1) rfl) rfl
theorem inTX0 : ∀ w ∈ wsX00, w ∈ TT := List.forall_mem_cons.mpr ⟨qy_X0_members, List.forall_mem_cons.mpr ⟨qy_X0_settings, List.forall_mem_cons.mpr ⟨qy_X0_came, List.forall_mem_cons.mpr ⟨qy_X0_common, List.forall_mem_cons.mpr ⟨qy_X0_forgiven, List.forall_mem_cons.mpr ⟨qy_X0_week, List.forall_mem_cons.mpr ⟨qy_X0_deals, List.forall_mem_cons.mpr ⟨qy_X0_debtor, List.forall_mem_cons.mpr ⟨qy_X0_motionMinutes, fun _ h => absurd h List.not_mem_nil⟩⟩⟩⟩⟩⟩⟩⟩⟩
theorem inTX1 : ∀ w ∈ wsX10, w ∈ TT := List.forall_mem_cons.mpr ⟨qy_X1_place, List.forall_mem_cons.mpr ⟨qy_X1_giver, List.forall_mem_cons.mpr ⟨qy_X1_taker, List.forall_mem_cons.mpr ⟨qy_X1_skill, List.forall_mem_cons.mpr ⟨qy_X1_minutes, fun _ h => absurd h List.not_mem_nil⟩⟩⟩⟩⟩
theorem inTX2 : ∀ w ∈ wsX20, w ∈ TT := List.forall_mem_cons.mpr ⟨qy_X2_signs, List.forall_mem_cons.mpr ⟨qy_X2_reader, List.forall_mem_cons.mpr ⟨qy_X2_size, fun _ h => absurd h List.not_mem_nil⟩⟩⟩
theorem inTX3 : ∀ w ∈ wsX30, w ∈ TT := List.forall_mem_cons.mpr ⟨qy_X3_states, List.forall_mem_cons.mpr ⟨qy_X3_next, List.forall_mem_cons.mpr ⟨qy_X3_kept, fun _ h => absurd h List.not_mem_nil⟩⟩⟩
theorem inTX4 : ∀ w ∈ wsX40, w ∈ TT := List.forall_mem_cons.mpr ⟨qy_X4_practice, List.forall_mem_cons.mpr ⟨qy_X4_isThere, List.forall_mem_cons.mpr ⟨qy_X4_isBusy, List.forall_mem_cons.mpr ⟨qy_X4_balance, List.forall_mem_cons.mpr ⟨qy_X4_loan, List.forall_mem_cons.mpr ⟨qy_X4_idleWeeks, List.forall_mem_cons.mpr ⟨qy_X4_minutesGiven, List.forall_mem_cons.mpr ⟨qy_X4_minutesTaken, List.forall_mem_cons.mpr ⟨qy_X4_earned, List.forall_mem_cons.mpr ⟨qy_X4_paid, List.forall_mem_cons.mpr ⟨qy_X4_decayed, List.forall_mem_cons.mpr ⟨qy_X4_forgiven, List.forall_mem_cons.mpr ⟨qy_X4_ballot, fun _ h => absurd h List.not_mem_nil⟩⟩⟩⟩⟩⟩⟩⟩⟩⟩⟩⟩⟩
theorem inTX5 : ∀ w ∈ wsX50, w ∈ TT := List.forall_mem_cons.mpr ⟨qy_X5_bank, List.forall_mem_cons.mpr ⟨qy_X5_history, List.forall_mem_cons.mpr ⟨qy_X5_text, fun _ h => absurd h List.not_mem_nil⟩⟩⟩
