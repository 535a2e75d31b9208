/-- the words that every method of this claim rests on: one list for all -/
def TT : List Cond := lw_tbl.filter goodWord
theorem tt_in {w : Cond} (h : w ∈ TT) : w ∈ lw_tbl := (List.mem_filter.mp h).1
theorem tt_good {w : Cond} (h : w ∈ TT) : goodWord w = true := (List.mem_filter.mp h).2
theorem tt_p {w : Cond} (h : w ∈ k2_sels lw_privs) (hg : goodWord w = true) : w ∈ TT := List.mem_filter.mpr ⟨List.mem_append_left _ h, hg⟩
theorem tt_1 {w : Cond} (h : w ∈ tables_1_1) (hg : goodWord w = true) : w ∈ TT := List.mem_filter.mpr ⟨List.mem_append_right _ (show w ∈ tables_1 from List.mem_append_left _ h), hg⟩
theorem tt_2 {w : Cond} (h : w ∈ tables_1_2) (hg : goodWord w = true) : w ∈ TT := List.mem_filter.mpr ⟨List.mem_append_right _ (show w ∈ tables_1 from List.mem_append_right _ (List.mem_append_left _ h)), hg⟩
theorem tt_3 {w : Cond} (h : w ∈ tables_1_3) (hg : goodWord w = true) : w ∈ TT := List.mem_filter.mpr ⟨List.mem_append_right _ (show w ∈ tables_1 from List.mem_append_right _ (List.mem_append_right _ (List.mem_append_left _ h))), hg⟩
theorem tt_4 {w : Cond} (h : w ∈ tables_1_4) (hg : goodWord w = true) : w ∈ TT := List.mem_filter.mpr ⟨List.mem_append_right _ (show w ∈ tables_1 from List.mem_append_right _ (List.mem_append_right _ (List.mem_append_right _ (List.mem_append_left _ h)))), hg⟩
theorem tt_5 {w : Cond} (h : w ∈ tables_1_5) (hg : goodWord w = true) : w ∈ TT := List.mem_filter.mpr ⟨List.mem_append_right _ (show w ∈ tables_1 from List.mem_append_right _ (List.mem_append_right _ (List.mem_append_right _ (List.mem_append_right _ (h))))), hg⟩
theorem qn_L : Cond.initialized RL ∈ TT := tt_1 (List.mem_of_getElem? (i := 0) rfl) rfl
theorem qn_X5 : Cond.initialized RX5 ∈ TT := tt_1 (List.mem_of_getElem? (i := 1) rfl) rfl
theorem qn_X0 : Cond.initialized RX0 ∈ TT := tt_1 (List.mem_of_getElem? (i := 2) rfl) rfl
theorem qn_X4 : Cond.initialized RX4 ∈ TT := tt_1 (List.mem_of_getElem? (i := 3) rfl) rfl
theorem qn_X3 : Cond.initialized RX3 ∈ TT := tt_1 (List.mem_of_getElem? (i := 4) rfl) rfl
theorem qn_X2 : Cond.initialized RX2 ∈ TT := tt_1 (List.mem_of_getElem? (i := 5) rfl) rfl
theorem qn_X1 : Cond.initialized RX1 ∈ TT := tt_1 (List.mem_of_getElem? (i := 6) rfl) rfl
theorem qn_X6 : Cond.initialized RX6 ∈ TT := tt_1 (List.mem_of_getElem? (i := 7) rfl) rfl
theorem qn_Throwable : Cond.initialized "java/lang/Throwable" ∈ TT := tt_1 (List.mem_of_getElem? (i := 8) rfl) rfl
theorem qn_Exception : Cond.initialized "java/lang/Exception" ∈ TT := tt_1 (List.mem_of_getElem? (i := 9) rfl) rfl
theorem qn_RuntimeException : Cond.initialized "java/lang/RuntimeException" ∈ TT := tt_1 (List.mem_of_getElem? (i := 10) rfl) rfl
theorem qn_IllegalStateException : Cond.initialized "java/lang/IllegalStateException" ∈ TT := tt_1 (List.mem_of_getElem? (i := 11) rfl) rfl
theorem qn_J9 : Cond.initialized "java/lang/Math" ∈ TT := tt_1 (List.mem_of_getElem? (i := 12) rfl) rfl
theorem qn_IndexOutOfBoundsException : Cond.initialized "java/lang/IndexOutOfBoundsException" ∈ TT := tt_1 (List.mem_of_getElem? (i := 13) rfl) rfl
theorem qn_IllegalArgumentException : Cond.initialized "java/lang/IllegalArgumentException" ∈ TT := tt_1 (List.mem_of_getElem? (i := 14) rfl) rfl
theorem qn_Jxe99ae : Cond.initialized "java/lang/Double" ∈ TT := tt_1 (List.mem_of_getElem? (i := 15) rfl) rfl
theorem qk_L_8 : Cond.classLink RL 8 RX5 ∈ TT := tt_1 (List.mem_of_getElem? (i := 16) rfl) rfl
theorem qa_X5 : Cond.instantiable RX5 3 ∈ TT := tt_1 (List.mem_of_getElem? (i := 17) rfl) rfl
theorem qm_L_84 : Cond.methodLink RL 84 yX5_init ∈ TT := tt_1 (List.mem_of_getElem? (i := 18) rfl) rfl
theorem qi_X5_init : Cond.instanceMethod yX5_init ∈ TT := tt_1 (List.mem_of_getElem? (i := 19) rfl) rfl
theorem qc_X5_init : Cond.code yX5_init cX5_init 1 none ∈ TT := tt_1 (List.mem_of_getElem? (i := 20) rfl) rfl
theorem qm_X5_1 : Cond.methodLink RX5 1 objectInit ∈ TT := tt_1 (List.mem_of_getElem? (i := 21) rfl) rfl
theorem qi_objinit : Cond.instanceMethod objectInit ∈ TT := tt_1 (List.mem_of_getElem? (i := 22) rfl) rfl
theorem qc_objinit : Cond.code objectInit ⟨#[0xb1]⟩ 1 none ∈ TT := tt_1 (List.mem_of_getElem? (i := 23) rfl) rfl
theorem qk_X5_7 : Cond.classLink RX5 7 RX0 ∈ TT := tt_1 (List.mem_of_getElem? (i := 24) rfl) rfl
theorem qa_X0 : Cond.instantiable RX0 9 ∈ TT := tt_1 (List.mem_of_getElem? (i := 25) rfl) rfl
theorem qm_X5_9 : Cond.methodLink RX5 9 yX0_init ∈ TT := tt_1 (List.mem_of_getElem? (i := 26) rfl) rfl
theorem qi_X0_init : Cond.instanceMethod yX0_init ∈ TT := tt_1 (List.mem_of_getElem? (i := 27) rfl) rfl
theorem qc_X0_init : Cond.code yX0_init cX0_init 2 none ∈ TT := tt_1 (List.mem_of_getElem? (i := 28) rfl) rfl
theorem qm_X0_3 : Cond.methodLink RX0 3 objectInit ∈ TT := tt_1 (List.mem_of_getElem? (i := 29) rfl) rfl
theorem qk_X0_9 : Cond.classLink RX0 9 RX4 ∈ TT := tt_1 (List.mem_of_getElem? (i := 30) rfl) rfl
theorem qa_X4 : Cond.instantiable RX4 13 ∈ TT := tt_1 (List.mem_of_getElem? (i := 32) rfl) rfl
theorem qm_X0_17 : Cond.methodLink RX0 17 yX4_init ∈ TT := tt_1 (List.mem_of_getElem? (i := 33) rfl) rfl
theorem qi_X4_init : Cond.instanceMethod yX4_init ∈ TT := tt_1 (List.mem_of_getElem? (i := 34) rfl) rfl
theorem qc_X4_init : Cond.code yX4_init cX4_init 1 none ∈ TT := tt_1 (List.mem_of_getElem? (i := 35) rfl) rfl
theorem qm_X4_3 : Cond.methodLink RX4 3 objectInit ∈ TT := tt_1 (List.mem_of_getElem? (i := 36) rfl) rfl
theorem qf_X4_9 : Cond.fieldLink RX4 9 "RipeHours$Member" "practice" "[I" ∈ TT := tt_1 (List.mem_of_getElem? (i := 37) rfl) rfl
theorem qf_X0_131 : Cond.fieldLink RX0 131 "RipeHours$Member" "practice" "[I" ∈ TT := tt_1 (List.mem_of_getElem? (i := 38) rfl) rfl
theorem qf_X5_212 : Cond.fieldLink RX5 212 "RipeHours$Member" "practice" "[I" ∈ TT := tt_1 (List.mem_of_getElem? (i := 39) rfl) rfl
theorem qf_X4_15 : Cond.fieldLink RX4 15 "RipeHours$Member" "isThere" "Z" ∈ TT := tt_1 (List.mem_of_getElem? (i := 40) rfl) rfl
theorem qf_X5_62 : Cond.fieldLink RX5 62 "RipeHours$Member" "isThere" "Z" ∈ TT := tt_1 (List.mem_of_getElem? (i := 41) rfl) rfl
theorem qf_X0_51 : Cond.fieldLink RX0 51 "RipeHours$Member" "isThere" "Z" ∈ TT := tt_1 (List.mem_of_getElem? (i := 42) rfl) rfl
theorem qf_X4_19 : Cond.fieldLink RX4 19 "RipeHours$Member" "isBusy" "Z" ∈ TT := tt_1 (List.mem_of_getElem? (i := 43) rfl) rfl
theorem qf_X0_100 : Cond.fieldLink RX0 100 "RipeHours$Member" "isBusy" "Z" ∈ TT := tt_1 (List.mem_of_getElem? (i := 44) rfl) rfl
theorem qf_X4_22 : Cond.fieldLink RX4 22 "RipeHours$Member" "balance" "I" ∈ TT := tt_1 (List.mem_of_getElem? (i := 45) rfl) rfl
theorem qf_X5_68 : Cond.fieldLink RX5 68 "RipeHours$Member" "balance" "I" ∈ TT := tt_1 (List.mem_of_getElem? (i := 46) rfl) rfl
theorem qf_X0_55 : Cond.fieldLink RX0 55 "RipeHours$Member" "balance" "I" ∈ TT := tt_1 (List.mem_of_getElem? (i := 47) rfl) rfl
theorem qf_X4_26 : Cond.fieldLink RX4 26 "RipeHours$Member" "loan" "I" ∈ TT := tt_1 (List.mem_of_getElem? (i := 48) rfl) rfl
theorem qf_X0_58 : Cond.fieldLink RX0 58 "RipeHours$Member" "loan" "I" ∈ TT := tt_1 (List.mem_of_getElem? (i := 49) rfl) rfl
theorem qf_X4_29 : Cond.fieldLink RX4 29 "RipeHours$Member" "idleWeeks" "I" ∈ TT := tt_1 (List.mem_of_getElem? (i := 50) rfl) rfl
theorem qf_X0_137 : Cond.fieldLink RX0 137 "RipeHours$Member" "idleWeeks" "I" ∈ TT := tt_1 (List.mem_of_getElem? (i := 51) rfl) rfl
theorem qf_X4_32 : Cond.fieldLink RX4 32 "RipeHours$Member" "minutesGiven" "I" ∈ TT := tt_1 (List.mem_of_getElem? (i := 52) rfl) rfl
theorem qf_X0_106 : Cond.fieldLink RX0 106 "RipeHours$Member" "minutesGiven" "I" ∈ TT := tt_1 (List.mem_of_getElem? (i := 53) rfl) rfl
theorem qf_X4_35 : Cond.fieldLink RX4 35 "RipeHours$Member" "minutesTaken" "I" ∈ TT := tt_1 (List.mem_of_getElem? (i := 54) rfl) rfl
theorem qf_X0_97 : Cond.fieldLink RX0 97 "RipeHours$Member" "minutesTaken" "I" ∈ TT := tt_1 (List.mem_of_getElem? (i := 55) rfl) rfl
theorem qf_X4_38 : Cond.fieldLink RX4 38 "RipeHours$Member" "earned" "I" ∈ TT := tt_1 (List.mem_of_getElem? (i := 56) rfl) rfl
theorem qf_X0_103 : Cond.fieldLink RX0 103 "RipeHours$Member" "earned" "I" ∈ TT := tt_1 (List.mem_of_getElem? (i := 57) rfl) rfl
theorem qf_X4_41 : Cond.fieldLink RX4 41 "RipeHours$Member" "paid" "I" ∈ TT := tt_1 (List.mem_of_getElem? (i := 58) rfl) rfl
theorem qf_X0_94 : Cond.fieldLink RX0 94 "RipeHours$Member" "paid" "I" ∈ TT := tt_1 (List.mem_of_getElem? (i := 59) rfl) rfl
theorem qf_X4_44 : Cond.fieldLink RX4 44 "RipeHours$Member" "decayed" "I" ∈ TT := tt_1 (List.mem_of_getElem? (i := 60) rfl) rfl
theorem qf_X0_143 : Cond.fieldLink RX0 143 "RipeHours$Member" "decayed" "I" ∈ TT := tt_1 (List.mem_of_getElem? (i := 61) rfl) rfl
theorem qf_X4_47 : Cond.fieldLink RX4 47 "RipeHours$Member" "forgiven" "I" ∈ TT := tt_1 (List.mem_of_getElem? (i := 62) rfl) rfl
theorem qf_X0_162 : Cond.fieldLink RX0 162 "RipeHours$Member" "forgiven" "I" ∈ TT := tt_1 (List.mem_of_getElem? (i := 63) rfl) rfl
theorem qf_X4_50 : Cond.fieldLink RX4 50 "RipeHours$Member" "ballot" "I" ∈ TT := tt_1 (List.mem_of_getElem? (i := 64) rfl) rfl
theorem qf_X0_65 : Cond.fieldLink RX0 65 "RipeHours$Member" "ballot" "I" ∈ TT := tt_1 (List.mem_of_getElem? (i := 65) rfl) rfl
theorem qf_X5_155 : Cond.fieldLink RX5 155 "RipeHours$Member" "ballot" "I" ∈ TT := tt_1 (List.mem_of_getElem? (i := 66) rfl) rfl
theorem qy_X4_practice : Cond.laysFinal RX4 "RipeHours$Member" "practice" "[I" ∈ TT := tt_1 (List.mem_of_getElem? (i := 67) rfl) rfl
theorem qy_X4_isThere : Cond.lays RX4 "RipeHours$Member" "isThere" "Z" ∈ TT := tt_1 (List.mem_of_getElem? (i := 69) rfl) rfl
theorem qy_X4_isBusy : Cond.lays RX4 "RipeHours$Member" "isBusy" "Z" ∈ TT := tt_1 (List.mem_of_getElem? (i := 71) rfl) rfl
theorem qy_X4_balance : Cond.lays RX4 "RipeHours$Member" "balance" "I" ∈ TT := tt_1 (List.mem_of_getElem? (i := 73) rfl) rfl
theorem qy_X4_loan : Cond.lays RX4 "RipeHours$Member" "loan" "I" ∈ TT := tt_1 (List.mem_of_getElem? (i := 75) rfl) rfl
theorem qy_X4_idleWeeks : Cond.lays RX4 "RipeHours$Member" "idleWeeks" "I" ∈ TT := tt_1 (List.mem_of_getElem? (i := 77) rfl) rfl
theorem qy_X4_minutesGiven : Cond.lays RX4 "RipeHours$Member" "minutesGiven" "I" ∈ TT := tt_1 (List.mem_of_getElem? (i := 79) rfl) rfl
theorem qy_X4_minutesTaken : Cond.lays RX4 "RipeHours$Member" "minutesTaken" "I" ∈ TT := tt_1 (List.mem_of_getElem? (i := 81) rfl) rfl
theorem qy_X4_earned : Cond.lays RX4 "RipeHours$Member" "earned" "I" ∈ TT := tt_1 (List.mem_of_getElem? (i := 83) rfl) rfl
theorem qy_X4_paid : Cond.lays RX4 "RipeHours$Member" "paid" "I" ∈ TT := tt_1 (List.mem_of_getElem? (i := 85) rfl) rfl
theorem qy_X4_decayed : Cond.lays RX4 "RipeHours$Member" "decayed" "I" ∈ TT := tt_1 (List.mem_of_getElem? (i := 87) rfl) rfl
theorem qy_X4_forgiven : Cond.lays RX4 "RipeHours$Member" "forgiven" "I" ∈ TT := tt_1 (List.mem_of_getElem? (i := 89) rfl) rfl
theorem qy_X4_ballot : Cond.lays RX4 "RipeHours$Member" "ballot" "I" ∈ TT := tt_1 (List.mem_of_getElem? (i := 91) rfl) rfl
theorem qr_int : Cond.arrayClass .int ∈ TT := tt_1 (List.mem_of_getElem? (i := 94) rfl) rfl
theorem qf_X0_11 : Cond.fieldLink RX0 11 "RipeHours$Bank" "members" "[LRipeHours$Member;" ∈ TT := tt_1 (List.mem_of_getElem? (i := 97) rfl) rfl
theorem qf_X5_58 : Cond.fieldLink RX5 58 "RipeHours$Bank" "members" "[LRipeHours$Member;" ∈ TT := tt_1 (List.mem_of_getElem? (i := 98) rfl) rfl
theorem qf_X0_18 : Cond.fieldLink RX0 18 "RipeHours$Bank" "settings" "[I" ∈ TT := tt_1 (List.mem_of_getElem? (i := 99) rfl) rfl
theorem qf_X5_133 : Cond.fieldLink RX5 133 "RipeHours$Bank" "settings" "[I" ∈ TT := tt_1 (List.mem_of_getElem? (i := 100) rfl) rfl
theorem qf_X5_30 : Cond.fieldLink RX5 30 "RipeHours$Bank" "came" "I" ∈ TT := tt_1 (List.mem_of_getElem? (i := 101) rfl) rfl
theorem qf_X0_33 : Cond.fieldLink RX0 33 "RipeHours$Bank" "came" "I" ∈ TT := tt_1 (List.mem_of_getElem? (i := 102) rfl) rfl
theorem qf_X0_36 : Cond.fieldLink RX0 36 "RipeHours$Bank" "common" "I" ∈ TT := tt_1 (List.mem_of_getElem? (i := 103) rfl) rfl
theorem qf_X5_273 : Cond.fieldLink RX5 273 "RipeHours$Bank" "common" "I" ∈ TT := tt_1 (List.mem_of_getElem? (i := 104) rfl) rfl
theorem qf_X0_39 : Cond.fieldLink RX0 39 "RipeHours$Bank" "forgiven" "I" ∈ TT := tt_1 (List.mem_of_getElem? (i := 105) rfl) rfl
theorem qf_X5_276 : Cond.fieldLink RX5 276 "RipeHours$Bank" "forgiven" "I" ∈ TT := tt_1 (List.mem_of_getElem? (i := 106) rfl) rfl
theorem qf_X0_42 : Cond.fieldLink RX0 42 "RipeHours$Bank" "week" "I" ∈ TT := tt_1 (List.mem_of_getElem? (i := 107) rfl) rfl
theorem qf_X5_114 : Cond.fieldLink RX5 114 "RipeHours$Bank" "week" "I" ∈ TT := tt_1 (List.mem_of_getElem? (i := 108) rfl) rfl
theorem qf_X0_45 : Cond.fieldLink RX0 45 "RipeHours$Bank" "deals" "I" ∈ TT := tt_1 (List.mem_of_getElem? (i := 109) rfl) rfl
theorem qf_X5_279 : Cond.fieldLink RX5 279 "RipeHours$Bank" "deals" "I" ∈ TT := tt_1 (List.mem_of_getElem? (i := 110) rfl) rfl
theorem qf_X0_25 : Cond.fieldLink RX0 25 "RipeHours$Bank" "debtor" "I" ∈ TT := tt_1 (List.mem_of_getElem? (i := 111) rfl) rfl
theorem qf_X5_291 : Cond.fieldLink RX5 291 "RipeHours$Bank" "debtor" "I" ∈ TT := tt_1 (List.mem_of_getElem? (i := 112) rfl) rfl
theorem qf_X0_48 : Cond.fieldLink RX0 48 "RipeHours$Bank" "motionMinutes" "I" ∈ TT := tt_1 (List.mem_of_getElem? (i := 113) rfl) rfl
theorem qf_X5_294 : Cond.fieldLink RX5 294 "RipeHours$Bank" "motionMinutes" "I" ∈ TT := tt_1 (List.mem_of_getElem? (i := 114) rfl) rfl
theorem qy_X0_members : Cond.laysFinal RX0 "RipeHours$Bank" "members" "[LRipeHours$Member;" ∈ TT := tt_1 (List.mem_of_getElem? (i := 115) rfl) rfl
theorem qy_X0_settings : Cond.laysFinal RX0 "RipeHours$Bank" "settings" "[I" ∈ TT := tt_1 (List.mem_of_getElem? (i := 117) rfl) rfl
theorem qy_X0_came : Cond.lays RX0 "RipeHours$Bank" "came" "I" ∈ TT := tt_1 (List.mem_of_getElem? (i := 119) rfl) rfl
theorem qy_X0_common : Cond.lays RX0 "RipeHours$Bank" "common" "I" ∈ TT := tt_1 (List.mem_of_getElem? (i := 121) rfl) rfl
theorem qy_X0_forgiven : Cond.lays RX0 "RipeHours$Bank" "forgiven" "I" ∈ TT := tt_1 (List.mem_of_getElem? (i := 123) rfl) rfl
theorem qy_X0_week : Cond.lays RX0 "RipeHours$Bank" "week" "I" ∈ TT := tt_1 (List.mem_of_getElem? (i := 125) rfl) rfl
theorem qy_X0_deals : Cond.lays RX0 "RipeHours$Bank" "deals" "I" ∈ TT := tt_1 (List.mem_of_getElem? (i := 127) rfl) rfl
theorem qy_X0_debtor : Cond.lays RX0 "RipeHours$Bank" "debtor" "I" ∈ TT := tt_1 (List.mem_of_getElem? (i := 129) rfl) rfl
theorem qy_X0_motionMinutes : Cond.lays RX0 "RipeHours$Bank" "motionMinutes" "I" ∈ TT := tt_1 (List.mem_of_getElem? (i := 131) rfl) rfl
theorem qk_X5_16 : Cond.classLink RX5 16 RX3 ∈ TT := tt_1 (List.mem_of_getElem? (i := 134) rfl) rfl
theorem qa_X3 : Cond.instantiable RX3 3 ∈ TT := tt_1 (List.mem_of_getElem? (i := 135) rfl) rfl
theorem qm_X5_18 : Cond.methodLink RX5 18 yX3_init ∈ TT := tt_1 (List.mem_of_getElem? (i := 136) rfl) rfl
theorem qi_X3_init : Cond.instanceMethod yX3_init ∈ TT := tt_1 (List.mem_of_getElem? (i := 137) rfl) rfl
theorem qc_X3_init : Cond.code yX3_init cX3_init 2 none ∈ TT := tt_1 (List.mem_of_getElem? (i := 138) rfl) rfl
theorem qm_X3_3 : Cond.methodLink RX3 3 objectInit ∈ TT := tt_1 (List.mem_of_getElem? (i := 139) rfl) rfl
theorem qk_X3_9 : Cond.classLink RX3 9 RX0 ∈ TT := tt_1 (List.mem_of_getElem? (i := 140) rfl) rfl
theorem qm_X3_17 : Cond.methodLink RX3 17 yX0_init ∈ TT := tt_1 (List.mem_of_getElem? (i := 142) rfl) rfl
theorem qf_X3_11 : Cond.fieldLink RX3 11 "RipeHours$History" "states" "[LRipeHours$Bank;" ∈ TT := tt_1 (List.mem_of_getElem? (i := 143) rfl) rfl
theorem qf_X3_18 : Cond.fieldLink RX3 18 "RipeHours$History" "next" "I" ∈ TT := tt_1 (List.mem_of_getElem? (i := 144) rfl) rfl
theorem qf_X3_26 : Cond.fieldLink RX3 26 "RipeHours$History" "kept" "I" ∈ TT := tt_1 (List.mem_of_getElem? (i := 145) rfl) rfl
theorem qf_X5_196 : Cond.fieldLink RX5 196 "RipeHours$History" "kept" "I" ∈ TT := tt_1 (List.mem_of_getElem? (i := 146) rfl) rfl
theorem qy_X3_states : Cond.laysFinal RX3 "RipeHours$History" "states" "[LRipeHours$Bank;" ∈ TT := tt_1 (List.mem_of_getElem? (i := 147) rfl) rfl
theorem qy_X3_next : Cond.lays RX3 "RipeHours$History" "next" "I" ∈ TT := tt_1 (List.mem_of_getElem? (i := 149) rfl) rfl
theorem qy_X3_kept : Cond.lays RX3 "RipeHours$History" "kept" "I" ∈ TT := tt_1 (List.mem_of_getElem? (i := 151) rfl) rfl
theorem qk_X5_23 : Cond.classLink RX5 23 RX2 ∈ TT := tt_1 (List.mem_of_getElem? (i := 154) rfl) rfl
theorem qa_X2 : Cond.instantiable RX2 3 ∈ TT := tt_1 (List.mem_of_getElem? (i := 155) rfl) rfl
theorem qm_X5_25 : Cond.methodLink RX5 25 yX2_init ∈ TT := tt_1 (List.mem_of_getElem? (i := 156) rfl) rfl
theorem qi_X2_init : Cond.instanceMethod yX2_init ∈ TT := tt_1 (List.mem_of_getElem? (i := 157) rfl) rfl
theorem qc_X2_init : Cond.code yX2_init cX2_init 1 none ∈ TT := tt_1 (List.mem_of_getElem? (i := 158) rfl) rfl
theorem qm_X2_3 : Cond.methodLink RX2 3 objectInit ∈ TT := tt_1 (List.mem_of_getElem? (i := 159) rfl) rfl
theorem qk_X2_15 : Cond.classLink RX2 15 RX1 ∈ TT := tt_1 (List.mem_of_getElem? (i := 160) rfl) rfl
theorem qa_X1 : Cond.instantiable RX1 5 ∈ TT := tt_1 (List.mem_of_getElem? (i := 161) rfl) rfl
theorem qm_X2_17 : Cond.methodLink RX2 17 yX1_init ∈ TT := tt_1 (List.mem_of_getElem? (i := 162) rfl) rfl
theorem qi_X1_init : Cond.instanceMethod yX1_init ∈ TT := tt_1 (List.mem_of_getElem? (i := 163) rfl) rfl
theorem qc_X1_init : Cond.code yX1_init cX1_init 1 none ∈ TT := tt_1 (List.mem_of_getElem? (i := 164) rfl) rfl
theorem qm_X1_3 : Cond.methodLink RX1 3 objectInit ∈ TT := tt_1 (List.mem_of_getElem? (i := 165) rfl) rfl
theorem qf_X1_11 : Cond.fieldLink RX1 11 "RipeHours$DealReader" "place" "I" ∈ TT := tt_1 (List.mem_of_getElem? (i := 166) rfl) rfl
theorem qf_X1_43 : Cond.fieldLink RX1 43 "RipeHours$DealReader" "giver" "I" ∈ TT := tt_1 (List.mem_of_getElem? (i := 167) rfl) rfl
theorem qf_X1_46 : Cond.fieldLink RX1 46 "RipeHours$DealReader" "taker" "I" ∈ TT := tt_1 (List.mem_of_getElem? (i := 168) rfl) rfl
theorem qf_X1_52 : Cond.fieldLink RX1 52 "RipeHours$DealReader" "skill" "I" ∈ TT := tt_1 (List.mem_of_getElem? (i := 169) rfl) rfl
theorem qf_X1_15 : Cond.fieldLink RX1 15 "RipeHours$DealReader" "minutes" "I" ∈ TT := tt_1 (List.mem_of_getElem? (i := 170) rfl) rfl
theorem qy_X1_place : Cond.lays RX1 "RipeHours$DealReader" "place" "I" ∈ TT := tt_1 (List.mem_of_getElem? (i := 171) rfl) rfl
theorem qy_X1_giver : Cond.lays RX1 "RipeHours$DealReader" "giver" "I" ∈ TT := tt_1 (List.mem_of_getElem? (i := 173) rfl) rfl
theorem qy_X1_taker : Cond.lays RX1 "RipeHours$DealReader" "taker" "I" ∈ TT := tt_1 (List.mem_of_getElem? (i := 175) rfl) rfl
theorem qy_X1_skill : Cond.lays RX1 "RipeHours$DealReader" "skill" "I" ∈ TT := tt_1 (List.mem_of_getElem? (i := 177) rfl) rfl
theorem qy_X1_minutes : Cond.lays RX1 "RipeHours$DealReader" "minutes" "I" ∈ TT := tt_1 (List.mem_of_getElem? (i := 179) rfl) rfl
theorem qr_char : Cond.arrayClass .char ∈ TT := tt_1 (List.mem_of_getElem? (i := 182) rfl) rfl
theorem qf_X2_9 : Cond.fieldLink RX2 9 "RipeHours$DealText" "signs" "[C" ∈ TT := tt_1 (List.mem_of_getElem? (i := 183) rfl) rfl
theorem qf_X5_266 : Cond.fieldLink RX5 266 "RipeHours$DealText" "signs" "[C" ∈ TT := tt_1 (List.mem_of_getElem? (i := 184) rfl) rfl
theorem qf_X2_18 : Cond.fieldLink RX2 18 "RipeHours$DealText" "reader" "LRipeHours$DealReader;" ∈ TT := tt_1 (List.mem_of_getElem? (i := 185) rfl) rfl
theorem qf_X2_22 : Cond.fieldLink RX2 22 "RipeHours$DealText" "size" "I" ∈ TT := tt_1 (List.mem_of_getElem? (i := 186) rfl) rfl
theorem qf_X5_175 : Cond.fieldLink RX5 175 "RipeHours$DealText" "size" "I" ∈ TT := tt_1 (List.mem_of_getElem? (i := 187) rfl) rfl
theorem qy_X2_signs : Cond.laysFinal RX2 "RipeHours$DealText" "signs" "[C" ∈ TT := tt_1 (List.mem_of_getElem? (i := 188) rfl) rfl
theorem qy_X2_reader : Cond.laysFinal RX2 "RipeHours$DealText" "reader" "LRipeHours$DealReader;" ∈ TT := tt_1 (List.mem_of_getElem? (i := 190) rfl) rfl
theorem qy_X2_size : Cond.lays RX2 "RipeHours$DealText" "size" "I" ∈ TT := tt_1 (List.mem_of_getElem? (i := 192) rfl) rfl
theorem qf_X5_10 : Cond.fieldLink RX5 10 "RipeHours" "bank" "LRipeHours$Bank;" ∈ TT := tt_1 (List.mem_of_getElem? (i := 195) rfl) rfl
theorem qf_X5_19 : Cond.fieldLink RX5 19 "RipeHours" "history" "LRipeHours$History;" ∈ TT := tt_1 (List.mem_of_getElem? (i := 196) rfl) rfl
theorem qf_X5_26 : Cond.fieldLink RX5 26 "RipeHours" "text" "LRipeHours$DealText;" ∈ TT := tt_1 (List.mem_of_getElem? (i := 197) rfl) rfl
theorem qy_X5_bank : Cond.laysFinal RX5 "RipeHours" "bank" "LRipeHours$Bank;" ∈ TT := tt_1 (List.mem_of_getElem? (i := 198) rfl) rfl
theorem qy_X5_history : Cond.laysFinal RX5 "RipeHours" "history" "LRipeHours$History;" ∈ TT := tt_1 (List.mem_of_getElem? (i := 200) rfl) rfl
theorem qy_X5_text : Cond.laysFinal RX5 "RipeHours" "text" "LRipeHours$DealText;" ∈ TT := tt_1 (List.mem_of_getElem? (i := 202) rfl) rfl
theorem qm_L_128 : Cond.methodLink RL 128 yX5_clearBuffer ∈ TT := tt_1 (List.mem_of_getElem? (i := 205) rfl) rfl
theorem qi_X5_clearBuffer : Cond.instanceMethod yX5_clearBuffer ∈ TT := tt_1 (List.mem_of_getElem? (i := 206) rfl) rfl
theorem qs_X5_clearBuffer : Cond.selects RX5 yX5_clearBuffer yX5_clearBuffer ∈ TT := tt_1 (List.mem_of_getElem? (i := 207) rfl) rfl
theorem qc_X5_clearBuffer : Cond.code yX5_clearBuffer cX5_clearBuffer 2 (some .int) ∈ TT := tt_1 (List.mem_of_getElem? (i := 208) rfl) rfl
theorem qm_L_132 : Cond.methodLink RL 132 yX5_firstError ∈ TT := tt_1 (List.mem_of_getElem? (i := 209) rfl) rfl
theorem qi_X5_firstError : Cond.instanceMethod yX5_firstError ∈ TT := tt_1 (List.mem_of_getElem? (i := 210) rfl) rfl
theorem qs_X5_firstError : Cond.selects RX5 yX5_firstError yX5_firstError ∈ TT := tt_1 (List.mem_of_getElem? (i := 211) rfl) rfl
theorem qc_X5_firstError : Cond.code yX5_firstError cX5_firstError 1 (some .int) ∈ TT := tt_1 (List.mem_of_getElem? (i := 212) rfl) rfl
theorem qm_X5_184 : Cond.methodLink RX5 184 yX2_findError ∈ TT := tt_1 (List.mem_of_getElem? (i := 213) rfl) rfl
theorem qi_X2_findError : Cond.instanceMethod yX2_findError ∈ TT := tt_1 (List.mem_of_getElem? (i := 214) rfl) rfl
theorem qs_X2_findError : Cond.selects RX2 yX2_findError yX2_findError ∈ TT := tt_1 (List.mem_of_getElem? (i := 215) rfl) rfl
theorem qc_X2_findError : Cond.code yX2_findError cX2_findError 2 (some .int) ∈ TT := tt_1 (List.mem_of_getElem? (i := 216) rfl) rfl
theorem qm_X2_26 : Cond.methodLink RX2 26 yX1_restart ∈ TT := tt_1 (List.mem_of_getElem? (i := 217) rfl) rfl
theorem qi_X1_restart : Cond.instanceMethod yX1_restart ∈ TT := tt_1 (List.mem_of_getElem? (i := 218) rfl) rfl
theorem qs_X1_restart : Cond.selects RX1 yX1_restart yX1_restart ∈ TT := tt_1 (List.mem_of_getElem? (i := 219) rfl) rfl
theorem qc_X1_restart : Cond.code yX1_restart cX1_restart 1 none ∈ TT := tt_1 (List.mem_of_getElem? (i := 220) rfl) rfl
theorem qm_X2_29 : Cond.methodLink RX2 29 yX1_takes ∈ TT := tt_1 (List.mem_of_getElem? (i := 221) rfl) rfl
theorem qi_X1_takes : Cond.instanceMethod yX1_takes ∈ TT := tt_1 (List.mem_of_getElem? (i := 222) rfl) rfl
theorem qs_X1_takes : Cond.selects RX1 yX1_takes yX1_takes ∈ TT := tt_1 (List.mem_of_getElem? (i := 223) rfl) rfl
theorem qc_X1_takes : Cond.code yX1_takes cX1_takes 2 (some .boolean) ∈ TT := tt_1 (List.mem_of_getElem? (i := 224) rfl) rfl
theorem qm_X1_18 : Cond.methodLink RX1 18 yX1_takesGiver ∈ TT := tt_1 (List.mem_of_getElem? (i := 225) rfl) rfl
theorem qi_X1_takesGiver : Cond.instanceMethod yX1_takesGiver ∈ TT := tt_1 (List.mem_of_getElem? (i := 226) rfl) rfl
theorem qs_X1_takesGiver : Cond.selects RX1 yX1_takesGiver yX1_takesGiver ∈ TT := tt_1 (List.mem_of_getElem? (i := 227) rfl) rfl
theorem qc_X1_takesGiver : Cond.code yX1_takesGiver cX1_takesGiver 2 (some .boolean) ∈ TT := tt_1 (List.mem_of_getElem? (i := 228) rfl) rfl
theorem qt_X5_isWithin : Cond.static yX5_isWithin ∈ TT := tt_1 (List.mem_of_getElem? (i := 230) rfl) rfl
theorem qc_X5_isWithin : Cond.code yX5_isWithin cX5_isWithin 3 (some .boolean) ∈ TT := tt_1 (List.mem_of_getElem? (i := 231) rfl) rfl
theorem qm_X1_22 : Cond.methodLink RX1 22 yX1_takesMark ∈ TT := tt_1 (List.mem_of_getElem? (i := 232) rfl) rfl
theorem qi_X1_takesMark : Cond.instanceMethod yX1_takesMark ∈ TT := tt_1 (List.mem_of_getElem? (i := 233) rfl) rfl
theorem qs_X1_takesMark : Cond.selects RX1 yX1_takesMark yX1_takesMark ∈ TT := tt_1 (List.mem_of_getElem? (i := 234) rfl) rfl
theorem qc_X1_takesMark : Cond.code yX1_takesMark cX1_takesMark 3 (some .boolean) ∈ TT := tt_1 (List.mem_of_getElem? (i := 235) rfl) rfl
theorem qm_X1_26 : Cond.methodLink RX1 26 yX1_takesTaker ∈ TT := tt_1 (List.mem_of_getElem? (i := 236) rfl) rfl
theorem qi_X1_takesTaker : Cond.instanceMethod yX1_takesTaker ∈ TT := tt_1 (List.mem_of_getElem? (i := 237) rfl) rfl
theorem qs_X1_takesTaker : Cond.selects RX1 yX1_takesTaker yX1_takesTaker ∈ TT := tt_1 (List.mem_of_getElem? (i := 238) rfl) rfl
theorem qc_X1_takesTaker : Cond.code yX1_takesTaker cX1_takesTaker 2 (some .boolean) ∈ TT := tt_1 (List.mem_of_getElem? (i := 239) rfl) rfl
theorem qm_X1_29 : Cond.methodLink RX1 29 yX1_takesSkill ∈ TT := tt_2 (List.mem_of_getElem? (i := 0) rfl) rfl
theorem qi_X1_takesSkill : Cond.instanceMethod yX1_takesSkill ∈ TT := tt_2 (List.mem_of_getElem? (i := 1) rfl) rfl
theorem qs_X1_takesSkill : Cond.selects RX1 yX1_takesSkill yX1_takesSkill ∈ TT := tt_2 (List.mem_of_getElem? (i := 2) rfl) rfl
theorem qc_X1_takesSkill : Cond.code yX1_takesSkill cX1_takesSkill 2 (some .boolean) ∈ TT := tt_2 (List.mem_of_getElem? (i := 3) rfl) rfl
theorem qt_X5_isSkill : Cond.static yX5_isSkill ∈ TT := tt_2 (List.mem_of_getElem? (i := 5) rfl) rfl
theorem qc_X5_isSkill : Cond.code yX5_isSkill cX5_isSkill 1 (some .boolean) ∈ TT := tt_2 (List.mem_of_getElem? (i := 6) rfl) rfl
theorem qm_X5_100 : Cond.methodLink RX5 100 yX5_isWithin ∈ TT := tt_2 (List.mem_of_getElem? (i := 7) rfl) rfl
theorem qm_X1_32 : Cond.methodLink RX1 32 yX1_takesEnd ∈ TT := tt_2 (List.mem_of_getElem? (i := 8) rfl) rfl
theorem qi_X1_takesEnd : Cond.instanceMethod yX1_takesEnd ∈ TT := tt_2 (List.mem_of_getElem? (i := 9) rfl) rfl
theorem qs_X1_takesEnd : Cond.selects RX1 yX1_takesEnd yX1_takesEnd ∈ TT := tt_2 (List.mem_of_getElem? (i := 10) rfl) rfl
theorem qc_X1_takesEnd : Cond.code yX1_takesEnd cX1_takesEnd 1 (some .boolean) ∈ TT := tt_2 (List.mem_of_getElem? (i := 11) rfl) rfl
theorem qm_X1_58 : Cond.methodLink RX1 58 yX1_isDealWhole ∈ TT := tt_2 (List.mem_of_getElem? (i := 12) rfl) rfl
theorem qi_X1_isDealWhole : Cond.instanceMethod yX1_isDealWhole ∈ TT := tt_2 (List.mem_of_getElem? (i := 13) rfl) rfl
theorem qs_X1_isDealWhole : Cond.selects RX1 yX1_isDealWhole yX1_isDealWhole ∈ TT := tt_2 (List.mem_of_getElem? (i := 14) rfl) rfl
theorem qc_X1_isDealWhole : Cond.code yX1_isDealWhole cX1_isDealWhole 1 (some .boolean) ∈ TT := tt_2 (List.mem_of_getElem? (i := 15) rfl) rfl
theorem qm_X1_61 : Cond.methodLink RX1 61 yX1_restart ∈ TT := tt_2 (List.mem_of_getElem? (i := 16) rfl) rfl
theorem qm_X1_36 : Cond.methodLink RX1 36 yX1_takesDigit ∈ TT := tt_2 (List.mem_of_getElem? (i := 17) rfl) rfl
theorem qi_X1_takesDigit : Cond.instanceMethod yX1_takesDigit ∈ TT := tt_2 (List.mem_of_getElem? (i := 18) rfl) rfl
theorem qs_X1_takesDigit : Cond.selects RX1 yX1_takesDigit yX1_takesDigit ∈ TT := tt_2 (List.mem_of_getElem? (i := 19) rfl) rfl
theorem qc_X1_takesDigit : Cond.code yX1_takesDigit cX1_takesDigit 2 (some .boolean) ∈ TT := tt_2 (List.mem_of_getElem? (i := 20) rfl) rfl
theorem qt_X5_isDealMinutes : Cond.static yX5_isDealMinutes ∈ TT := tt_2 (List.mem_of_getElem? (i := 22) rfl) rfl
theorem qc_X5_isDealMinutes : Cond.code yX5_isDealMinutes cX5_isDealMinutes 1 (some .boolean) ∈ TT := tt_2 (List.mem_of_getElem? (i := 23) rfl) rfl
theorem qm_L_167 : Cond.methodLink RL 167 yX5_votesNeeded ∈ TT := tt_2 (List.mem_of_getElem? (i := 24) rfl) rfl
theorem qi_X5_votesNeeded : Cond.instanceMethod yX5_votesNeeded ∈ TT := tt_2 (List.mem_of_getElem? (i := 25) rfl) rfl
theorem qs_X5_votesNeeded : Cond.selects RX5 yX5_votesNeeded yX5_votesNeeded ∈ TT := tt_2 (List.mem_of_getElem? (i := 26) rfl) rfl
theorem qc_X5_votesNeeded : Cond.code yX5_votesNeeded cX5_votesNeeded 1 (some .int) ∈ TT := tt_2 (List.mem_of_getElem? (i := 27) rfl) rfl
theorem qm_X5_236 : Cond.methodLink RX5 236 yX0_missingVotes ∈ TT := tt_2 (List.mem_of_getElem? (i := 28) rfl) rfl
theorem qi_X0_missingVotes : Cond.instanceMethod yX0_missingVotes ∈ TT := tt_2 (List.mem_of_getElem? (i := 29) rfl) rfl
theorem qs_X0_missingVotes : Cond.selects RX0 yX0_missingVotes yX0_missingVotes ∈ TT := tt_2 (List.mem_of_getElem? (i := 30) rfl) rfl
theorem qc_X0_missingVotes : Cond.code yX0_missingVotes cX0_missingVotes 1 (some .int) ∈ TT := tt_2 (List.mem_of_getElem? (i := 31) rfl) rfl
theorem qm_X0_71 : Cond.methodLink RX0 71 yX0_hasMotion ∈ TT := tt_2 (List.mem_of_getElem? (i := 32) rfl) rfl
theorem qi_X0_hasMotion : Cond.instanceMethod yX0_hasMotion ∈ TT := tt_2 (List.mem_of_getElem? (i := 33) rfl) rfl
theorem qs_X0_hasMotion : Cond.selects RX0 yX0_hasMotion yX0_hasMotion ∈ TT := tt_2 (List.mem_of_getElem? (i := 34) rfl) rfl
theorem qc_X0_hasMotion : Cond.code yX0_hasMotion cX0_hasMotion 1 (some .boolean) ∈ TT := tt_2 (List.mem_of_getElem? (i := 35) rfl) rfl
theorem qm_X0_153 : Cond.methodLink RX0 153 yX0_countVoters ∈ TT := tt_2 (List.mem_of_getElem? (i := 36) rfl) rfl
theorem qi_X0_countVoters : Cond.instanceMethod yX0_countVoters ∈ TT := tt_2 (List.mem_of_getElem? (i := 37) rfl) rfl
theorem qs_X0_countVoters : Cond.selects RX0 yX0_countVoters yX0_countVoters ∈ TT := tt_2 (List.mem_of_getElem? (i := 38) rfl) rfl
theorem qc_X0_countVoters : Cond.code yX0_countVoters cX0_countVoters 1 (some .int) ∈ TT := tt_2 (List.mem_of_getElem? (i := 39) rfl) rfl
theorem qm_X0_150 : Cond.methodLink RX0 150 yX0_countThere ∈ TT := tt_2 (List.mem_of_getElem? (i := 40) rfl) rfl
theorem qi_X0_countThere : Cond.instanceMethod yX0_countThere ∈ TT := tt_2 (List.mem_of_getElem? (i := 41) rfl) rfl
theorem qs_X0_countThere : Cond.selects RX0 yX0_countThere yX0_countThere ∈ TT := tt_2 (List.mem_of_getElem? (i := 42) rfl) rfl
theorem qc_X0_countThere : Cond.code yX0_countThere cX0_countThere 3 (some .int) ∈ TT := tt_2 (List.mem_of_getElem? (i := 43) rfl) rfl
theorem qm_X0_156 : Cond.methodLink RX0 156 yX0_countBallots ∈ TT := tt_2 (List.mem_of_getElem? (i := 44) rfl) rfl
theorem qi_X0_countBallots : Cond.instanceMethod yX0_countBallots ∈ TT := tt_2 (List.mem_of_getElem? (i := 45) rfl) rfl
theorem qs_X0_countBallots : Cond.selects RX0 yX0_countBallots yX0_countBallots ∈ TT := tt_2 (List.mem_of_getElem? (i := 46) rfl) rfl
theorem qc_X0_countBallots : Cond.code yX0_countBallots cX0_countBallots 4 (some .int) ∈ TT := tt_2 (List.mem_of_getElem? (i := 47) rfl) rfl
theorem qm_L_174 : Cond.methodLink RL 174 yX5_minuteWorth ∈ TT := tt_2 (List.mem_of_getElem? (i := 48) rfl) rfl
theorem qi_X5_minuteWorth : Cond.instanceMethod yX5_minuteWorth ∈ TT := tt_2 (List.mem_of_getElem? (i := 49) rfl) rfl
theorem qs_X5_minuteWorth : Cond.selects RX5 yX5_minuteWorth yX5_minuteWorth ∈ TT := tt_2 (List.mem_of_getElem? (i := 50) rfl) rfl
theorem qc_X5_minuteWorth : Cond.code yX5_minuteWorth cX5_minuteWorth 1 (some .double) ∈ TT := tt_2 (List.mem_of_getElem? (i := 51) rfl) rfl
theorem qm_X5_244 : Cond.methodLink RX5 244 yX0_valueOfMinute ∈ TT := tt_2 (List.mem_of_getElem? (i := 52) rfl) rfl
theorem qi_X0_valueOfMinute : Cond.instanceMethod yX0_valueOfMinute ∈ TT := tt_2 (List.mem_of_getElem? (i := 53) rfl) rfl
theorem qs_X0_valueOfMinute : Cond.selects RX0 yX0_valueOfMinute yX0_valueOfMinute ∈ TT := tt_2 (List.mem_of_getElem? (i := 54) rfl) rfl
theorem qc_X0_valueOfMinute : Cond.code yX0_valueOfMinute cX0_valueOfMinute 4 (some .double) ∈ TT := tt_2 (List.mem_of_getElem? (i := 55) rfl) rfl
theorem qm_L_179 : Cond.methodLink RL 179 yX5_digest ∈ TT := tt_2 (List.mem_of_getElem? (i := 56) rfl) rfl
theorem qi_X5_digest : Cond.instanceMethod yX5_digest ∈ TT := tt_2 (List.mem_of_getElem? (i := 57) rfl) rfl
theorem qs_X5_digest : Cond.selects RX5 yX5_digest yX5_digest ∈ TT := tt_2 (List.mem_of_getElem? (i := 58) rfl) rfl
theorem qc_X5_digest : Cond.code yX5_digest cX5_digest 4 (some .long) ∈ TT := tt_2 (List.mem_of_getElem? (i := 59) rfl) rfl
theorem ql_X5_248 : Cond.constantLong RX5 248 (2539) ∈ TT := tt_2 (List.mem_of_getElem? (i := 60) rfl) rfl
theorem qm_X5_220 : Cond.methodLink RX5 220 yX5_number ∈ TT := tt_2 (List.mem_of_getElem? (i := 61) rfl) rfl
theorem qi_X5_number : Cond.instanceMethod yX5_number ∈ TT := tt_2 (List.mem_of_getElem? (i := 63) rfl) rfl
theorem qc_X5_number : Cond.code yX5_number cX5_number 2 (some .int) ∈ TT := tt_2 (List.mem_of_getElem? (i := 64) rfl) rfl
theorem qm_X5_270 : Cond.methodLink RX5 270 yX0_countThere ∈ TT := tt_2 (List.mem_of_getElem? (i := 65) rfl) rfl
theorem qm_X5_282 : Cond.methodLink RX5 282 yX0_sumOfCredits ∈ TT := tt_2 (List.mem_of_getElem? (i := 66) rfl) rfl
theorem qi_X0_sumOfCredits : Cond.instanceMethod yX0_sumOfCredits ∈ TT := tt_2 (List.mem_of_getElem? (i := 67) rfl) rfl
theorem qs_X0_sumOfCredits : Cond.selects RX0 yX0_sumOfCredits yX0_sumOfCredits ∈ TT := tt_2 (List.mem_of_getElem? (i := 68) rfl) rfl
theorem qc_X0_sumOfCredits : Cond.code yX0_sumOfCredits cX0_sumOfCredits 3 (some .int) ∈ TT := tt_2 (List.mem_of_getElem? (i := 69) rfl) rfl
theorem qm_X0_163 : Cond.methodLink RX0 163 Lib.Math.max.name ∈ TT := tt_2 (List.mem_of_getElem? (i := 70) rfl) rfl
theorem qt_Mmax : Cond.static Lib.Math.max.name ∈ TT := tt_2 (List.mem_of_getElem? (i := 71) rfl) rfl
theorem qc_Mmax : Cond.code Lib.Math.max.name Lib.Math.max.code 2 (some .int) ∈ TT := tt_2 (List.mem_of_getElem? (i := 72) rfl) rfl
theorem qm_X5_285 : Cond.methodLink RX5 285 yX0_sumOfDebts ∈ TT := tt_2 (List.mem_of_getElem? (i := 73) rfl) rfl
theorem qi_X0_sumOfDebts : Cond.instanceMethod yX0_sumOfDebts ∈ TT := tt_2 (List.mem_of_getElem? (i := 74) rfl) rfl
theorem qs_X0_sumOfDebts : Cond.selects RX0 yX0_sumOfDebts yX0_sumOfDebts ∈ TT := tt_2 (List.mem_of_getElem? (i := 75) rfl) rfl
theorem qc_X0_sumOfDebts : Cond.code yX0_sumOfDebts cX0_sumOfDebts 3 (some .int) ∈ TT := tt_2 (List.mem_of_getElem? (i := 76) rfl) rfl
theorem qm_X0_115 : Cond.methodLink RX0 115 Lib.Math.min.name ∈ TT := tt_2 (List.mem_of_getElem? (i := 77) rfl) rfl
theorem qt_Mmin : Cond.static Lib.Math.min.name ∈ TT := tt_2 (List.mem_of_getElem? (i := 78) rfl) rfl
theorem qc_Mmin : Cond.code Lib.Math.min.name Lib.Math.min.code 2 (some .int) ∈ TT := tt_2 (List.mem_of_getElem? (i := 79) rfl) rfl
theorem qm_X5_288 : Cond.methodLink RX5 288 yX0_sumOfLoans ∈ TT := tt_2 (List.mem_of_getElem? (i := 80) rfl) rfl
theorem qi_X0_sumOfLoans : Cond.instanceMethod yX0_sumOfLoans ∈ TT := tt_2 (List.mem_of_getElem? (i := 81) rfl) rfl
theorem qs_X0_sumOfLoans : Cond.selects RX0 yX0_sumOfLoans yX0_sumOfLoans ∈ TT := tt_2 (List.mem_of_getElem? (i := 82) rfl) rfl
theorem qc_X0_sumOfLoans : Cond.code yX0_sumOfLoans cX0_sumOfLoans 3 (some .int) ∈ TT := tt_2 (List.mem_of_getElem? (i := 83) rfl) rfl
theorem qm_X5_167 : Cond.methodLink RX5 167 yX0_countBallots ∈ TT := tt_2 (List.mem_of_getElem? (i := 84) rfl) rfl
theorem qm_X5_250 : Cond.methodLink RX5 250 yX5_mixed ∈ TT := tt_2 (List.mem_of_getElem? (i := 85) rfl) rfl
theorem qt_X5_mixed : Cond.static yX5_mixed ∈ TT := tt_2 (List.mem_of_getElem? (i := 86) rfl) rfl
theorem qc_X5_mixed : Cond.code yX5_mixed cX5_mixed 4 (some .long) ∈ TT := tt_2 (List.mem_of_getElem? (i := 87) rfl) rfl
theorem ql_X5_297 : Cond.constantLong RX5 297 (31) ∈ TT := tt_2 (List.mem_of_getElem? (i := 88) rfl) rfl
theorem qm_X5_254 : Cond.methodLink RX5 254 yX5_mixedMember ∈ TT := tt_2 (List.mem_of_getElem? (i := 89) rfl) rfl
theorem qi_X5_mixedMember : Cond.instanceMethod yX5_mixedMember ∈ TT := tt_2 (List.mem_of_getElem? (i := 91) rfl) rfl
theorem qc_X5_mixedMember : Cond.code yX5_mixedMember cX5_mixedMember 7 (some .long) ∈ TT := tt_2 (List.mem_of_getElem? (i := 92) rfl) rfl
theorem qm_X5_206 : Cond.methodLink RX5 206 yX0_memberProperty ∈ TT := tt_2 (List.mem_of_getElem? (i := 93) rfl) rfl
theorem qi_X0_memberProperty : Cond.instanceMethod yX0_memberProperty ∈ TT := tt_2 (List.mem_of_getElem? (i := 94) rfl) rfl
theorem qs_X0_memberProperty : Cond.selects RX0 yX0_memberProperty yX0_memberProperty ∈ TT := tt_2 (List.mem_of_getElem? (i := 95) rfl) rfl
theorem qc_X0_memberProperty : Cond.code yX0_memberProperty cX0_memberProperty 4 (some .int) ∈ TT := tt_2 (List.mem_of_getElem? (i := 96) rfl) rfl
theorem qm_X0_166 : Cond.methodLink RX0 166 yX0_canVote ∈ TT := tt_2 (List.mem_of_getElem? (i := 97) rfl) rfl
theorem qi_X0_canVote : Cond.instanceMethod yX0_canVote ∈ TT := tt_2 (List.mem_of_getElem? (i := 98) rfl) rfl
theorem qs_X0_canVote : Cond.selects RX0 yX0_canVote yX0_canVote ∈ TT := tt_2 (List.mem_of_getElem? (i := 99) rfl) rfl
theorem qc_X0_canVote : Cond.code yX0_canVote cX0_canVote 2 (some .boolean) ∈ TT := tt_2 (List.mem_of_getElem? (i := 100) rfl) rfl
theorem qm_X5_215 : Cond.methodLink RX5 215 yX4_ripeness ∈ TT := tt_2 (List.mem_of_getElem? (i := 101) rfl) rfl
theorem qi_X4_ripeness : Cond.instanceMethod yX4_ripeness ∈ TT := tt_2 (List.mem_of_getElem? (i := 102) rfl) rfl
theorem qs_X4_ripeness : Cond.selects RX4 yX4_ripeness yX4_ripeness ∈ TT := tt_2 (List.mem_of_getElem? (i := 103) rfl) rfl
theorem qc_X4_ripeness : Cond.code yX4_ripeness cX4_ripeness 2 (some .int) ∈ TT := tt_2 (List.mem_of_getElem? (i := 104) rfl) rfl
theorem qm_X4_53 : Cond.methodLink RX4 53 Lib.Math.min.name ∈ TT := tt_2 (List.mem_of_getElem? (i := 105) rfl) rfl
theorem qm_X5_226 : Cond.methodLink RX5 226 yX0_longestDeal ∈ TT := tt_2 (List.mem_of_getElem? (i := 106) rfl) rfl
theorem qi_X0_longestDeal : Cond.instanceMethod yX0_longestDeal ∈ TT := tt_2 (List.mem_of_getElem? (i := 107) rfl) rfl
theorem qs_X0_longestDeal : Cond.selects RX0 yX0_longestDeal yX0_longestDeal ∈ TT := tt_2 (List.mem_of_getElem? (i := 108) rfl) rfl
theorem qc_X0_longestDeal : Cond.code yX0_longestDeal cX0_longestDeal 6 (some .int) ∈ TT := tt_2 (List.mem_of_getElem? (i := 109) rfl) rfl
theorem qm_X0_83 : Cond.methodLink RX0 83 yX0_areBothThere ∈ TT := tt_2 (List.mem_of_getElem? (i := 110) rfl) rfl
theorem qi_X0_areBothThere : Cond.instanceMethod yX0_areBothThere ∈ TT := tt_2 (List.mem_of_getElem? (i := 111) rfl) rfl
theorem qs_X0_areBothThere : Cond.selects RX0 yX0_areBothThere yX0_areBothThere ∈ TT := tt_2 (List.mem_of_getElem? (i := 112) rfl) rfl
theorem qc_X0_areBothThere : Cond.code yX0_areBothThere cX0_areBothThere 3 (some .boolean) ∈ TT := tt_2 (List.mem_of_getElem? (i := 113) rfl) rfl
theorem qm_X0_120 : Cond.methodLink RX0 120 yX4_dealRate ∈ TT := tt_2 (List.mem_of_getElem? (i := 114) rfl) rfl
theorem qi_X4_dealRate : Cond.instanceMethod yX4_dealRate ∈ TT := tt_2 (List.mem_of_getElem? (i := 115) rfl) rfl
theorem qs_X4_dealRate : Cond.selects RX4 yX4_dealRate yX4_dealRate ∈ TT := tt_2 (List.mem_of_getElem? (i := 116) rfl) rfl
theorem qc_X4_dealRate : Cond.code yX4_dealRate cX4_dealRate 2 (some .int) ∈ TT := tt_2 (List.mem_of_getElem? (i := 117) rfl) rfl
theorem qm_X4_59 : Cond.methodLink RX4 59 yX4_ripeness ∈ TT := tt_2 (List.mem_of_getElem? (i := 118) rfl) rfl
theorem qm_X5_230 : Cond.methodLink RX5 230 yX0_cheapestGiver ∈ TT := tt_2 (List.mem_of_getElem? (i := 119) rfl) rfl
theorem qi_X0_cheapestGiver : Cond.instanceMethod yX0_cheapestGiver ∈ TT := tt_2 (List.mem_of_getElem? (i := 120) rfl) rfl
theorem qs_X0_cheapestGiver : Cond.selects RX0 yX0_cheapestGiver yX0_cheapestGiver ∈ TT := tt_2 (List.mem_of_getElem? (i := 121) rfl) rfl
theorem qc_X0_cheapestGiver : Cond.code yX0_cheapestGiver cX0_cheapestGiver 6 (some .int) ∈ TT := tt_2 (List.mem_of_getElem? (i := 122) rfl) rfl
theorem qm_X0_124 : Cond.methodLink RX0 124 yX0_allowsDeal ∈ TT := tt_2 (List.mem_of_getElem? (i := 123) rfl) rfl
theorem qi_X0_allowsDeal : Cond.instanceMethod yX0_allowsDeal ∈ TT := tt_2 (List.mem_of_getElem? (i := 124) rfl) rfl
theorem qs_X0_allowsDeal : Cond.selects RX0 yX0_allowsDeal yX0_allowsDeal ∈ TT := tt_2 (List.mem_of_getElem? (i := 125) rfl) rfl
theorem qc_X0_allowsDeal : Cond.code yX0_allowsDeal cX0_allowsDeal 5 (some .boolean) ∈ TT := tt_2 (List.mem_of_getElem? (i := 126) rfl) rfl
theorem qm_X0_79 : Cond.methodLink RX0 79 yX0_isMember ∈ TT := tt_2 (List.mem_of_getElem? (i := 127) rfl) rfl
theorem qi_X0_isMember : Cond.instanceMethod yX0_isMember ∈ TT := tt_2 (List.mem_of_getElem? (i := 128) rfl) rfl
theorem qs_X0_isMember : Cond.selects RX0 yX0_isMember yX0_isMember ∈ TT := tt_2 (List.mem_of_getElem? (i := 129) rfl) rfl
theorem qc_X0_isMember : Cond.code yX0_isMember cX0_isMember 2 (some .boolean) ∈ TT := tt_2 (List.mem_of_getElem? (i := 130) rfl) rfl
theorem qm_X0_87 : Cond.methodLink RX0 87 yX4_dealValue ∈ TT := tt_2 (List.mem_of_getElem? (i := 131) rfl) rfl
theorem qi_X4_dealValue : Cond.instanceMethod yX4_dealValue ∈ TT := tt_2 (List.mem_of_getElem? (i := 132) rfl) rfl
theorem qs_X4_dealValue : Cond.selects RX4 yX4_dealValue yX4_dealValue ∈ TT := tt_2 (List.mem_of_getElem? (i := 133) rfl) rfl
theorem qc_X4_dealValue : Cond.code yX4_dealValue cX4_dealValue 3 (some .int) ∈ TT := tt_2 (List.mem_of_getElem? (i := 134) rfl) rfl
theorem qm_X4_63 : Cond.methodLink RX4 63 yX4_dealRate ∈ TT := tt_2 (List.mem_of_getElem? (i := 135) rfl) rfl
theorem qm_X0_91 : Cond.methodLink RX0 91 yX0_canPay ∈ TT := tt_2 (List.mem_of_getElem? (i := 136) rfl) rfl
theorem qi_X0_canPay : Cond.instanceMethod yX0_canPay ∈ TT := tt_2 (List.mem_of_getElem? (i := 137) rfl) rfl
theorem qs_X0_canPay : Cond.selects RX0 yX0_canPay yX0_canPay ∈ TT := tt_2 (List.mem_of_getElem? (i := 138) rfl) rfl
theorem qc_X0_canPay : Cond.code yX0_canPay cX0_canPay 3 (some .boolean) ∈ TT := tt_2 (List.mem_of_getElem? (i := 139) rfl) rfl
theorem qm_X0_128 : Cond.methodLink RX0 128 yX0_isCheaper ∈ TT := tt_2 (List.mem_of_getElem? (i := 140) rfl) rfl
theorem qi_X0_isCheaper : Cond.instanceMethod yX0_isCheaper ∈ TT := tt_2 (List.mem_of_getElem? (i := 141) rfl) rfl
theorem qs_X0_isCheaper : Cond.selects RX0 yX0_isCheaper yX0_isCheaper ∈ TT := tt_2 (List.mem_of_getElem? (i := 142) rfl) rfl
theorem qc_X0_isCheaper : Cond.code yX0_isCheaper cX0_isCheaper 7 (some .boolean) ∈ TT := tt_2 (List.mem_of_getElem? (i := 143) rfl) rfl
theorem qm_X5_233 : Cond.methodLink RX5 233 yX0_foreseenDecay ∈ TT := tt_2 (List.mem_of_getElem? (i := 144) rfl) rfl
theorem qi_X0_foreseenDecay : Cond.instanceMethod yX0_foreseenDecay ∈ TT := tt_2 (List.mem_of_getElem? (i := 145) rfl) rfl
theorem qs_X0_foreseenDecay : Cond.selects RX0 yX0_foreseenDecay yX0_foreseenDecay ∈ TT := tt_2 (List.mem_of_getElem? (i := 146) rfl) rfl
theorem qc_X0_foreseenDecay : Cond.code yX0_foreseenDecay cX0_foreseenDecay 7 (some .int) ∈ TT := tt_2 (List.mem_of_getElem? (i := 147) rfl) rfl
theorem qt_X5_decayingPart : Cond.static yX5_decayingPart ∈ TT := tt_2 (List.mem_of_getElem? (i := 149) rfl) rfl
theorem qc_X5_decayingPart : Cond.code yX5_decayingPart cX5_decayingPart 2 (some .int) ∈ TT := tt_2 (List.mem_of_getElem? (i := 150) rfl) rfl
theorem qm_X5_241 : Cond.methodLink RX5 241 yX0_mostPractised ∈ TT := tt_2 (List.mem_of_getElem? (i := 151) rfl) rfl
theorem qi_X0_mostPractised : Cond.instanceMethod yX0_mostPractised ∈ TT := tt_2 (List.mem_of_getElem? (i := 152) rfl) rfl
theorem qs_X0_mostPractised : Cond.selects RX0 yX0_mostPractised yX0_mostPractised ∈ TT := tt_2 (List.mem_of_getElem? (i := 153) rfl) rfl
theorem qc_X0_mostPractised : Cond.code yX0_mostPractised cX0_mostPractised 4 (some .int) ∈ TT := tt_2 (List.mem_of_getElem? (i := 154) rfl) rfl
theorem qm_X5_258 : Cond.methodLink RX5 258 yX5_bitsOfWorth ∈ TT := tt_2 (List.mem_of_getElem? (i := 155) rfl) rfl
theorem qt_X5_bitsOfWorth : Cond.static yX5_bitsOfWorth ∈ TT := tt_2 (List.mem_of_getElem? (i := 156) rfl) rfl
theorem qc_X5_bitsOfWorth : Cond.code yX5_bitsOfWorth cX5_bitsOfWorth 2 (some .long) ∈ TT := tt_2 (List.mem_of_getElem? (i := 157) rfl) rfl
theorem ql_X5_299 : Cond.constantLong RX5 299 (4607182418800017408) ∈ TT := tt_2 (List.mem_of_getElem? (i := 158) rfl) rfl
theorem qd_X5_301 : Cond.constantDouble RX5 301 (4841369599423283200) ∈ TT := tt_2 (List.mem_of_getElem? (i := 159) rfl) rfl
theorem qm_X5_262 : Cond.methodLink RX5 262 yX5_mixedText ∈ TT := tt_2 (List.mem_of_getElem? (i := 160) rfl) rfl
theorem qi_X5_mixedText : Cond.instanceMethod yX5_mixedText ∈ TT := tt_2 (List.mem_of_getElem? (i := 162) rfl) rfl
theorem qc_X5_mixedText : Cond.code yX5_mixedText cX5_mixedText 6 (some .long) ∈ TT := tt_2 (List.mem_of_getElem? (i := 163) rfl) rfl
theorem qm_L_88 : Cond.methodLink RL 88 yL_join ∈ TT := tt_2 (List.mem_of_getElem? (i := 164) rfl) rfl
theorem qt_L_join : Cond.static yL_join ∈ TT := tt_2 (List.mem_of_getElem? (i := 165) rfl) rfl
theorem qw_L_join : Cond.codeWith yL_join cL_join 3 (some .int) [(0, 8, 11, 13)] ∈ TT := tt_2 (List.mem_of_getElem? (i := 166) rfl) rfl
theorem qk_L_13 : Cond.classLink RL 13 "java/lang/IllegalStateException" ∈ TT := tt_2 (List.mem_of_getElem? (i := 167) rfl) rfl
theorem qm_L_7 : Cond.methodLink RL 7 yX5_join ∈ TT := tt_2 (List.mem_of_getElem? (i := 168) rfl) rfl
theorem qi_X5_join : Cond.instanceMethod yX5_join ∈ TT := tt_2 (List.mem_of_getElem? (i := 169) rfl) rfl
theorem qs_X5_join : Cond.selects RX5 yX5_join yX5_join ∈ TT := tt_2 (List.mem_of_getElem? (i := 170) rfl) rfl
theorem qc_X5_join : Cond.code yX5_join cX5_join 1 (some .int) ∈ TT := tt_2 (List.mem_of_getElem? (i := 171) rfl) rfl
theorem qk_X5_34 : Cond.classLink RX5 34 "java/lang/IllegalStateException" ∈ TT := tt_2 (List.mem_of_getElem? (i := 172) rfl) rfl
theorem qr_byte : Cond.arrayClass .byte ∈ TT := tt_2 (List.mem_of_getElem? (i := 239) rfl) rfl
theorem qm_X5_41 : Cond.methodLink RX5 41 yX3_keep ∈ TT := tt_3 (List.mem_of_getElem? (i := 0) rfl) rfl
theorem qi_X3_keep : Cond.instanceMethod yX3_keep ∈ TT := tt_3 (List.mem_of_getElem? (i := 1) rfl) rfl
theorem qs_X3_keep : Cond.selects RX3 yX3_keep yX3_keep ∈ TT := tt_3 (List.mem_of_getElem? (i := 2) rfl) rfl
theorem qc_X3_keep : Cond.code yX3_keep cX3_keep 2 none ∈ TT := tt_3 (List.mem_of_getElem? (i := 3) rfl) rfl
theorem qm_X3_22 : Cond.methodLink RX3 22 yX0_copyFrom ∈ TT := tt_3 (List.mem_of_getElem? (i := 4) rfl) rfl
theorem qi_X0_copyFrom : Cond.instanceMethod yX0_copyFrom ∈ TT := tt_3 (List.mem_of_getElem? (i := 5) rfl) rfl
theorem qs_X0_copyFrom : Cond.selects RX0 yX0_copyFrom yX0_copyFrom ∈ TT := tt_3 (List.mem_of_getElem? (i := 6) rfl) rfl
theorem qc_X0_copyFrom : Cond.code yX0_copyFrom cX0_copyFrom 3 none ∈ TT := tt_3 (List.mem_of_getElem? (i := 7) rfl) rfl
theorem qm_X0_29 : Cond.methodLink RX0 29 yX4_copyFrom ∈ TT := tt_3 (List.mem_of_getElem? (i := 8) rfl) rfl
theorem qi_X4_copyFrom : Cond.instanceMethod yX4_copyFrom ∈ TT := tt_3 (List.mem_of_getElem? (i := 9) rfl) rfl
theorem qs_X4_copyFrom : Cond.selects RX4 yX4_copyFrom yX4_copyFrom ∈ TT := tt_3 (List.mem_of_getElem? (i := 10) rfl) rfl
theorem qc_X4_copyFrom : Cond.code yX4_copyFrom cX4_copyFrom 3 none ∈ TT := tt_3 (List.mem_of_getElem? (i := 11) rfl) rfl
theorem qm_X3_29 : Cond.methodLink RX3 29 Lib.Math.min.name ∈ TT := tt_3 (List.mem_of_getElem? (i := 12) rfl) rfl
theorem qm_X5_45 : Cond.methodLink RX5 45 yX0_admit ∈ TT := tt_3 (List.mem_of_getElem? (i := 13) rfl) rfl
theorem qi_X0_admit : Cond.instanceMethod yX0_admit ∈ TT := tt_3 (List.mem_of_getElem? (i := 14) rfl) rfl
theorem qs_X0_admit : Cond.selects RX0 yX0_admit yX0_admit ∈ TT := tt_3 (List.mem_of_getElem? (i := 15) rfl) rfl
theorem qc_X0_admit : Cond.code yX0_admit cX0_admit 3 (some .int) ∈ TT := tt_3 (List.mem_of_getElem? (i := 16) rfl) rfl
theorem qm_L_97 : Cond.methodLink RL 97 yL_leave ∈ TT := tt_3 (List.mem_of_getElem? (i := 17) rfl) rfl
theorem qt_L_leave : Cond.static yL_leave ∈ TT := tt_3 (List.mem_of_getElem? (i := 18) rfl) rfl
theorem qw_L_leave : Cond.codeWith yL_leave cL_leave 4 (some .int) [(0, 9, 12, 19), (0, 9, 15, 13)] ∈ TT := tt_3 (List.mem_of_getElem? (i := 19) rfl) rfl
theorem qk_L_19 : Cond.classLink RL 19 "java/lang/IndexOutOfBoundsException" ∈ TT := tt_3 (List.mem_of_getElem? (i := 20) rfl) rfl
theorem qm_L_15 : Cond.methodLink RL 15 yX5_leave ∈ TT := tt_3 (List.mem_of_getElem? (i := 21) rfl) rfl
theorem qi_X5_leave : Cond.instanceMethod yX5_leave ∈ TT := tt_3 (List.mem_of_getElem? (i := 22) rfl) rfl
theorem qs_X5_leave : Cond.selects RX5 yX5_leave yX5_leave ∈ TT := tt_3 (List.mem_of_getElem? (i := 23) rfl) rfl
theorem qc_X5_leave : Cond.code yX5_leave cX5_leave 2 (some .int) ∈ TT := tt_3 (List.mem_of_getElem? (i := 24) rfl) rfl
theorem qm_X5_49 : Cond.methodLink RX5 49 yX0_isMember ∈ TT := tt_3 (List.mem_of_getElem? (i := 25) rfl) rfl
theorem qk_X5_53 : Cond.classLink RX5 53 "java/lang/IndexOutOfBoundsException" ∈ TT := tt_3 (List.mem_of_getElem? (i := 26) rfl) rfl
theorem qm_X5_73 : Cond.methodLink RX5 73 yX0_dismiss ∈ TT := tt_3 (List.mem_of_getElem? (i := 43) rfl) rfl
theorem qi_X0_dismiss : Cond.instanceMethod yX0_dismiss ∈ TT := tt_3 (List.mem_of_getElem? (i := 44) rfl) rfl
theorem qs_X0_dismiss : Cond.selects RX0 yX0_dismiss yX0_dismiss ∈ TT := tt_3 (List.mem_of_getElem? (i := 45) rfl) rfl
theorem qc_X0_dismiss : Cond.code yX0_dismiss cX0_dismiss 4 (some .int) ∈ TT := tt_3 (List.mem_of_getElem? (i := 46) rfl) rfl
theorem qm_X0_61 : Cond.methodLink RX0 61 yX0_payToCommon ∈ TT := tt_3 (List.mem_of_getElem? (i := 47) rfl) rfl
theorem qi_X0_payToCommon : Cond.instanceMethod yX0_payToCommon ∈ TT := tt_3 (List.mem_of_getElem? (i := 48) rfl) rfl
theorem qs_X0_payToCommon : Cond.selects RX0 yX0_payToCommon yX0_payToCommon ∈ TT := tt_3 (List.mem_of_getElem? (i := 49) rfl) rfl
theorem qc_X0_payToCommon : Cond.code yX0_payToCommon cX0_payToCommon 3 none ∈ TT := tt_3 (List.mem_of_getElem? (i := 50) rfl) rfl
theorem qm_X0_68 : Cond.methodLink RX0 68 yX0_dropMotion ∈ TT := tt_3 (List.mem_of_getElem? (i := 51) rfl) rfl
theorem qi_X0_dropMotion : Cond.instanceMethod yX0_dropMotion ∈ TT := tt_3 (List.mem_of_getElem? (i := 52) rfl) rfl
theorem qs_X0_dropMotion : Cond.selects RX0 yX0_dropMotion yX0_dropMotion ∈ TT := tt_3 (List.mem_of_getElem? (i := 53) rfl) rfl
theorem qc_X0_dropMotion : Cond.code yX0_dropMotion cX0_dropMotion 2 none ∈ TT := tt_3 (List.mem_of_getElem? (i := 54) rfl) rfl
theorem qm_X0_75 : Cond.methodLink RX0 75 yX0_settleMotion ∈ TT := tt_3 (List.mem_of_getElem? (i := 55) rfl) rfl
theorem qi_X0_settleMotion : Cond.instanceMethod yX0_settleMotion ∈ TT := tt_3 (List.mem_of_getElem? (i := 56) rfl) rfl
theorem qs_X0_settleMotion : Cond.selects RX0 yX0_settleMotion yX0_settleMotion ∈ TT := tt_3 (List.mem_of_getElem? (i := 57) rfl) rfl
theorem qc_X0_settleMotion : Cond.code yX0_settleMotion cX0_settleMotion 2 (some .int) ∈ TT := tt_3 (List.mem_of_getElem? (i := 58) rfl) rfl
theorem qm_X0_159 : Cond.methodLink RX0 159 yX0_forgive ∈ TT := tt_3 (List.mem_of_getElem? (i := 59) rfl) rfl
theorem qi_X0_forgive : Cond.instanceMethod yX0_forgive ∈ TT := tt_3 (List.mem_of_getElem? (i := 60) rfl) rfl
theorem qs_X0_forgive : Cond.selects RX0 yX0_forgive yX0_forgive ∈ TT := tt_3 (List.mem_of_getElem? (i := 61) rfl) rfl
theorem qc_X0_forgive : Cond.code yX0_forgive cX0_forgive 1 none ∈ TT := tt_3 (List.mem_of_getElem? (i := 62) rfl) rfl
theorem qm_L_101 : Cond.methodLink RL 101 yL_give ∈ TT := tt_3 (List.mem_of_getElem? (i := 63) rfl) rfl
theorem qt_L_give : Cond.static yL_give ∈ TT := tt_3 (List.mem_of_getElem? (i := 64) rfl) rfl
theorem qw_L_give : Cond.codeWith yL_give cL_give 7 (some .int) [(0, 14, 17, 19), (0, 14, 21, 25), (0, 14, 25, 13)] ∈ TT := tt_3 (List.mem_of_getElem? (i := 65) rfl) rfl
theorem qk_L_25 : Cond.classLink RL 25 "java/lang/IllegalArgumentException" ∈ TT := tt_3 (List.mem_of_getElem? (i := 66) rfl) rfl
theorem qm_L_21 : Cond.methodLink RL 21 yX5_give ∈ TT := tt_3 (List.mem_of_getElem? (i := 67) rfl) rfl
theorem qi_X5_give : Cond.instanceMethod yX5_give ∈ TT := tt_3 (List.mem_of_getElem? (i := 68) rfl) rfl
theorem qs_X5_give : Cond.selects RX5 yX5_give yX5_give ∈ TT := tt_3 (List.mem_of_getElem? (i := 69) rfl) rfl
theorem qc_X5_give : Cond.code yX5_give cX5_give 5 (some .int) ∈ TT := tt_3 (List.mem_of_getElem? (i := 70) rfl) rfl
theorem qm_X5_77 : Cond.methodLink RX5 77 yX5_isSkill ∈ TT := tt_3 (List.mem_of_getElem? (i := 71) rfl) rfl
theorem qm_X5_82 : Cond.methodLink RX5 82 yX5_isDealMinutes ∈ TT := tt_3 (List.mem_of_getElem? (i := 73) rfl) rfl
theorem qk_X5_85 : Cond.classLink RX5 85 "java/lang/IllegalArgumentException" ∈ TT := tt_3 (List.mem_of_getElem? (i := 74) rfl) rfl
theorem qm_X5_90 : Cond.methodLink RX5 90 yX0_allowsDeal ∈ TT := tt_3 (List.mem_of_getElem? (i := 90) rfl) rfl
theorem qm_X5_96 : Cond.methodLink RX5 96 yX0_makeDeal ∈ TT := tt_3 (List.mem_of_getElem? (i := 92) rfl) rfl
theorem qi_X0_makeDeal : Cond.instanceMethod yX0_makeDeal ∈ TT := tt_3 (List.mem_of_getElem? (i := 93) rfl) rfl
theorem qs_X0_makeDeal : Cond.selects RX0 yX0_makeDeal yX0_makeDeal ∈ TT := tt_3 (List.mem_of_getElem? (i := 94) rfl) rfl
theorem qc_X0_makeDeal : Cond.code yX0_makeDeal cX0_makeDeal 8 (some .int) ∈ TT := tt_3 (List.mem_of_getElem? (i := 95) rfl) rfl
theorem qm_X0_109 : Cond.methodLink RX0 109 yX4_practise ∈ TT := tt_3 (List.mem_of_getElem? (i := 96) rfl) rfl
theorem qi_X4_practise : Cond.instanceMethod yX4_practise ∈ TT := tt_3 (List.mem_of_getElem? (i := 97) rfl) rfl
theorem qs_X4_practise : Cond.selects RX4 yX4_practise yX4_practise ∈ TT := tt_3 (List.mem_of_getElem? (i := 98) rfl) rfl
theorem qc_X4_practise : Cond.code yX4_practise cX4_practise 3 none ∈ TT := tt_3 (List.mem_of_getElem? (i := 99) rfl) rfl
theorem qm_X0_112 : Cond.methodLink RX0 112 yX0_payLoanBack ∈ TT := tt_3 (List.mem_of_getElem? (i := 100) rfl) rfl
theorem qi_X0_payLoanBack : Cond.instanceMethod yX0_payLoanBack ∈ TT := tt_3 (List.mem_of_getElem? (i := 101) rfl) rfl
theorem qs_X0_payLoanBack : Cond.selects RX0 yX0_payLoanBack yX0_payLoanBack ∈ TT := tt_3 (List.mem_of_getElem? (i := 102) rfl) rfl
theorem qc_X0_payLoanBack : Cond.code yX0_payLoanBack cX0_payLoanBack 4 none ∈ TT := tt_3 (List.mem_of_getElem? (i := 103) rfl) rfl
theorem qm_L_105 : Cond.methodLink RL 105 yL_donate ∈ TT := tt_3 (List.mem_of_getElem? (i := 104) rfl) rfl
theorem qt_L_donate : Cond.static yL_donate ∈ TT := tt_3 (List.mem_of_getElem? (i := 105) rfl) rfl
theorem qw_L_donate : Cond.codeWith yL_donate cL_donate 5 (some .int) [(0, 10, 13, 19), (0, 10, 17, 25), (0, 10, 21, 13)] ∈ TT := tt_3 (List.mem_of_getElem? (i := 106) rfl) rfl
theorem qm_L_27 : Cond.methodLink RL 27 yX5_donate ∈ TT := tt_3 (List.mem_of_getElem? (i := 107) rfl) rfl
theorem qi_X5_donate : Cond.instanceMethod yX5_donate ∈ TT := tt_3 (List.mem_of_getElem? (i := 108) rfl) rfl
theorem qs_X5_donate : Cond.selects RX5 yX5_donate yX5_donate ∈ TT := tt_3 (List.mem_of_getElem? (i := 109) rfl) rfl
theorem qc_X5_donate : Cond.code yX5_donate cX5_donate 3 (some .int) ∈ TT := tt_3 (List.mem_of_getElem? (i := 110) rfl) rfl
theorem qm_X5_108 : Cond.methodLink RX5 108 yX0_payToCommon ∈ TT := tt_3 (List.mem_of_getElem? (i := 113) rfl) rfl
theorem qm_L_109 : Cond.methodLink RL 109 yL_pass ∈ TT := tt_3 (List.mem_of_getElem? (i := 114) rfl) rfl
theorem qt_L_pass : Cond.static yL_pass ∈ TT := tt_3 (List.mem_of_getElem? (i := 115) rfl) rfl
theorem qw_L_pass : Cond.codeWith yL_pass cL_pass 4 (some .int) [(0, 9, 12, 25), (0, 9, 15, 13)] ∈ TT := tt_3 (List.mem_of_getElem? (i := 116) rfl) rfl
theorem qm_L_31 : Cond.methodLink RL 31 yX5_pass ∈ TT := tt_3 (List.mem_of_getElem? (i := 117) rfl) rfl
theorem qi_X5_pass : Cond.instanceMethod yX5_pass ∈ TT := tt_3 (List.mem_of_getElem? (i := 118) rfl) rfl
theorem qs_X5_pass : Cond.selects RX5 yX5_pass yX5_pass ∈ TT := tt_3 (List.mem_of_getElem? (i := 119) rfl) rfl
theorem qc_X5_pass : Cond.code yX5_pass cX5_pass 4 (some .int) ∈ TT := tt_3 (List.mem_of_getElem? (i := 120) rfl) rfl
theorem qm_X5_119 : Cond.methodLink RX5 119 yX0_endWeek ∈ TT := tt_3 (List.mem_of_getElem? (i := 123) rfl) rfl
theorem qi_X0_endWeek : Cond.instanceMethod yX0_endWeek ∈ TT := tt_3 (List.mem_of_getElem? (i := 124) rfl) rfl
theorem qs_X0_endWeek : Cond.selects RX0 yX0_endWeek yX0_endWeek ∈ TT := tt_3 (List.mem_of_getElem? (i := 125) rfl) rfl
theorem qc_X0_endWeek : Cond.code yX0_endWeek cX0_endWeek 3 (some .int) ∈ TT := tt_3 (List.mem_of_getElem? (i := 126) rfl) rfl
theorem qm_X0_134 : Cond.methodLink RX0 134 yX0_endWeekOf ∈ TT := tt_3 (List.mem_of_getElem? (i := 127) rfl) rfl
theorem qi_X0_endWeekOf : Cond.instanceMethod yX0_endWeekOf ∈ TT := tt_3 (List.mem_of_getElem? (i := 128) rfl) rfl
theorem qs_X0_endWeekOf : Cond.selects RX0 yX0_endWeekOf yX0_endWeekOf ∈ TT := tt_3 (List.mem_of_getElem? (i := 129) rfl) rfl
theorem qc_X0_endWeekOf : Cond.code yX0_endWeekOf cX0_endWeekOf 4 (some .int) ∈ TT := tt_3 (List.mem_of_getElem? (i := 130) rfl) rfl
theorem qm_X0_146 : Cond.methodLink RX0 146 yX4_rust ∈ TT := tt_3 (List.mem_of_getElem? (i := 131) rfl) rfl
theorem qi_X4_rust : Cond.instanceMethod yX4_rust ∈ TT := tt_3 (List.mem_of_getElem? (i := 132) rfl) rfl
theorem qs_X4_rust : Cond.selects RX4 yX4_rust yX4_rust ∈ TT := tt_3 (List.mem_of_getElem? (i := 133) rfl) rfl
theorem qc_X4_rust : Cond.code yX4_rust cX4_rust 3 none ∈ TT := tt_3 (List.mem_of_getElem? (i := 134) rfl) rfl
theorem qm_X4_66 : Cond.methodLink RX4 66 Lib.Math.max.name ∈ TT := tt_3 (List.mem_of_getElem? (i := 135) rfl) rfl
theorem qm_L_112 : Cond.methodLink RL 112 yL_set ∈ TT := tt_3 (List.mem_of_getElem? (i := 136) rfl) rfl
theorem qt_L_set : Cond.static yL_set ∈ TT := tt_3 (List.mem_of_getElem? (i := 137) rfl) rfl
theorem qw_L_set : Cond.codeWith yL_set cL_set 5 (some .int) [(0, 10, 13, 19), (0, 10, 17, 25)] ∈ TT := tt_3 (List.mem_of_getElem? (i := 138) rfl) rfl
theorem qm_L_34 : Cond.methodLink RL 34 yX5_set ∈ TT := tt_3 (List.mem_of_getElem? (i := 139) rfl) rfl
theorem qi_X5_set : Cond.instanceMethod yX5_set ∈ TT := tt_3 (List.mem_of_getElem? (i := 140) rfl) rfl
theorem qs_X5_set : Cond.selects RX5 yX5_set yX5_set ∈ TT := tt_3 (List.mem_of_getElem? (i := 141) rfl) rfl
theorem qc_X5_set : Cond.code yX5_set cX5_set 4 (some .int) ∈ TT := tt_3 (List.mem_of_getElem? (i := 142) rfl) rfl
theorem qm_X5_122 : Cond.methodLink RX5 122 yX5_isSetting ∈ TT := tt_3 (List.mem_of_getElem? (i := 143) rfl) rfl
theorem qt_X5_isSetting : Cond.static yX5_isSetting ∈ TT := tt_3 (List.mem_of_getElem? (i := 144) rfl) rfl
theorem qc_X5_isSetting : Cond.code yX5_isSetting cX5_isSetting 1 (some .boolean) ∈ TT := tt_3 (List.mem_of_getElem? (i := 145) rfl) rfl
theorem qf_X5_127 : Cond.fieldLink RX5 127 "RipeHours" "GREATEST_SETTINGS" "[I" ∈ TT := tt_3 (List.mem_of_getElem? (i := 147) rfl) rfl
theorem qm_L_115 : Cond.methodLink RL 115 yL_move ∈ TT := tt_3 (List.mem_of_getElem? (i := 150) rfl) rfl
theorem qt_L_move : Cond.static yL_move ∈ TT := tt_3 (List.mem_of_getElem? (i := 151) rfl) rfl
theorem qw_L_move : Cond.codeWith yL_move cL_move 5 (some .int) [(0, 10, 13, 19), (0, 10, 17, 25), (0, 10, 21, 13)] ∈ TT := tt_3 (List.mem_of_getElem? (i := 152) rfl) rfl
theorem qm_L_37 : Cond.methodLink RL 37 yX5_move ∈ TT := tt_3 (List.mem_of_getElem? (i := 153) rfl) rfl
theorem qi_X5_move : Cond.instanceMethod yX5_move ∈ TT := tt_3 (List.mem_of_getElem? (i := 154) rfl) rfl
theorem qs_X5_move : Cond.selects RX5 yX5_move yX5_move ∈ TT := tt_3 (List.mem_of_getElem? (i := 155) rfl) rfl
theorem qc_X5_move : Cond.code yX5_move cX5_move 3 (some .int) ∈ TT := tt_3 (List.mem_of_getElem? (i := 156) rfl) rfl
theorem qm_X5_138 : Cond.methodLink RX5 138 yX0_allowsMotion ∈ TT := tt_3 (List.mem_of_getElem? (i := 158) rfl) rfl
theorem qi_X0_allowsMotion : Cond.instanceMethod yX0_allowsMotion ∈ TT := tt_3 (List.mem_of_getElem? (i := 159) rfl) rfl
theorem qs_X0_allowsMotion : Cond.selects RX0 yX0_allowsMotion yX0_allowsMotion ∈ TT := tt_3 (List.mem_of_getElem? (i := 160) rfl) rfl
theorem qc_X0_allowsMotion : Cond.code yX0_allowsMotion cX0_allowsMotion 3 (some .boolean) ∈ TT := tt_3 (List.mem_of_getElem? (i := 161) rfl) rfl
theorem qm_X5_144 : Cond.methodLink RX5 144 yX0_openMotion ∈ TT := tt_3 (List.mem_of_getElem? (i := 163) rfl) rfl
theorem qi_X0_openMotion : Cond.instanceMethod yX0_openMotion ∈ TT := tt_3 (List.mem_of_getElem? (i := 164) rfl) rfl
theorem qs_X0_openMotion : Cond.selects RX0 yX0_openMotion yX0_openMotion ∈ TT := tt_3 (List.mem_of_getElem? (i := 165) rfl) rfl
theorem qc_X0_openMotion : Cond.code yX0_openMotion cX0_openMotion 3 none ∈ TT := tt_3 (List.mem_of_getElem? (i := 166) rfl) rfl
theorem qm_X5_147 : Cond.methodLink RX5 147 yX0_countVoters ∈ TT := tt_3 (List.mem_of_getElem? (i := 167) rfl) rfl
theorem qm_L_118 : Cond.methodLink RL 118 yL_vote ∈ TT := tt_3 (List.mem_of_getElem? (i := 168) rfl) rfl
theorem qt_L_vote : Cond.static yL_vote ∈ TT := tt_3 (List.mem_of_getElem? (i := 169) rfl) rfl
theorem qw_L_vote : Cond.codeWith yL_vote cL_vote 5 (some .int) [(0, 10, 13, 19), (0, 10, 17, 13)] ∈ TT := tt_3 (List.mem_of_getElem? (i := 170) rfl) rfl
theorem qm_L_40 : Cond.methodLink RL 40 yX5_vote ∈ TT := tt_3 (List.mem_of_getElem? (i := 171) rfl) rfl
theorem qi_X5_vote : Cond.instanceMethod yX5_vote ∈ TT := tt_3 (List.mem_of_getElem? (i := 172) rfl) rfl
theorem qs_X5_vote : Cond.selects RX5 yX5_vote yX5_vote ∈ TT := tt_3 (List.mem_of_getElem? (i := 173) rfl) rfl
theorem qc_X5_vote : Cond.code yX5_vote cX5_vote 3 (some .int) ∈ TT := tt_3 (List.mem_of_getElem? (i := 174) rfl) rfl
theorem qm_X5_150 : Cond.methodLink RX5 150 yX0_canVote ∈ TT := tt_3 (List.mem_of_getElem? (i := 175) rfl) rfl
theorem qm_X5_158 : Cond.methodLink RX5 158 yX0_settleMotion ∈ TT := tt_3 (List.mem_of_getElem? (i := 177) rfl) rfl
theorem qm_L_122 : Cond.methodLink RL 122 yL_takeBack ∈ TT := tt_3 (List.mem_of_getElem? (i := 178) rfl) rfl
theorem qt_L_takeBack : Cond.static yL_takeBack ∈ TT := tt_3 (List.mem_of_getElem? (i := 179) rfl) rfl
theorem qw_L_takeBack : Cond.codeWith yL_takeBack cL_takeBack 3 (some .int) [(0, 8, 11, 13)] ∈ TT := tt_3 (List.mem_of_getElem? (i := 180) rfl) rfl
theorem qm_L_44 : Cond.methodLink RL 44 yX5_takeBack ∈ TT := tt_3 (List.mem_of_getElem? (i := 181) rfl) rfl
theorem qi_X5_takeBack : Cond.instanceMethod yX5_takeBack ∈ TT := tt_3 (List.mem_of_getElem? (i := 182) rfl) rfl
theorem qs_X5_takeBack : Cond.selects RX5 yX5_takeBack yX5_takeBack ∈ TT := tt_3 (List.mem_of_getElem? (i := 183) rfl) rfl
theorem qc_X5_takeBack : Cond.code yX5_takeBack cX5_takeBack 2 (some .int) ∈ TT := tt_3 (List.mem_of_getElem? (i := 184) rfl) rfl
theorem qm_X5_161 : Cond.methodLink RX5 161 yX0_hasMotion ∈ TT := tt_3 (List.mem_of_getElem? (i := 185) rfl) rfl
theorem qm_X5_170 : Cond.methodLink RX5 170 yX0_dropMotion ∈ TT := tt_3 (List.mem_of_getElem? (i := 187) rfl) rfl
theorem qm_L_125 : Cond.methodLink RL 125 yL_append ∈ TT := tt_3 (List.mem_of_getElem? (i := 188) rfl) rfl
theorem qt_L_append : Cond.static yL_append ∈ TT := tt_3 (List.mem_of_getElem? (i := 189) rfl) rfl
theorem qw_L_append : Cond.codeWith yL_append cL_append 4 (some .int) [(0, 9, 12, 25), (0, 9, 15, 13)] ∈ TT := tt_3 (List.mem_of_getElem? (i := 190) rfl) rfl
theorem qm_L_47 : Cond.methodLink RL 47 yX5_append ∈ TT := tt_3 (List.mem_of_getElem? (i := 191) rfl) rfl
theorem qi_X5_append : Cond.instanceMethod yX5_append ∈ TT := tt_3 (List.mem_of_getElem? (i := 192) rfl) rfl
theorem qs_X5_append : Cond.selects RX5 yX5_append yX5_append ∈ TT := tt_3 (List.mem_of_getElem? (i := 193) rfl) rfl
theorem qc_X5_append : Cond.code yX5_append cX5_append 2 (some .int) ∈ TT := tt_3 (List.mem_of_getElem? (i := 194) rfl) rfl
theorem qm_X5_180 : Cond.methodLink RX5 180 yX2_addSign ∈ TT := tt_3 (List.mem_of_getElem? (i := 197) rfl) rfl
theorem qi_X2_addSign : Cond.instanceMethod yX2_addSign ∈ TT := tt_3 (List.mem_of_getElem? (i := 198) rfl) rfl
theorem qs_X2_addSign : Cond.selects RX2 yX2_addSign yX2_addSign ∈ TT := tt_3 (List.mem_of_getElem? (i := 199) rfl) rfl
theorem qc_X2_addSign : Cond.code yX2_addSign cX2_addSign 2 none ∈ TT := tt_3 (List.mem_of_getElem? (i := 200) rfl) rfl
theorem qm_L_136 : Cond.methodLink RL 136 yL_run ∈ TT := tt_3 (List.mem_of_getElem? (i := 201) rfl) rfl
theorem qt_L_run : Cond.static yL_run ∈ TT := tt_3 (List.mem_of_getElem? (i := 202) rfl) rfl
theorem qw_L_run : Cond.codeWith yL_run cL_run 3 (some .int) [(0, 8, 11, 25)] ∈ TT := tt_3 (List.mem_of_getElem? (i := 203) rfl) rfl
theorem qm_L_50 : Cond.methodLink RL 50 yX5_run ∈ TT := tt_3 (List.mem_of_getElem? (i := 204) rfl) rfl
theorem qi_X5_run : Cond.instanceMethod yX5_run ∈ TT := tt_3 (List.mem_of_getElem? (i := 205) rfl) rfl
theorem qs_X5_run : Cond.selects RX5 yX5_run yX5_run ∈ TT := tt_3 (List.mem_of_getElem? (i := 206) rfl) rfl
theorem qc_X5_run : Cond.code yX5_run cX5_run 2 (some .int) ∈ TT := tt_3 (List.mem_of_getElem? (i := 207) rfl) rfl
theorem qm_X5_187 : Cond.methodLink RX5 187 yX2_isWholeRow ∈ TT := tt_3 (List.mem_of_getElem? (i := 208) rfl) rfl
theorem qi_X2_isWholeRow : Cond.instanceMethod yX2_isWholeRow ∈ TT := tt_3 (List.mem_of_getElem? (i := 209) rfl) rfl
theorem qs_X2_isWholeRow : Cond.selects RX2 yX2_isWholeRow yX2_isWholeRow ∈ TT := tt_3 (List.mem_of_getElem? (i := 210) rfl) rfl
theorem qc_X2_isWholeRow : Cond.code yX2_isWholeRow cX2_isWholeRow 1 (some .boolean) ∈ TT := tt_3 (List.mem_of_getElem? (i := 211) rfl) rfl
theorem qm_X2_33 : Cond.methodLink RX2 33 yX2_findError ∈ TT := tt_3 (List.mem_of_getElem? (i := 212) rfl) rfl
theorem qm_X2_37 : Cond.methodLink RX2 37 yX1_isDealWhole ∈ TT := tt_3 (List.mem_of_getElem? (i := 213) rfl) rfl
theorem qm_X5_192 : Cond.methodLink RX5 192 yX2_makeDeals ∈ TT := tt_3 (List.mem_of_getElem? (i := 215) rfl) rfl
theorem qi_X2_makeDeals : Cond.instanceMethod yX2_makeDeals ∈ TT := tt_3 (List.mem_of_getElem? (i := 216) rfl) rfl
theorem qs_X2_makeDeals : Cond.selects RX2 yX2_makeDeals yX2_makeDeals ∈ TT := tt_3 (List.mem_of_getElem? (i := 217) rfl) rfl
theorem qc_X2_makeDeals : Cond.code yX2_makeDeals cX2_makeDeals 4 (some .int) ∈ TT := tt_3 (List.mem_of_getElem? (i := 218) rfl) rfl
theorem qm_X2_41 : Cond.methodLink RX2 41 yX1_makesDeal ∈ TT := tt_3 (List.mem_of_getElem? (i := 219) rfl) rfl
theorem qi_X1_makesDeal : Cond.instanceMethod yX1_makesDeal ∈ TT := tt_3 (List.mem_of_getElem? (i := 220) rfl) rfl
theorem qs_X1_makesDeal : Cond.selects RX1 yX1_makesDeal yX1_makesDeal ∈ TT := tt_3 (List.mem_of_getElem? (i := 221) rfl) rfl
theorem qc_X1_makesDeal : Cond.code yX1_makesDeal cX1_makesDeal 2 (some .boolean) ∈ TT := tt_3 (List.mem_of_getElem? (i := 222) rfl) rfl
theorem qm_X1_64 : Cond.methodLink RX1 64 yX0_allowsDeal ∈ TT := tt_3 (List.mem_of_getElem? (i := 223) rfl) rfl
theorem qm_X1_70 : Cond.methodLink RX1 70 yX0_makeDeal ∈ TT := tt_3 (List.mem_of_getElem? (i := 224) rfl) rfl
theorem qm_L_139 : Cond.methodLink RL 139 yL_undo ∈ TT := tt_3 (List.mem_of_getElem? (i := 225) rfl) rfl
theorem qt_L_undo : Cond.static yL_undo ∈ TT := tt_3 (List.mem_of_getElem? (i := 226) rfl) rfl
theorem qw_L_undo : Cond.codeWith yL_undo cL_undo 3 (some .int) [(0, 8, 11, 13)] ∈ TT := tt_3 (List.mem_of_getElem? (i := 227) rfl) rfl
theorem qm_L_53 : Cond.methodLink RL 53 yX5_undo ∈ TT := tt_3 (List.mem_of_getElem? (i := 228) rfl) rfl
theorem qi_X5_undo : Cond.instanceMethod yX5_undo ∈ TT := tt_3 (List.mem_of_getElem? (i := 229) rfl) rfl
theorem qs_X5_undo : Cond.selects RX5 yX5_undo yX5_undo ∈ TT := tt_3 (List.mem_of_getElem? (i := 230) rfl) rfl
theorem qc_X5_undo : Cond.code yX5_undo cX5_undo 1 (some .int) ∈ TT := tt_3 (List.mem_of_getElem? (i := 231) rfl) rfl
theorem qm_X5_201 : Cond.methodLink RX5 201 yX3_restore ∈ TT := tt_3 (List.mem_of_getElem? (i := 233) rfl) rfl
theorem qi_X3_restore : Cond.instanceMethod yX3_restore ∈ TT := tt_3 (List.mem_of_getElem? (i := 234) rfl) rfl
theorem qs_X3_restore : Cond.selects RX3 yX3_restore yX3_restore ∈ TT := tt_3 (List.mem_of_getElem? (i := 235) rfl) rfl
theorem qc_X3_restore : Cond.code yX3_restore cX3_restore 2 none ∈ TT := tt_3 (List.mem_of_getElem? (i := 236) rfl) rfl
theorem qm_L_142 : Cond.methodLink RL 142 yL_member ∈ TT := tt_3 (List.mem_of_getElem? (i := 237) rfl) rfl
theorem qt_L_member : Cond.static yL_member ∈ TT := tt_3 (List.mem_of_getElem? (i := 238) rfl) rfl
theorem qw_L_member : Cond.codeWith yL_member cL_member 5 (some .int) [(0, 10, 13, 19), (0, 10, 17, 25)] ∈ TT := tt_3 (List.mem_of_getElem? (i := 239) rfl) rfl
theorem qm_L_56 : Cond.methodLink RL 56 yX5_member ∈ TT := tt_4 (List.mem_of_getElem? (i := 0) rfl) rfl
theorem qi_X5_member : Cond.instanceMethod yX5_member ∈ TT := tt_4 (List.mem_of_getElem? (i := 1) rfl) rfl
theorem qs_X5_member : Cond.selects RX5 yX5_member yX5_member ∈ TT := tt_4 (List.mem_of_getElem? (i := 2) rfl) rfl
theorem qc_X5_member : Cond.code yX5_member cX5_member 3 (some .int) ∈ TT := tt_4 (List.mem_of_getElem? (i := 3) rfl) rfl
theorem qm_L_145 : Cond.methodLink RL 145 yL_skill ∈ TT := tt_4 (List.mem_of_getElem? (i := 5) rfl) rfl
theorem qt_L_skill : Cond.static yL_skill ∈ TT := tt_4 (List.mem_of_getElem? (i := 6) rfl) rfl
theorem qw_L_skill : Cond.codeWith yL_skill cL_skill 6 (some .int) [(0, 12, 15, 19), (0, 12, 19, 25)] ∈ TT := tt_4 (List.mem_of_getElem? (i := 7) rfl) rfl
theorem qm_L_59 : Cond.methodLink RL 59 yX5_skill ∈ TT := tt_4 (List.mem_of_getElem? (i := 8) rfl) rfl
theorem qi_X5_skill : Cond.instanceMethod yX5_skill ∈ TT := tt_4 (List.mem_of_getElem? (i := 9) rfl) rfl
theorem qs_X5_skill : Cond.selects RX5 yX5_skill yX5_skill ∈ TT := tt_4 (List.mem_of_getElem? (i := 10) rfl) rfl
theorem qc_X5_skill : Cond.code yX5_skill cX5_skill 4 (some .int) ∈ TT := tt_4 (List.mem_of_getElem? (i := 11) rfl) rfl
theorem qm_L_149 : Cond.methodLink RL 149 yL_count ∈ TT := tt_4 (List.mem_of_getElem? (i := 13) rfl) rfl
theorem qt_L_count : Cond.static yL_count ∈ TT := tt_4 (List.mem_of_getElem? (i := 14) rfl) rfl
theorem qw_L_count : Cond.codeWith yL_count cL_count 4 (some .int) [(0, 9, 12, 25)] ∈ TT := tt_4 (List.mem_of_getElem? (i := 15) rfl) rfl
theorem qm_L_63 : Cond.methodLink RL 63 yX5_count ∈ TT := tt_4 (List.mem_of_getElem? (i := 16) rfl) rfl
theorem qi_X5_count : Cond.instanceMethod yX5_count ∈ TT := tt_4 (List.mem_of_getElem? (i := 17) rfl) rfl
theorem qs_X5_count : Cond.selects RX5 yX5_count yX5_count ∈ TT := tt_4 (List.mem_of_getElem? (i := 18) rfl) rfl
theorem qc_X5_count : Cond.code yX5_count cX5_count 2 (some .int) ∈ TT := tt_4 (List.mem_of_getElem? (i := 19) rfl) rfl
theorem qm_L_152 : Cond.methodLink RL 152 yL_setting ∈ TT := tt_4 (List.mem_of_getElem? (i := 21) rfl) rfl
theorem qt_L_setting : Cond.static yL_setting ∈ TT := tt_4 (List.mem_of_getElem? (i := 22) rfl) rfl
theorem qw_L_setting : Cond.codeWith yL_setting cL_setting 4 (some .int) [(0, 9, 12, 19)] ∈ TT := tt_4 (List.mem_of_getElem? (i := 23) rfl) rfl
theorem qm_L_66 : Cond.methodLink RL 66 yX5_setting ∈ TT := tt_4 (List.mem_of_getElem? (i := 24) rfl) rfl
theorem qi_X5_setting : Cond.instanceMethod yX5_setting ∈ TT := tt_4 (List.mem_of_getElem? (i := 25) rfl) rfl
theorem qs_X5_setting : Cond.selects RX5 yX5_setting yX5_setting ∈ TT := tt_4 (List.mem_of_getElem? (i := 26) rfl) rfl
theorem qc_X5_setting : Cond.code yX5_setting cX5_setting 2 (some .int) ∈ TT := tt_4 (List.mem_of_getElem? (i := 27) rfl) rfl
theorem qm_L_155 : Cond.methodLink RL 155 yL_worth ∈ TT := tt_4 (List.mem_of_getElem? (i := 28) rfl) rfl
theorem qt_L_worth : Cond.static yL_worth ∈ TT := tt_4 (List.mem_of_getElem? (i := 29) rfl) rfl
theorem qw_L_worth : Cond.codeWith yL_worth cL_worth 6 (some .int) [(0, 12, 15, 19), (0, 12, 19, 25)] ∈ TT := tt_4 (List.mem_of_getElem? (i := 30) rfl) rfl
theorem qm_L_69 : Cond.methodLink RL 69 yX5_worth ∈ TT := tt_4 (List.mem_of_getElem? (i := 31) rfl) rfl
theorem qi_X5_worth : Cond.instanceMethod yX5_worth ∈ TT := tt_4 (List.mem_of_getElem? (i := 32) rfl) rfl
theorem qs_X5_worth : Cond.selects RX5 yX5_worth yX5_worth ∈ TT := tt_4 (List.mem_of_getElem? (i := 33) rfl) rfl
theorem qc_X5_worth : Cond.code yX5_worth cX5_worth 4 (some .int) ∈ TT := tt_4 (List.mem_of_getElem? (i := 34) rfl) rfl
theorem qm_X5_223 : Cond.methodLink RX5 223 yX4_dealValue ∈ TT := tt_4 (List.mem_of_getElem? (i := 35) rfl) rfl
theorem qm_L_158 : Cond.methodLink RL 158 yL_longest ∈ TT := tt_4 (List.mem_of_getElem? (i := 36) rfl) rfl
theorem qt_L_longest : Cond.static yL_longest ∈ TT := tt_4 (List.mem_of_getElem? (i := 37) rfl) rfl
theorem qw_L_longest : Cond.codeWith yL_longest cL_longest 6 (some .int) [(0, 12, 15, 19)] ∈ TT := tt_4 (List.mem_of_getElem? (i := 38) rfl) rfl
theorem qm_L_72 : Cond.methodLink RL 72 yX5_longest ∈ TT := tt_4 (List.mem_of_getElem? (i := 39) rfl) rfl
theorem qi_X5_longest : Cond.instanceMethod yX5_longest ∈ TT := tt_4 (List.mem_of_getElem? (i := 40) rfl) rfl
theorem qs_X5_longest : Cond.selects RX5 yX5_longest yX5_longest ∈ TT := tt_4 (List.mem_of_getElem? (i := 41) rfl) rfl
theorem qc_X5_longest : Cond.code yX5_longest cX5_longest 4 (some .int) ∈ TT := tt_4 (List.mem_of_getElem? (i := 42) rfl) rfl
theorem qm_L_161 : Cond.methodLink RL 161 yL_cheapest ∈ TT := tt_4 (List.mem_of_getElem? (i := 43) rfl) rfl
theorem qt_L_cheapest : Cond.static yL_cheapest ∈ TT := tt_4 (List.mem_of_getElem? (i := 44) rfl) rfl
theorem qw_L_cheapest : Cond.codeWith yL_cheapest cL_cheapest 6 (some .int) [(0, 12, 15, 19), (0, 12, 19, 25)] ∈ TT := tt_4 (List.mem_of_getElem? (i := 45) rfl) rfl
theorem qm_L_75 : Cond.methodLink RL 75 yX5_cheapest ∈ TT := tt_4 (List.mem_of_getElem? (i := 46) rfl) rfl
theorem qi_X5_cheapest : Cond.instanceMethod yX5_cheapest ∈ TT := tt_4 (List.mem_of_getElem? (i := 47) rfl) rfl
theorem qs_X5_cheapest : Cond.selects RX5 yX5_cheapest yX5_cheapest ∈ TT := tt_4 (List.mem_of_getElem? (i := 48) rfl) rfl
theorem qc_X5_cheapest : Cond.code yX5_cheapest cX5_cheapest 4 (some .int) ∈ TT := tt_4 (List.mem_of_getElem? (i := 49) rfl) rfl
theorem qm_L_164 : Cond.methodLink RL 164 yL_decayIn ∈ TT := tt_4 (List.mem_of_getElem? (i := 50) rfl) rfl
theorem qt_L_decayIn : Cond.static yL_decayIn ∈ TT := tt_4 (List.mem_of_getElem? (i := 51) rfl) rfl
theorem qw_L_decayIn : Cond.codeWith yL_decayIn cL_decayIn 5 (some .int) [(0, 10, 13, 19), (0, 10, 17, 25)] ∈ TT := tt_4 (List.mem_of_getElem? (i := 52) rfl) rfl
theorem qm_L_78 : Cond.methodLink RL 78 yX5_decayIn ∈ TT := tt_4 (List.mem_of_getElem? (i := 53) rfl) rfl
theorem qi_X5_decayIn : Cond.instanceMethod yX5_decayIn ∈ TT := tt_4 (List.mem_of_getElem? (i := 54) rfl) rfl
theorem qs_X5_decayIn : Cond.selects RX5 yX5_decayIn yX5_decayIn ∈ TT := tt_4 (List.mem_of_getElem? (i := 55) rfl) rfl
theorem qc_X5_decayIn : Cond.code yX5_decayIn cX5_decayIn 3 (some .int) ∈ TT := tt_4 (List.mem_of_getElem? (i := 56) rfl) rfl
theorem qm_L_171 : Cond.methodLink RL 171 yL_ripest ∈ TT := tt_4 (List.mem_of_getElem? (i := 57) rfl) rfl
theorem qt_L_ripest : Cond.static yL_ripest ∈ TT := tt_4 (List.mem_of_getElem? (i := 58) rfl) rfl
theorem qw_L_ripest : Cond.codeWith yL_ripest cL_ripest 4 (some .int) [(0, 9, 12, 19)] ∈ TT := tt_4 (List.mem_of_getElem? (i := 59) rfl) rfl
theorem qm_L_81 : Cond.methodLink RL 81 yX5_ripest ∈ TT := tt_4 (List.mem_of_getElem? (i := 60) rfl) rfl
theorem qi_X5_ripest : Cond.instanceMethod yX5_ripest ∈ TT := tt_4 (List.mem_of_getElem? (i := 61) rfl) rfl
theorem qs_X5_ripest : Cond.selects RX5 yX5_ripest yX5_ripest ∈ TT := tt_4 (List.mem_of_getElem? (i := 62) rfl) rfl
theorem qc_X5_ripest : Cond.code yX5_ripest cX5_ripest 2 (some .int) ∈ TT := tt_4 (List.mem_of_getElem? (i := 63) rfl) rfl
theorem qk_L_85 : Cond.classLink RL 85 RX6 ∈ TT := tt_4 (List.mem_of_getElem? (i := 65) rfl) rfl
theorem qa_X6 : Cond.instantiable RX6 12 ∈ TT := tt_4 (List.mem_of_getElem? (i := 66) rfl) rfl
theorem qm_L_87 : Cond.methodLink RL 87 yX6_init ∈ TT := tt_4 (List.mem_of_getElem? (i := 67) rfl) rfl
theorem qi_X6_init : Cond.instanceMethod yX6_init ∈ TT := tt_4 (List.mem_of_getElem? (i := 68) rfl) rfl
theorem qc_X6_init : Cond.code yX6_init cX6_init 1 none ∈ TT := tt_4 (List.mem_of_getElem? (i := 69) rfl) rfl
theorem qm_X6_1 : Cond.methodLink RX6 1 objectInit ∈ TT := tt_4 (List.mem_of_getElem? (i := 70) rfl) rfl
theorem qf_X6_7 : Cond.fieldLink RX6 7 "RipeHoursModel" "z" "[I" ∈ TT := tt_4 (List.mem_of_getElem? (i := 71) rfl) rfl
theorem qf_X6_29 : Cond.fieldLink RX6 29 "RipeHoursModel" "states" "I" ∈ TT := tt_4 (List.mem_of_getElem? (i := 72) rfl) rfl
theorem qf_X6_13 : Cond.fieldLink RX6 13 "RipeHoursModel" "history" "[I" ∈ TT := tt_4 (List.mem_of_getElem? (i := 73) rfl) rfl
theorem qf_X6_120 : Cond.fieldLink RX6 120 "RipeHoursModel" "length" "I" ∈ TT := tt_4 (List.mem_of_getElem? (i := 74) rfl) rfl
theorem qf_X6_16 : Cond.fieldLink RX6 16 "RipeHoursModel" "text" "[I" ∈ TT := tt_4 (List.mem_of_getElem? (i := 75) rfl) rfl
theorem qf_X6_25 : Cond.fieldLink RX6 25 "RipeHoursModel" "thrown" "I" ∈ TT := tt_4 (List.mem_of_getElem? (i := 76) rfl) rfl
theorem qf_X6_19 : Cond.fieldLink RX6 19 "RipeHoursModel" "parts" "[I" ∈ TT := tt_4 (List.mem_of_getElem? (i := 77) rfl) rfl
theorem qf_X6_126 : Cond.fieldLink RX6 126 "RipeHoursModel" "read" "I" ∈ TT := tt_4 (List.mem_of_getElem? (i := 78) rfl) rfl
theorem qf_X6_123 : Cond.fieldLink RX6 123 "RipeHoursModel" "number" "I" ∈ TT := tt_4 (List.mem_of_getElem? (i := 79) rfl) rfl
theorem qf_X6_129 : Cond.fieldLink RX6 129 "RipeHoursModel" "due" "I" ∈ TT := tt_4 (List.mem_of_getElem? (i := 80) rfl) rfl
theorem qf_X6_22 : Cond.fieldLink RX6 22 "RipeHoursModel" "kept" "[I" ∈ TT := tt_4 (List.mem_of_getElem? (i := 81) rfl) rfl
theorem qf_X6_184 : Cond.fieldLink RX6 184 "RipeHoursModel" "hash" "J" ∈ TT := tt_4 (List.mem_of_getElem? (i := 82) rfl) rfl
theorem qy_X6_z : Cond.laysFinal RX6 "RipeHoursModel" "z" "[I" ∈ TT := tt_4 (List.mem_of_getElem? (i := 83) rfl) rfl
theorem qy_X6_states : Cond.lays RX6 "RipeHoursModel" "states" "I" ∈ TT := tt_4 (List.mem_of_getElem? (i := 85) rfl) rfl
theorem qy_X6_history : Cond.laysFinal RX6 "RipeHoursModel" "history" "[I" ∈ TT := tt_4 (List.mem_of_getElem? (i := 87) rfl) rfl
theorem qy_X6_length : Cond.lays RX6 "RipeHoursModel" "length" "I" ∈ TT := tt_4 (List.mem_of_getElem? (i := 89) rfl) rfl
theorem qy_X6_text : Cond.laysFinal RX6 "RipeHoursModel" "text" "[I" ∈ TT := tt_4 (List.mem_of_getElem? (i := 91) rfl) rfl
theorem qy_X6_thrown : Cond.lays RX6 "RipeHoursModel" "thrown" "I" ∈ TT := tt_4 (List.mem_of_getElem? (i := 93) rfl) rfl
theorem qy_X6_parts : Cond.laysFinal RX6 "RipeHoursModel" "parts" "[I" ∈ TT := tt_4 (List.mem_of_getElem? (i := 95) rfl) rfl
theorem qy_X6_read : Cond.lays RX6 "RipeHoursModel" "read" "I" ∈ TT := tt_4 (List.mem_of_getElem? (i := 97) rfl) rfl
theorem qy_X6_number : Cond.lays RX6 "RipeHoursModel" "number" "I" ∈ TT := tt_4 (List.mem_of_getElem? (i := 99) rfl) rfl
theorem qy_X6_due : Cond.lays RX6 "RipeHoursModel" "due" "I" ∈ TT := tt_4 (List.mem_of_getElem? (i := 101) rfl) rfl
theorem qy_X6_kept : Cond.laysFinal RX6 "RipeHoursModel" "kept" "[I" ∈ TT := tt_4 (List.mem_of_getElem? (i := 103) rfl) rfl
theorem qy_X6_hash : Cond.lays RX6 "RipeHoursModel" "hash" "J" ∈ TT := tt_4 (List.mem_of_getElem? (i := 105) rfl) rfl
theorem qm_L_94 : Cond.methodLink RL 94 yX6_thrown ∈ TT := tt_4 (List.mem_of_getElem? (i := 108) rfl) rfl
theorem qi_X6_thrown : Cond.instanceMethod yX6_thrown ∈ TT := tt_4 (List.mem_of_getElem? (i := 109) rfl) rfl
theorem qs_X6_thrown : Cond.selects RX6 yX6_thrown yX6_thrown ∈ TT := tt_4 (List.mem_of_getElem? (i := 110) rfl) rfl
theorem qc_X6_thrown : Cond.code yX6_thrown cX6_thrown 1 (some .int) ∈ TT := tt_4 (List.mem_of_getElem? (i := 111) rfl) rfl
theorem qm_L_93 : Cond.methodLink RL 93 yX6_join ∈ TT := tt_4 (List.mem_of_getElem? (i := 112) rfl) rfl
theorem qi_X6_join : Cond.instanceMethod yX6_join ∈ TT := tt_4 (List.mem_of_getElem? (i := 113) rfl) rfl
theorem qs_X6_join : Cond.selects RX6 yX6_join yX6_join ∈ TT := tt_4 (List.mem_of_getElem? (i := 114) rfl) rfl
theorem qc_X6_join : Cond.code yX6_join cX6_join 2 (some .int) ∈ TT := tt_4 (List.mem_of_getElem? (i := 115) rfl) rfl
theorem qm_X6_58 : Cond.methodLink RX6 58 yX6_save ∈ TT := tt_4 (List.mem_of_getElem? (i := 116) rfl) rfl
theorem qi_X6_save : Cond.instanceMethod yX6_save ∈ TT := tt_4 (List.mem_of_getElem? (i := 118) rfl) rfl
theorem qc_X6_save : Cond.code yX6_save cX6_save 2 none ∈ TT := tt_4 (List.mem_of_getElem? (i := 119) rfl) rfl
theorem qm_X6_61 : Cond.methodLink RX6 61 yX6_put ∈ TT := tt_4 (List.mem_of_getElem? (i := 120) rfl) rfl
theorem qi_X6_put : Cond.instanceMethod yX6_put ∈ TT := tt_4 (List.mem_of_getElem? (i := 122) rfl) rfl
theorem qc_X6_put : Cond.code yX6_put cX6_put 4 none ∈ TT := tt_4 (List.mem_of_getElem? (i := 123) rfl) rfl
theorem qm_L_100 : Cond.methodLink RL 100 yX6_leave ∈ TT := tt_4 (List.mem_of_getElem? (i := 124) rfl) rfl
theorem qi_X6_leave : Cond.instanceMethod yX6_leave ∈ TT := tt_4 (List.mem_of_getElem? (i := 125) rfl) rfl
theorem qs_X6_leave : Cond.selects RX6 yX6_leave yX6_leave ∈ TT := tt_4 (List.mem_of_getElem? (i := 126) rfl) rfl
theorem qc_X6_leave : Cond.code yX6_leave cX6_leave 4 (some .int) ∈ TT := tt_4 (List.mem_of_getElem? (i := 127) rfl) rfl
theorem qm_X6_64 : Cond.methodLink RX6 64 yX6_isMember ∈ TT := tt_4 (List.mem_of_getElem? (i := 128) rfl) rfl
theorem qi_X6_isMember : Cond.instanceMethod yX6_isMember ∈ TT := tt_4 (List.mem_of_getElem? (i := 130) rfl) rfl
theorem qc_X6_isMember : Cond.code yX6_isMember cX6_isMember 2 (some .boolean) ∈ TT := tt_4 (List.mem_of_getElem? (i := 131) rfl) rfl
theorem qm_X6_32 : Cond.methodLink RX6 32 yX6_within ∈ TT := tt_4 (List.mem_of_getElem? (i := 132) rfl) rfl
theorem qt_X6_within : Cond.static yX6_within ∈ TT := tt_4 (List.mem_of_getElem? (i := 133) rfl) rfl
theorem qc_X6_within : Cond.code yX6_within cX6_within 3 (some .boolean) ∈ TT := tt_4 (List.mem_of_getElem? (i := 134) rfl) rfl
theorem qm_X6_68 : Cond.methodLink RX6 68 yX6_isThere ∈ TT := tt_4 (List.mem_of_getElem? (i := 135) rfl) rfl
theorem qi_X6_isThere : Cond.instanceMethod yX6_isThere ∈ TT := tt_4 (List.mem_of_getElem? (i := 137) rfl) rfl
theorem qc_X6_isThere : Cond.code yX6_isThere cX6_isThere 2 (some .boolean) ∈ TT := tt_4 (List.mem_of_getElem? (i := 138) rfl) rfl
theorem qm_X6_36 : Cond.methodLink RX6 36 yX6_of ∈ TT := tt_4 (List.mem_of_getElem? (i := 139) rfl) rfl
theorem qi_X6_of : Cond.instanceMethod yX6_of ∈ TT := tt_4 (List.mem_of_getElem? (i := 141) rfl) rfl
theorem qc_X6_of : Cond.code yX6_of cX6_of 3 (some .int) ∈ TT := tt_4 (List.mem_of_getElem? (i := 142) rfl) rfl
theorem qm_X6_55 : Cond.methodLink RX6 55 yX6_endMotion ∈ TT := tt_4 (List.mem_of_getElem? (i := 143) rfl) rfl
theorem qi_X6_endMotion : Cond.instanceMethod yX6_endMotion ∈ TT := tt_4 (List.mem_of_getElem? (i := 145) rfl) rfl
theorem qc_X6_endMotion : Cond.code yX6_endMotion cX6_endMotion 1 none ∈ TT := tt_4 (List.mem_of_getElem? (i := 146) rfl) rfl
theorem qm_X6_71 : Cond.methodLink RX6 71 yX6_lookAt ∈ TT := tt_4 (List.mem_of_getElem? (i := 147) rfl) rfl
theorem qi_X6_lookAt : Cond.instanceMethod yX6_lookAt ∈ TT := tt_4 (List.mem_of_getElem? (i := 149) rfl) rfl
theorem qc_X6_lookAt : Cond.code yX6_lookAt cX6_lookAt 3 (some .int) ∈ TT := tt_4 (List.mem_of_getElem? (i := 150) rfl) rfl
theorem qm_X6_44 : Cond.methodLink RX6 44 yX6_othersOf ∈ TT := tt_4 (List.mem_of_getElem? (i := 151) rfl) rfl
theorem qi_X6_othersOf : Cond.instanceMethod yX6_othersOf ∈ TT := tt_4 (List.mem_of_getElem? (i := 153) rfl) rfl
theorem qc_X6_othersOf : Cond.code yX6_othersOf cX6_othersOf 2 (some .int) ∈ TT := tt_4 (List.mem_of_getElem? (i := 154) rfl) rfl
theorem qm_X6_40 : Cond.methodLink RX6 40 yX6_allThere ∈ TT := tt_4 (List.mem_of_getElem? (i := 155) rfl) rfl
theorem qi_X6_allThere : Cond.instanceMethod yX6_allThere ∈ TT := tt_4 (List.mem_of_getElem? (i := 157) rfl) rfl
theorem qc_X6_allThere : Cond.code yX6_allThere cX6_allThere 3 (some .int) ∈ TT := tt_4 (List.mem_of_getElem? (i := 158) rfl) rfl
theorem qm_X6_48 : Cond.methodLink RX6 48 yX6_ones ∈ TT := tt_4 (List.mem_of_getElem? (i := 159) rfl) rfl
theorem qt_X6_ones : Cond.static yX6_ones ∈ TT := tt_4 (List.mem_of_getElem? (i := 160) rfl) rfl
theorem qc_X6_ones : Cond.code yX6_ones cX6_ones 3 (some .int) ∈ TT := tt_4 (List.mem_of_getElem? (i := 161) rfl) rfl
theorem qm_X6_51 : Cond.methodLink RX6 51 yX6_add ∈ TT := tt_4 (List.mem_of_getElem? (i := 162) rfl) rfl
theorem qi_X6_add : Cond.instanceMethod yX6_add ∈ TT := tt_4 (List.mem_of_getElem? (i := 164) rfl) rfl
theorem qc_X6_add : Cond.code yX6_add cX6_add 4 none ∈ TT := tt_4 (List.mem_of_getElem? (i := 165) rfl) rfl
theorem qm_L_104 : Cond.methodLink RL 104 yX6_give ∈ TT := tt_4 (List.mem_of_getElem? (i := 166) rfl) rfl
theorem qi_X6_give : Cond.instanceMethod yX6_give ∈ TT := tt_4 (List.mem_of_getElem? (i := 167) rfl) rfl
theorem qs_X6_give : Cond.selects RX6 yX6_give yX6_give ∈ TT := tt_4 (List.mem_of_getElem? (i := 168) rfl) rfl
theorem qc_X6_give : Cond.code yX6_give cX6_give 5 (some .int) ∈ TT := tt_4 (List.mem_of_getElem? (i := 169) rfl) rfl
theorem qm_X6_85 : Cond.methodLink RX6 85 yX6_isSkill ∈ TT := tt_4 (List.mem_of_getElem? (i := 170) rfl) rfl
theorem qt_X6_isSkill : Cond.static yX6_isSkill ∈ TT := tt_4 (List.mem_of_getElem? (i := 171) rfl) rfl
theorem qc_X6_isSkill : Cond.code yX6_isSkill cX6_isSkill 1 (some .boolean) ∈ TT := tt_4 (List.mem_of_getElem? (i := 172) rfl) rfl
theorem qm_X6_88 : Cond.methodLink RX6 88 yX6_areMinutes ∈ TT := tt_4 (List.mem_of_getElem? (i := 173) rfl) rfl
theorem qt_X6_areMinutes : Cond.static yX6_areMinutes ∈ TT := tt_4 (List.mem_of_getElem? (i := 174) rfl) rfl
theorem qc_X6_areMinutes : Cond.code yX6_areMinutes cX6_areMinutes 1 (some .boolean) ∈ TT := tt_4 (List.mem_of_getElem? (i := 175) rfl) rfl
theorem qm_X6_91 : Cond.methodLink RX6 91 yX6_canDeal ∈ TT := tt_4 (List.mem_of_getElem? (i := 176) rfl) rfl
theorem qi_X6_canDeal : Cond.instanceMethod yX6_canDeal ∈ TT := tt_4 (List.mem_of_getElem? (i := 178) rfl) rfl
theorem qc_X6_canDeal : Cond.code yX6_canDeal cX6_canDeal 5 (some .boolean) ∈ TT := tt_4 (List.mem_of_getElem? (i := 179) rfl) rfl
theorem qm_X6_77 : Cond.methodLink RX6 77 yX6_valueOf ∈ TT := tt_4 (List.mem_of_getElem? (i := 180) rfl) rfl
theorem qi_X6_valueOf : Cond.instanceMethod yX6_valueOf ∈ TT := tt_4 (List.mem_of_getElem? (i := 182) rfl) rfl
theorem qc_X6_valueOf : Cond.code yX6_valueOf cX6_valueOf 4 (some .int) ∈ TT := tt_4 (List.mem_of_getElem? (i := 183) rfl) rfl
theorem qm_X6_74 : Cond.methodLink RX6 74 yX6_ripenessOf ∈ TT := tt_4 (List.mem_of_getElem? (i := 184) rfl) rfl
theorem qi_X6_ripenessOf : Cond.instanceMethod yX6_ripenessOf ∈ TT := tt_4 (List.mem_of_getElem? (i := 186) rfl) rfl
theorem qc_X6_ripenessOf : Cond.code yX6_ripenessOf cX6_ripenessOf 4 (some .int) ∈ TT := tt_4 (List.mem_of_getElem? (i := 187) rfl) rfl
theorem qm_X6_81 : Cond.methodLink RX6 81 yX6_canPay ∈ TT := tt_4 (List.mem_of_getElem? (i := 188) rfl) rfl
theorem qi_X6_canPay : Cond.instanceMethod yX6_canPay ∈ TT := tt_4 (List.mem_of_getElem? (i := 190) rfl) rfl
theorem qc_X6_canPay : Cond.code yX6_canPay cX6_canPay 3 (some .boolean) ∈ TT := tt_4 (List.mem_of_getElem? (i := 191) rfl) rfl
theorem qm_X6_95 : Cond.methodLink RX6 95 yX6_deals ∈ TT := tt_4 (List.mem_of_getElem? (i := 192) rfl) rfl
theorem qi_X6_deals : Cond.instanceMethod yX6_deals ∈ TT := tt_4 (List.mem_of_getElem? (i := 194) rfl) rfl
theorem qc_X6_deals : Cond.code yX6_deals cX6_deals 9 (some .int) ∈ TT := tt_4 (List.mem_of_getElem? (i := 195) rfl) rfl
theorem qm_L_108 : Cond.methodLink RL 108 yX6_donate ∈ TT := tt_4 (List.mem_of_getElem? (i := 196) rfl) rfl
theorem qi_X6_donate : Cond.instanceMethod yX6_donate ∈ TT := tt_4 (List.mem_of_getElem? (i := 197) rfl) rfl
theorem qs_X6_donate : Cond.selects RX6 yX6_donate yX6_donate ∈ TT := tt_4 (List.mem_of_getElem? (i := 198) rfl) rfl
theorem qc_X6_donate : Cond.code yX6_donate cX6_donate 3 (some .int) ∈ TT := tt_4 (List.mem_of_getElem? (i := 199) rfl) rfl
theorem qm_L_111 : Cond.methodLink RL 111 yX6_pass ∈ TT := tt_4 (List.mem_of_getElem? (i := 200) rfl) rfl
theorem qi_X6_pass : Cond.instanceMethod yX6_pass ∈ TT := tt_4 (List.mem_of_getElem? (i := 201) rfl) rfl
theorem qs_X6_pass : Cond.selects RX6 yX6_pass yX6_pass ∈ TT := tt_4 (List.mem_of_getElem? (i := 202) rfl) rfl
theorem qc_X6_pass : Cond.code yX6_pass cX6_pass 2 (some .int) ∈ TT := tt_4 (List.mem_of_getElem? (i := 203) rfl) rfl
theorem qm_X6_102 : Cond.methodLink RX6 102 yX6_passes ∈ TT := tt_4 (List.mem_of_getElem? (i := 204) rfl) rfl
theorem qi_X6_passes : Cond.instanceMethod yX6_passes ∈ TT := tt_4 (List.mem_of_getElem? (i := 206) rfl) rfl
theorem qc_X6_passes : Cond.code yX6_passes cX6_passes 6 (some .int) ∈ TT := tt_4 (List.mem_of_getElem? (i := 207) rfl) rfl
theorem qm_X6_99 : Cond.methodLink RX6 99 yX6_weekOf ∈ TT := tt_4 (List.mem_of_getElem? (i := 208) rfl) rfl
theorem qi_X6_weekOf : Cond.instanceMethod yX6_weekOf ∈ TT := tt_4 (List.mem_of_getElem? (i := 210) rfl) rfl
theorem qc_X6_weekOf : Cond.code yX6_weekOf cX6_weekOf 4 (some .int) ∈ TT := tt_4 (List.mem_of_getElem? (i := 211) rfl) rfl
theorem qm_L_114 : Cond.methodLink RL 114 yX6_set ∈ TT := tt_4 (List.mem_of_getElem? (i := 212) rfl) rfl
theorem qi_X6_set : Cond.instanceMethod yX6_set ∈ TT := tt_4 (List.mem_of_getElem? (i := 213) rfl) rfl
theorem qs_X6_set : Cond.selects RX6 yX6_set yX6_set ∈ TT := tt_4 (List.mem_of_getElem? (i := 214) rfl) rfl
theorem qc_X6_set : Cond.code yX6_set cX6_set 4 (some .int) ∈ TT := tt_4 (List.mem_of_getElem? (i := 215) rfl) rfl
theorem qm_X6_105 : Cond.methodLink RX6 105 yX6_isSetting ∈ TT := tt_4 (List.mem_of_getElem? (i := 216) rfl) rfl
theorem qt_X6_isSetting : Cond.static yX6_isSetting ∈ TT := tt_4 (List.mem_of_getElem? (i := 217) rfl) rfl
theorem qc_X6_isSetting : Cond.code yX6_isSetting cX6_isSetting 1 (some .boolean) ∈ TT := tt_4 (List.mem_of_getElem? (i := 218) rfl) rfl
theorem qm_X6_108 : Cond.methodLink RX6 108 yX6_greatest ∈ TT := tt_4 (List.mem_of_getElem? (i := 219) rfl) rfl
theorem qt_X6_greatest : Cond.static yX6_greatest ∈ TT := tt_4 (List.mem_of_getElem? (i := 220) rfl) rfl
theorem qc_X6_greatest : Cond.code yX6_greatest cX6_greatest 1 (some .int) ∈ TT := tt_4 (List.mem_of_getElem? (i := 221) rfl) rfl
theorem qm_L_117 : Cond.methodLink RL 117 yX6_move ∈ TT := tt_4 (List.mem_of_getElem? (i := 222) rfl) rfl
theorem qi_X6_move : Cond.instanceMethod yX6_move ∈ TT := tt_4 (List.mem_of_getElem? (i := 223) rfl) rfl
theorem qs_X6_move : Cond.selects RX6 yX6_move yX6_move ∈ TT := tt_4 (List.mem_of_getElem? (i := 224) rfl) rfl
theorem qc_X6_move : Cond.code yX6_move cX6_move 3 (some .int) ∈ TT := tt_4 (List.mem_of_getElem? (i := 225) rfl) rfl
theorem qm_X6_111 : Cond.methodLink RX6 111 yX6_canMove ∈ TT := tt_4 (List.mem_of_getElem? (i := 226) rfl) rfl
theorem qi_X6_canMove : Cond.instanceMethod yX6_canMove ∈ TT := tt_4 (List.mem_of_getElem? (i := 228) rfl) rfl
theorem qc_X6_canMove : Cond.code yX6_canMove cX6_canMove 3 (some .boolean) ∈ TT := tt_4 (List.mem_of_getElem? (i := 229) rfl) rfl
theorem qm_L_121 : Cond.methodLink RL 121 yX6_vote ∈ TT := tt_4 (List.mem_of_getElem? (i := 230) rfl) rfl
theorem qi_X6_vote : Cond.instanceMethod yX6_vote ∈ TT := tt_4 (List.mem_of_getElem? (i := 231) rfl) rfl
theorem qs_X6_vote : Cond.selects RX6 yX6_vote yX6_vote ∈ TT := tt_4 (List.mem_of_getElem? (i := 232) rfl) rfl
theorem qc_X6_vote : Cond.code yX6_vote cX6_vote 3 (some .int) ∈ TT := tt_4 (List.mem_of_getElem? (i := 233) rfl) rfl
theorem qm_X6_117 : Cond.methodLink RX6 117 yX6_canVote ∈ TT := tt_4 (List.mem_of_getElem? (i := 234) rfl) rfl
theorem qi_X6_canVote : Cond.instanceMethod yX6_canVote ∈ TT := tt_4 (List.mem_of_getElem? (i := 236) rfl) rfl
theorem qc_X6_canVote : Cond.code yX6_canVote cX6_canVote 2 (some .boolean) ∈ TT := tt_4 (List.mem_of_getElem? (i := 237) rfl) rfl
theorem qm_X6_114 : Cond.methodLink RX6 114 yX6_has ∈ TT := tt_4 (List.mem_of_getElem? (i := 238) rfl) rfl
theorem qt_X6_has : Cond.static yX6_has ∈ TT := tt_4 (List.mem_of_getElem? (i := 239) rfl) rfl
theorem qc_X6_has : Cond.code yX6_has cX6_has 2 (some .boolean) ∈ TT := tt_5 (List.mem_of_getElem? (i := 0) rfl) rfl
theorem qm_L_124 : Cond.methodLink RL 124 yX6_takeBack ∈ TT := tt_5 (List.mem_of_getElem? (i := 1) rfl) rfl
theorem qi_X6_takeBack : Cond.instanceMethod yX6_takeBack ∈ TT := tt_5 (List.mem_of_getElem? (i := 2) rfl) rfl
theorem qs_X6_takeBack : Cond.selects RX6 yX6_takeBack yX6_takeBack ∈ TT := tt_5 (List.mem_of_getElem? (i := 3) rfl) rfl
theorem qc_X6_takeBack : Cond.code yX6_takeBack cX6_takeBack 2 (some .int) ∈ TT := tt_5 (List.mem_of_getElem? (i := 4) rfl) rfl
theorem qm_L_127 : Cond.methodLink RL 127 yX6_append ∈ TT := tt_5 (List.mem_of_getElem? (i := 5) rfl) rfl
theorem qi_X6_append : Cond.instanceMethod yX6_append ∈ TT := tt_5 (List.mem_of_getElem? (i := 6) rfl) rfl
theorem qs_X6_append : Cond.selects RX6 yX6_append yX6_append ∈ TT := tt_5 (List.mem_of_getElem? (i := 7) rfl) rfl
theorem qc_X6_append : Cond.code yX6_append cX6_append 2 (some .int) ∈ TT := tt_5 (List.mem_of_getElem? (i := 8) rfl) rfl
theorem qm_L_131 : Cond.methodLink RL 131 yX6_clearBuffer ∈ TT := tt_5 (List.mem_of_getElem? (i := 9) rfl) rfl
theorem qi_X6_clearBuffer : Cond.instanceMethod yX6_clearBuffer ∈ TT := tt_5 (List.mem_of_getElem? (i := 10) rfl) rfl
theorem qs_X6_clearBuffer : Cond.selects RX6 yX6_clearBuffer yX6_clearBuffer ∈ TT := tt_5 (List.mem_of_getElem? (i := 11) rfl) rfl
theorem qc_X6_clearBuffer : Cond.code yX6_clearBuffer cX6_clearBuffer 2 (some .int) ∈ TT := tt_5 (List.mem_of_getElem? (i := 12) rfl) rfl
theorem qm_L_135 : Cond.methodLink RL 135 yX6_firstError ∈ TT := tt_5 (List.mem_of_getElem? (i := 13) rfl) rfl
theorem qi_X6_firstError : Cond.instanceMethod yX6_firstError ∈ TT := tt_5 (List.mem_of_getElem? (i := 14) rfl) rfl
theorem qs_X6_firstError : Cond.selects RX6 yX6_firstError yX6_firstError ∈ TT := tt_5 (List.mem_of_getElem? (i := 15) rfl) rfl
theorem qc_X6_firstError : Cond.code yX6_firstError cX6_firstError 1 (some .int) ∈ TT := tt_5 (List.mem_of_getElem? (i := 16) rfl) rfl
theorem qm_X6_141 : Cond.methodLink RX6 141 yX6_rightUpTo ∈ TT := tt_5 (List.mem_of_getElem? (i := 17) rfl) rfl
theorem qi_X6_rightUpTo : Cond.instanceMethod yX6_rightUpTo ∈ TT := tt_5 (List.mem_of_getElem? (i := 19) rfl) rfl
theorem qc_X6_rightUpTo : Cond.code yX6_rightUpTo cX6_rightUpTo 2 (some .int) ∈ TT := tt_5 (List.mem_of_getElem? (i := 20) rfl) rfl
theorem qm_X6_138 : Cond.methodLink RX6 138 yX6_takes ∈ TT := tt_5 (List.mem_of_getElem? (i := 21) rfl) rfl
theorem qi_X6_takes : Cond.instanceMethod yX6_takes ∈ TT := tt_5 (List.mem_of_getElem? (i := 23) rfl) rfl
theorem qc_X6_takes : Cond.code yX6_takes cX6_takes 2 (some .boolean) ∈ TT := tt_5 (List.mem_of_getElem? (i := 24) rfl) rfl
theorem qm_X6_132 : Cond.methodLink RX6 132 yX6_takesMember ∈ TT := tt_5 (List.mem_of_getElem? (i := 25) rfl) rfl
theorem qi_X6_takesMember : Cond.instanceMethod yX6_takesMember ∈ TT := tt_5 (List.mem_of_getElem? (i := 27) rfl) rfl
theorem qc_X6_takesMember : Cond.code yX6_takesMember cX6_takesMember 4 (some .boolean) ∈ TT := tt_5 (List.mem_of_getElem? (i := 28) rfl) rfl
theorem qm_X6_135 : Cond.methodLink RX6 135 yX6_takesDigit ∈ TT := tt_5 (List.mem_of_getElem? (i := 29) rfl) rfl
theorem qi_X6_takesDigit : Cond.instanceMethod yX6_takesDigit ∈ TT := tt_5 (List.mem_of_getElem? (i := 31) rfl) rfl
theorem qc_X6_takesDigit : Cond.code yX6_takesDigit cX6_takesDigit 4 (some .boolean) ∈ TT := tt_5 (List.mem_of_getElem? (i := 32) rfl) rfl
theorem qm_L_138 : Cond.methodLink RL 138 yX6_run ∈ TT := tt_5 (List.mem_of_getElem? (i := 33) rfl) rfl
theorem qi_X6_run : Cond.instanceMethod yX6_run ∈ TT := tt_5 (List.mem_of_getElem? (i := 34) rfl) rfl
theorem qs_X6_run : Cond.selects RX6 yX6_run yX6_run ∈ TT := tt_5 (List.mem_of_getElem? (i := 35) rfl) rfl
theorem qc_X6_run : Cond.code yX6_run cX6_run 3 (some .int) ∈ TT := tt_5 (List.mem_of_getElem? (i := 36) rfl) rfl
theorem qm_X6_144 : Cond.methodLink RX6 144 yX6_makes ∈ TT := tt_5 (List.mem_of_getElem? (i := 37) rfl) rfl
theorem qi_X6_makes : Cond.instanceMethod yX6_makes ∈ TT := tt_5 (List.mem_of_getElem? (i := 39) rfl) rfl
theorem qc_X6_makes : Cond.code yX6_makes cX6_makes 5 (some .boolean) ∈ TT := tt_5 (List.mem_of_getElem? (i := 40) rfl) rfl
theorem qm_L_141 : Cond.methodLink RL 141 yX6_undo ∈ TT := tt_5 (List.mem_of_getElem? (i := 41) rfl) rfl
theorem qi_X6_undo : Cond.instanceMethod yX6_undo ∈ TT := tt_5 (List.mem_of_getElem? (i := 42) rfl) rfl
theorem qs_X6_undo : Cond.selects RX6 yX6_undo yX6_undo ∈ TT := tt_5 (List.mem_of_getElem? (i := 43) rfl) rfl
theorem qc_X6_undo : Cond.code yX6_undo cX6_undo 2 (some .int) ∈ TT := tt_5 (List.mem_of_getElem? (i := 44) rfl) rfl
theorem qm_L_144 : Cond.methodLink RL 144 yX6_member ∈ TT := tt_5 (List.mem_of_getElem? (i := 45) rfl) rfl
theorem qi_X6_member : Cond.instanceMethod yX6_member ∈ TT := tt_5 (List.mem_of_getElem? (i := 46) rfl) rfl
theorem qs_X6_member : Cond.selects RX6 yX6_member yX6_member ∈ TT := tt_5 (List.mem_of_getElem? (i := 47) rfl) rfl
theorem qc_X6_member : Cond.code yX6_member cX6_member 3 (some .int) ∈ TT := tt_5 (List.mem_of_getElem? (i := 48) rfl) rfl
theorem qm_X6_147 : Cond.methodLink RX6 147 yX6_memberNow ∈ TT := tt_5 (List.mem_of_getElem? (i := 49) rfl) rfl
theorem qi_X6_memberNow : Cond.instanceMethod yX6_memberNow ∈ TT := tt_5 (List.mem_of_getElem? (i := 51) rfl) rfl
theorem qc_X6_memberNow : Cond.code yX6_memberNow cX6_memberNow 3 (some .int) ∈ TT := tt_5 (List.mem_of_getElem? (i := 52) rfl) rfl
theorem qm_L_148 : Cond.methodLink RL 148 yX6_skill ∈ TT := tt_5 (List.mem_of_getElem? (i := 53) rfl) rfl
theorem qi_X6_skill : Cond.instanceMethod yX6_skill ∈ TT := tt_5 (List.mem_of_getElem? (i := 54) rfl) rfl
theorem qs_X6_skill : Cond.selects RX6 yX6_skill yX6_skill ∈ TT := tt_5 (List.mem_of_getElem? (i := 55) rfl) rfl
theorem qc_X6_skill : Cond.code yX6_skill cX6_skill 4 (some .int) ∈ TT := tt_5 (List.mem_of_getElem? (i := 56) rfl) rfl
theorem qm_X6_150 : Cond.methodLink RX6 150 yX6_skillNow ∈ TT := tt_5 (List.mem_of_getElem? (i := 57) rfl) rfl
theorem qi_X6_skillNow : Cond.instanceMethod yX6_skillNow ∈ TT := tt_5 (List.mem_of_getElem? (i := 59) rfl) rfl
theorem qc_X6_skillNow : Cond.code yX6_skillNow cX6_skillNow 4 (some .int) ∈ TT := tt_5 (List.mem_of_getElem? (i := 60) rfl) rfl
theorem qm_L_151 : Cond.methodLink RL 151 yX6_count ∈ TT := tt_5 (List.mem_of_getElem? (i := 61) rfl) rfl
theorem qi_X6_count : Cond.instanceMethod yX6_count ∈ TT := tt_5 (List.mem_of_getElem? (i := 62) rfl) rfl
theorem qs_X6_count : Cond.selects RX6 yX6_count yX6_count ∈ TT := tt_5 (List.mem_of_getElem? (i := 63) rfl) rfl
theorem qc_X6_count : Cond.code yX6_count cX6_count 2 (some .int) ∈ TT := tt_5 (List.mem_of_getElem? (i := 64) rfl) rfl
theorem qm_X6_160 : Cond.methodLink RX6 160 yX6_counted ∈ TT := tt_5 (List.mem_of_getElem? (i := 65) rfl) rfl
theorem qi_X6_counted : Cond.instanceMethod yX6_counted ∈ TT := tt_5 (List.mem_of_getElem? (i := 67) rfl) rfl
theorem qc_X6_counted : Cond.code yX6_counted cX6_counted 2 (some .int) ∈ TT := tt_5 (List.mem_of_getElem? (i := 68) rfl) rfl
theorem qm_X6_153 : Cond.methodLink RX6 153 yX6_sumOfBalances ∈ TT := tt_5 (List.mem_of_getElem? (i := 69) rfl) rfl
theorem qi_X6_sumOfBalances : Cond.instanceMethod yX6_sumOfBalances ∈ TT := tt_5 (List.mem_of_getElem? (i := 71) rfl) rfl
theorem qc_X6_sumOfBalances : Cond.code yX6_sumOfBalances cX6_sumOfBalances 5 (some .int) ∈ TT := tt_5 (List.mem_of_getElem? (i := 72) rfl) rfl
theorem qm_X6_157 : Cond.methodLink RX6 157 yX6_sumOf ∈ TT := tt_5 (List.mem_of_getElem? (i := 73) rfl) rfl
theorem qi_X6_sumOf : Cond.instanceMethod yX6_sumOf ∈ TT := tt_5 (List.mem_of_getElem? (i := 75) rfl) rfl
theorem qc_X6_sumOf : Cond.code yX6_sumOf cX6_sumOf 4 (some .int) ∈ TT := tt_5 (List.mem_of_getElem? (i := 76) rfl) rfl
theorem qm_L_154 : Cond.methodLink RL 154 yX6_setting ∈ TT := tt_5 (List.mem_of_getElem? (i := 77) rfl) rfl
theorem qi_X6_setting : Cond.instanceMethod yX6_setting ∈ TT := tt_5 (List.mem_of_getElem? (i := 78) rfl) rfl
theorem qs_X6_setting : Cond.selects RX6 yX6_setting yX6_setting ∈ TT := tt_5 (List.mem_of_getElem? (i := 79) rfl) rfl
theorem qc_X6_setting : Cond.code yX6_setting cX6_setting 2 (some .int) ∈ TT := tt_5 (List.mem_of_getElem? (i := 80) rfl) rfl
theorem qm_L_157 : Cond.methodLink RL 157 yX6_worth ∈ TT := tt_5 (List.mem_of_getElem? (i := 81) rfl) rfl
theorem qi_X6_worth : Cond.instanceMethod yX6_worth ∈ TT := tt_5 (List.mem_of_getElem? (i := 82) rfl) rfl
theorem qs_X6_worth : Cond.selects RX6 yX6_worth yX6_worth ∈ TT := tt_5 (List.mem_of_getElem? (i := 83) rfl) rfl
theorem qc_X6_worth : Cond.code yX6_worth cX6_worth 4 (some .int) ∈ TT := tt_5 (List.mem_of_getElem? (i := 84) rfl) rfl
theorem qm_L_160 : Cond.methodLink RL 160 yX6_longest ∈ TT := tt_5 (List.mem_of_getElem? (i := 85) rfl) rfl
theorem qi_X6_longest : Cond.instanceMethod yX6_longest ∈ TT := tt_5 (List.mem_of_getElem? (i := 86) rfl) rfl
theorem qs_X6_longest : Cond.selects RX6 yX6_longest yX6_longest ∈ TT := tt_5 (List.mem_of_getElem? (i := 87) rfl) rfl
theorem qc_X6_longest : Cond.code yX6_longest cX6_longest 4 (some .int) ∈ TT := tt_5 (List.mem_of_getElem? (i := 88) rfl) rfl
theorem qm_X6_163 : Cond.methodLink RX6 163 yX6_longestNow ∈ TT := tt_5 (List.mem_of_getElem? (i := 89) rfl) rfl
theorem qi_X6_longestNow : Cond.instanceMethod yX6_longestNow ∈ TT := tt_5 (List.mem_of_getElem? (i := 91) rfl) rfl
theorem qc_X6_longestNow : Cond.code yX6_longestNow cX6_longestNow 5 (some .int) ∈ TT := tt_5 (List.mem_of_getElem? (i := 92) rfl) rfl
theorem qm_L_163 : Cond.methodLink RL 163 yX6_cheapest ∈ TT := tt_5 (List.mem_of_getElem? (i := 93) rfl) rfl
theorem qi_X6_cheapest : Cond.instanceMethod yX6_cheapest ∈ TT := tt_5 (List.mem_of_getElem? (i := 94) rfl) rfl
theorem qs_X6_cheapest : Cond.selects RX6 yX6_cheapest yX6_cheapest ∈ TT := tt_5 (List.mem_of_getElem? (i := 95) rfl) rfl
theorem qc_X6_cheapest : Cond.code yX6_cheapest cX6_cheapest 4 (some .int) ∈ TT := tt_5 (List.mem_of_getElem? (i := 96) rfl) rfl
theorem qm_X6_166 : Cond.methodLink RX6 166 yX6_cheapestNow ∈ TT := tt_5 (List.mem_of_getElem? (i := 97) rfl) rfl
theorem qi_X6_cheapestNow : Cond.instanceMethod yX6_cheapestNow ∈ TT := tt_5 (List.mem_of_getElem? (i := 99) rfl) rfl
theorem qc_X6_cheapestNow : Cond.code yX6_cheapestNow cX6_cheapestNow 7 (some .int) ∈ TT := tt_5 (List.mem_of_getElem? (i := 100) rfl) rfl
theorem qm_L_166 : Cond.methodLink RL 166 yX6_decayIn ∈ TT := tt_5 (List.mem_of_getElem? (i := 101) rfl) rfl
theorem qi_X6_decayIn : Cond.instanceMethod yX6_decayIn ∈ TT := tt_5 (List.mem_of_getElem? (i := 102) rfl) rfl
theorem qs_X6_decayIn : Cond.selects RX6 yX6_decayIn yX6_decayIn ∈ TT := tt_5 (List.mem_of_getElem? (i := 103) rfl) rfl
theorem qc_X6_decayIn : Cond.code yX6_decayIn cX6_decayIn 3 (some .int) ∈ TT := tt_5 (List.mem_of_getElem? (i := 104) rfl) rfl
theorem qm_X6_169 : Cond.methodLink RX6 169 yX6_decaysThen ∈ TT := tt_5 (List.mem_of_getElem? (i := 105) rfl) rfl
theorem qi_X6_decaysThen : Cond.instanceMethod yX6_decaysThen ∈ TT := tt_5 (List.mem_of_getElem? (i := 107) rfl) rfl
theorem qc_X6_decaysThen : Cond.code yX6_decaysThen cX6_decaysThen 7 (some .int) ∈ TT := tt_5 (List.mem_of_getElem? (i := 108) rfl) rfl
theorem qm_L_170 : Cond.methodLink RL 170 yX6_votesNeeded ∈ TT := tt_5 (List.mem_of_getElem? (i := 109) rfl) rfl
theorem qi_X6_votesNeeded : Cond.instanceMethod yX6_votesNeeded ∈ TT := tt_5 (List.mem_of_getElem? (i := 110) rfl) rfl
theorem qs_X6_votesNeeded : Cond.selects RX6 yX6_votesNeeded yX6_votesNeeded ∈ TT := tt_5 (List.mem_of_getElem? (i := 111) rfl) rfl
theorem qc_X6_votesNeeded : Cond.code yX6_votesNeeded cX6_votesNeeded 1 (some .int) ∈ TT := tt_5 (List.mem_of_getElem? (i := 112) rfl) rfl
theorem qm_X6_172 : Cond.methodLink RX6 172 yX6_needed ∈ TT := tt_5 (List.mem_of_getElem? (i := 113) rfl) rfl
theorem qi_X6_needed : Cond.instanceMethod yX6_needed ∈ TT := tt_5 (List.mem_of_getElem? (i := 115) rfl) rfl
theorem qc_X6_needed : Cond.code yX6_needed cX6_needed 1 (some .int) ∈ TT := tt_5 (List.mem_of_getElem? (i := 116) rfl) rfl
theorem qm_L_173 : Cond.methodLink RL 173 yX6_ripest ∈ TT := tt_5 (List.mem_of_getElem? (i := 117) rfl) rfl
theorem qi_X6_ripest : Cond.instanceMethod yX6_ripest ∈ TT := tt_5 (List.mem_of_getElem? (i := 118) rfl) rfl
theorem qs_X6_ripest : Cond.selects RX6 yX6_ripest yX6_ripest ∈ TT := tt_5 (List.mem_of_getElem? (i := 119) rfl) rfl
theorem qc_X6_ripest : Cond.code yX6_ripest cX6_ripest 2 (some .int) ∈ TT := tt_5 (List.mem_of_getElem? (i := 120) rfl) rfl
theorem qm_X6_175 : Cond.methodLink RX6 175 yX6_ripestNow ∈ TT := tt_5 (List.mem_of_getElem? (i := 121) rfl) rfl
theorem qi_X6_ripestNow : Cond.instanceMethod yX6_ripestNow ∈ TT := tt_5 (List.mem_of_getElem? (i := 123) rfl) rfl
theorem qc_X6_ripestNow : Cond.code yX6_ripestNow cX6_ripestNow 5 (some .int) ∈ TT := tt_5 (List.mem_of_getElem? (i := 124) rfl) rfl
theorem qm_L_178 : Cond.methodLink RL 178 yX6_minuteWorth ∈ TT := tt_5 (List.mem_of_getElem? (i := 125) rfl) rfl
theorem qi_X6_minuteWorth : Cond.instanceMethod yX6_minuteWorth ∈ TT := tt_5 (List.mem_of_getElem? (i := 126) rfl) rfl
theorem qs_X6_minuteWorth : Cond.selects RX6 yX6_minuteWorth yX6_minuteWorth ∈ TT := tt_5 (List.mem_of_getElem? (i := 127) rfl) rfl
theorem qc_X6_minuteWorth : Cond.code yX6_minuteWorth cX6_minuteWorth 1 (some .double) ∈ TT := tt_5 (List.mem_of_getElem? (i := 128) rfl) rfl
theorem qm_X6_178 : Cond.methodLink RX6 178 yX6_meanWorth ∈ TT := tt_5 (List.mem_of_getElem? (i := 129) rfl) rfl
theorem qi_X6_meanWorth : Cond.instanceMethod yX6_meanWorth ∈ TT := tt_5 (List.mem_of_getElem? (i := 131) rfl) rfl
theorem qc_X6_meanWorth : Cond.code yX6_meanWorth cX6_meanWorth 2 (some .double) ∈ TT := tt_5 (List.mem_of_getElem? (i := 132) rfl) rfl
theorem qm_L_183 : Cond.methodLink RL 183 yX6_digest ∈ TT := tt_5 (List.mem_of_getElem? (i := 133) rfl) rfl
theorem qi_X6_digest : Cond.instanceMethod yX6_digest ∈ TT := tt_5 (List.mem_of_getElem? (i := 134) rfl) rfl
theorem qs_X6_digest : Cond.selects RX6 yX6_digest yX6_digest ∈ TT := tt_5 (List.mem_of_getElem? (i := 135) rfl) rfl
theorem qc_X6_digest : Cond.code yX6_digest cX6_digest 2 (some .long) ∈ TT := tt_5 (List.mem_of_getElem? (i := 136) rfl) rfl
theorem ql_X6_192 : Cond.constantLong RX6 192 (2539) ∈ TT := tt_5 (List.mem_of_getElem? (i := 137) rfl) rfl
theorem qm_X6_188 : Cond.methodLink RX6 188 yX6_mix ∈ TT := tt_5 (List.mem_of_getElem? (i := 138) rfl) rfl
theorem qi_X6_mix : Cond.instanceMethod yX6_mix ∈ TT := tt_5 (List.mem_of_getElem? (i := 140) rfl) rfl
theorem qc_X6_mix : Cond.code yX6_mix cX6_mix 3 none ∈ TT := tt_5 (List.mem_of_getElem? (i := 141) rfl) rfl
theorem ql_X6_182 : Cond.constantLong RX6 182 (31) ∈ TT := tt_5 (List.mem_of_getElem? (i := 142) rfl) rfl
theorem qm_X6_194 : Cond.methodLink RX6 194 yX6_mixMember ∈ TT := tt_5 (List.mem_of_getElem? (i := 143) rfl) rfl
theorem qi_X6_mixMember : Cond.instanceMethod yX6_mixMember ∈ TT := tt_5 (List.mem_of_getElem? (i := 145) rfl) rfl
theorem qc_X6_mixMember : Cond.code yX6_mixMember cX6_mixMember 3 none ∈ TT := tt_5 (List.mem_of_getElem? (i := 146) rfl) rfl
theorem qm_X6_198 : Cond.methodLink RX6 198 yJxe99ae_doubleToLongBits_ccdee ∈ TT := tt_5 (List.mem_of_getElem? (i := 147) rfl) rfl
theorem qt_Jxe99ae_doubleToLongBits_ccdee : Cond.static yJxe99ae_doubleToLongBits_ccdee ∈ TT := tt_5 (List.mem_of_getElem? (i := 148) rfl) rfl
theorem qc_Jxe99ae_doubleToLongBits_ccdee : Cond.code yJxe99ae_doubleToLongBits_ccdee cJxe99ae_doubleToLongBits_ccdee 2 (some .long) ∈ TT := tt_5 (List.mem_of_getElem? (i := 149) rfl) rfl
theorem qm_Jxe99ae_122 : Cond.methodLink "java/lang/Double" 122 yJxe99ae_isNaN_b9ae7 ∈ TT := tt_5 (List.mem_of_getElem? (i := 150) rfl) rfl
theorem qt_Jxe99ae_isNaN_b9ae7 : Cond.static yJxe99ae_isNaN_b9ae7 ∈ TT := tt_5 (List.mem_of_getElem? (i := 151) rfl) rfl
theorem qc_Jxe99ae_isNaN_b9ae7 : Cond.code yJxe99ae_isNaN_b9ae7 cJxe99ae_isNaN_b9ae7 2 (some .boolean) ∈ TT := tt_5 (List.mem_of_getElem? (i := 152) rfl) rfl
theorem ql_Jxe99ae_137 : Cond.constantLong "java/lang/Double" 137 (9221120237041090560) ∈ TT := tt_5 (List.mem_of_getElem? (i := 156) rfl) rfl
theorem qr_long : Cond.arrayClass .long ∈ TT := tt_5 (List.mem_of_getElem? (i := 157) rfl) rfl
theorem qs_X5_number : Cond.selects RX5 yX5_number yX5_number ∈ TT := tt_p (List.mem_of_getElem? (i := 0) rfl) rfl
theorem qs_X5_mixedMember : Cond.selects RX5 yX5_mixedMember yX5_mixedMember ∈ TT := tt_p (List.mem_of_getElem? (i := 1) rfl) rfl
theorem qs_X5_mixedText : Cond.selects RX5 yX5_mixedText yX5_mixedText ∈ TT := tt_p (List.mem_of_getElem? (i := 2) rfl) rfl
theorem qs_X6_save : Cond.selects RX6 yX6_save yX6_save ∈ TT := tt_p (List.mem_of_getElem? (i := 4) rfl) rfl
theorem qs_X6_put : Cond.selects RX6 yX6_put yX6_put ∈ TT := tt_p (List.mem_of_getElem? (i := 5) rfl) rfl
theorem qs_X6_isMember : Cond.selects RX6 yX6_isMember yX6_isMember ∈ TT := tt_p (List.mem_of_getElem? (i := 6) rfl) rfl
theorem qs_X6_isThere : Cond.selects RX6 yX6_isThere yX6_isThere ∈ TT := tt_p (List.mem_of_getElem? (i := 7) rfl) rfl
theorem qs_X6_of : Cond.selects RX6 yX6_of yX6_of ∈ TT := tt_p (List.mem_of_getElem? (i := 8) rfl) rfl
theorem qs_X6_endMotion : Cond.selects RX6 yX6_endMotion yX6_endMotion ∈ TT := tt_p (List.mem_of_getElem? (i := 9) rfl) rfl
theorem qs_X6_lookAt : Cond.selects RX6 yX6_lookAt yX6_lookAt ∈ TT := tt_p (List.mem_of_getElem? (i := 10) rfl) rfl
theorem qs_X6_othersOf : Cond.selects RX6 yX6_othersOf yX6_othersOf ∈ TT := tt_p (List.mem_of_getElem? (i := 11) rfl) rfl
theorem qs_X6_allThere : Cond.selects RX6 yX6_allThere yX6_allThere ∈ TT := tt_p (List.mem_of_getElem? (i := 12) rfl) rfl
theorem qs_X6_add : Cond.selects RX6 yX6_add yX6_add ∈ TT := tt_p (List.mem_of_getElem? (i := 13) rfl) rfl
theorem qs_X6_canDeal : Cond.selects RX6 yX6_canDeal yX6_canDeal ∈ TT := tt_p (List.mem_of_getElem? (i := 14) rfl) rfl
theorem qs_X6_valueOf : Cond.selects RX6 yX6_valueOf yX6_valueOf ∈ TT := tt_p (List.mem_of_getElem? (i := 15) rfl) rfl
theorem qs_X6_ripenessOf : Cond.selects RX6 yX6_ripenessOf yX6_ripenessOf ∈ TT := tt_p (List.mem_of_getElem? (i := 16) rfl) rfl
theorem qs_X6_canPay : Cond.selects RX6 yX6_canPay yX6_canPay ∈ TT := tt_p (List.mem_of_getElem? (i := 17) rfl) rfl
theorem qs_X6_deals : Cond.selects RX6 yX6_deals yX6_deals ∈ TT := tt_p (List.mem_of_getElem? (i := 18) rfl) rfl
theorem qs_X6_passes : Cond.selects RX6 yX6_passes yX6_passes ∈ TT := tt_p (List.mem_of_getElem? (i := 19) rfl) rfl
theorem qs_X6_weekOf : Cond.selects RX6 yX6_weekOf yX6_weekOf ∈ TT := tt_p (List.mem_of_getElem? (i := 20) rfl) rfl
theorem qs_X6_canMove : Cond.selects RX6 yX6_canMove yX6_canMove ∈ TT := tt_p (List.mem_of_getElem? (i := 21) rfl) rfl
theorem qs_X6_canVote : Cond.selects RX6 yX6_canVote yX6_canVote ∈ TT := tt_p (List.mem_of_getElem? (i := 22) rfl) rfl
theorem qs_X6_rightUpTo : Cond.selects RX6 yX6_rightUpTo yX6_rightUpTo ∈ TT := tt_p (List.mem_of_getElem? (i := 23) rfl) rfl
theorem qs_X6_takes : Cond.selects RX6 yX6_takes yX6_takes ∈ TT := tt_p (List.mem_of_getElem? (i := 24) rfl) rfl
theorem qs_X6_takesMember : Cond.selects RX6 yX6_takesMember yX6_takesMember ∈ TT := tt_p (List.mem_of_getElem? (i := 25) rfl) rfl
theorem qs_X6_takesDigit : Cond.selects RX6 yX6_takesDigit yX6_takesDigit ∈ TT := tt_p (List.mem_of_getElem? (i := 26) rfl) rfl
theorem qs_X6_makes : Cond.selects RX6 yX6_makes yX6_makes ∈ TT := tt_p (List.mem_of_getElem? (i := 27) rfl) rfl
theorem qs_X6_memberNow : Cond.selects RX6 yX6_memberNow yX6_memberNow ∈ TT := tt_p (List.mem_of_getElem? (i := 28) rfl) rfl
theorem qs_X6_skillNow : Cond.selects RX6 yX6_skillNow yX6_skillNow ∈ TT := tt_p (List.mem_of_getElem? (i := 29) rfl) rfl
theorem qs_X6_counted : Cond.selects RX6 yX6_counted yX6_counted ∈ TT := tt_p (List.mem_of_getElem? (i := 30) rfl) rfl
theorem qs_X6_sumOfBalances : Cond.selects RX6 yX6_sumOfBalances yX6_sumOfBalances ∈ TT := tt_p (List.mem_of_getElem? (i := 31) rfl) rfl
theorem qs_X6_sumOf : Cond.selects RX6 yX6_sumOf yX6_sumOf ∈ TT := tt_p (List.mem_of_getElem? (i := 32) rfl) rfl
theorem qs_X6_longestNow : Cond.selects RX6 yX6_longestNow yX6_longestNow ∈ TT := tt_p (List.mem_of_getElem? (i := 33) rfl) rfl
theorem qs_X6_cheapestNow : Cond.selects RX6 yX6_cheapestNow yX6_cheapestNow ∈ TT := tt_p (List.mem_of_getElem? (i := 34) rfl) rfl
theorem qs_X6_decaysThen : Cond.selects RX6 yX6_decaysThen yX6_decaysThen ∈ TT := tt_p (List.mem_of_getElem? (i := 35) rfl) rfl
theorem qs_X6_needed : Cond.selects RX6 yX6_needed yX6_needed ∈ TT := tt_p (List.mem_of_getElem? (i := 36) rfl) rfl
theorem qs_X6_ripestNow : Cond.selects RX6 yX6_ripestNow yX6_ripestNow ∈ TT := tt_p (List.mem_of_getElem? (i := 37) rfl) rfl
theorem qs_X6_meanWorth : Cond.selects RX6 yX6_meanWorth yX6_meanWorth ∈ TT := tt_p (List.mem_of_getElem? (i := 38) rfl) rfl
theorem qs_X6_mix : Cond.selects RX6 yX6_mix yX6_mix ∈ TT := tt_p (List.mem_of_getElem? (i := 39) rfl) rfl
theorem qs_X6_mixMember : Cond.selects RX6 yX6_mixMember yX6_mixMember ∈ TT := tt_p (List.mem_of_getElem? (i := 40) rfl) rfl
theorem inTX0 : ∀ w ∈ wsX00, w ∈ TT := List.forall_mem_cons.mpr ⟨qy_X0_members, List.forall_mem_cons.mpr ⟨qy_X0_settings, List.forall_mem_cons.mpr ⟨qy_X0_came, List.forall_mem_cons.mpr ⟨qy_X0_common, List.forall_mem_cons.mpr ⟨qy_X0_forgiven, List.forall_mem_cons.mpr ⟨qy_X0_week, List.forall_mem_cons.mpr ⟨qy_X0_deals, List.forall_mem_cons.mpr ⟨qy_X0_debtor, List.forall_mem_cons.mpr ⟨qy_X0_motionMinutes, fun _ h => absurd h List.not_mem_nil⟩⟩⟩⟩⟩⟩⟩⟩⟩
theorem inTX1 : ∀ w ∈ wsX10, w ∈ TT := List.forall_mem_cons.mpr ⟨qy_X1_place, List.forall_mem_cons.mpr ⟨qy_X1_giver, List.forall_mem_cons.mpr ⟨qy_X1_taker, List.forall_mem_cons.mpr ⟨qy_X1_skill, List.forall_mem_cons.mpr ⟨qy_X1_minutes, fun _ h => absurd h List.not_mem_nil⟩⟩⟩⟩⟩
theorem inTX2 : ∀ w ∈ wsX20, w ∈ TT := List.forall_mem_cons.mpr ⟨qy_X2_signs, List.forall_mem_cons.mpr ⟨qy_X2_reader, List.forall_mem_cons.mpr ⟨qy_X2_size, fun _ h => absurd h List.not_mem_nil⟩⟩⟩
theorem inTX3 : ∀ w ∈ wsX30, w ∈ TT := List.forall_mem_cons.mpr ⟨qy_X3_states, List.forall_mem_cons.mpr ⟨qy_X3_next, List.forall_mem_cons.mpr ⟨qy_X3_kept, fun _ h => absurd h List.not_mem_nil⟩⟩⟩
theorem inTX4 : ∀ w ∈ wsX40, w ∈ TT := List.forall_mem_cons.mpr ⟨qy_X4_practice, List.forall_mem_cons.mpr ⟨qy_X4_isThere, List.forall_mem_cons.mpr ⟨qy_X4_isBusy, List.forall_mem_cons.mpr ⟨qy_X4_balance, List.forall_mem_cons.mpr ⟨qy_X4_loan, List.forall_mem_cons.mpr ⟨qy_X4_idleWeeks, List.forall_mem_cons.mpr ⟨qy_X4_minutesGiven, List.forall_mem_cons.mpr ⟨qy_X4_minutesTaken, List.forall_mem_cons.mpr ⟨qy_X4_earned, List.forall_mem_cons.mpr ⟨qy_X4_paid, List.forall_mem_cons.mpr ⟨qy_X4_decayed, List.forall_mem_cons.mpr ⟨qy_X4_forgiven, List.forall_mem_cons.mpr ⟨qy_X4_ballot, fun _ h => absurd h List.not_mem_nil⟩⟩⟩⟩⟩⟩⟩⟩⟩⟩⟩⟩⟩
theorem inTX5 : ∀ w ∈ wsX50, w ∈ TT := List.forall_mem_cons.mpr ⟨qy_X5_bank, List.forall_mem_cons.mpr ⟨qy_X5_history, List.forall_mem_cons.mpr ⟨qy_X5_text, fun _ h => absurd h List.not_mem_nil⟩⟩⟩
theorem inTX6 : ∀ w ∈ wsX60, w ∈ TT := List.forall_mem_cons.mpr ⟨qy_X6_z, List.forall_mem_cons.mpr ⟨qy_X6_states, List.forall_mem_cons.mpr ⟨qy_X6_history, List.forall_mem_cons.mpr ⟨qy_X6_length, List.forall_mem_cons.mpr ⟨qy_X6_text, List.forall_mem_cons.mpr ⟨qy_X6_thrown, List.forall_mem_cons.mpr ⟨qy_X6_parts, List.forall_mem_cons.mpr ⟨qy_X6_read, List.forall_mem_cons.mpr ⟨qy_X6_number, List.forall_mem_cons.mpr ⟨qy_X6_due, List.forall_mem_cons.mpr ⟨qy_X6_kept, List.forall_mem_cons.mpr ⟨qy_X6_hash, fun _ h => absurd h List.not_mem_nil⟩⟩⟩⟩⟩⟩⟩⟩⟩⟩⟩⟩
