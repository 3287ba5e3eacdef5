theorem w_im : Cond.initialized "java/lang/Math" ∈ TBL := in1 (List.mem_of_getElem? (i := 18) rfl) rfl
theorem w_is : Cond.initialized "java/lang/System" ∈ TBL := in1 (List.mem_of_getElem? (i := 13) rfl) rfl
theorem w_an : Cond.native arraycopyName ∈ TBL := in2 (List.mem_of_getElem? (i := 143) rfl) rfl
theorem w_as : Cond.static arraycopyName ∈ TBL := in2 (List.mem_of_getElem? (i := 142) rfl) rfl
theorem w_smax : Cond.static Lib.Math.max.name ∈ TBL := in3 (List.mem_of_getElem? (i := 20) rfl) rfl
theorem w_cmax : Cond.code Lib.Math.max.name Lib.Math.max.code 2 (some .int) ∈ TBL := in3 (List.mem_of_getElem? (i := 21) (by decide +kernel)) rfl
theorem w_smin : Cond.static Lib.Math.min.name ∈ TBL := in3 (List.mem_of_getElem? (i := 23) rfl) rfl
theorem w_cmin : Cond.code Lib.Math.min.name Lib.Math.min.code 2 (some .int) ∈ TBL := in3 (List.mem_of_getElem? (i := 24) (by decide +kernel)) rfl
theorem w_sabs : Cond.static Lib.Math.abs.name ∈ TBL := in4 (List.mem_of_getElem? (i := 49) rfl) rfl
theorem w_cabs : Cond.code Lib.Math.abs.name Lib.Math.abs.code 1 (some .int) ∈ TBL := in4 (List.mem_of_getElem? (i := 50) (by decide +kernel)) rfl
theorem w_sminL : Cond.static Lib.MathLoose.min_long.x ∈ TBL := in4 (List.mem_of_getElem? (i := 234) rfl) rfl
theorem w_cminL : Cond.code Lib.MathLoose.min_long.x Lib.MathLoose.min_long.code 4 (some .long) ∈ TBL := in4 (List.mem_of_getElem? (i := 235) (by decide +kernel)) rfl
theorem mv_X0_tell : MV yX0_tell cX0_tell 5 none 2 := ⟨in3 (List.mem_of_getElem? (i := 76) rfl) rfl, in1 (List.mem_of_getElem? (i := 4) rfl) rfl, in3 (List.mem_of_getElem? (i := 74) rfl) rfl, in3 (List.mem_of_getElem? (i := 75) rfl) rfl, by decide +kernel, by decide +kernel⟩
theorem mv_X0_copyFrom : MV yX0_copyFrom cX0_copyFrom 3 none 1 := ⟨in5 (List.mem_of_getElem? (i := 105) rfl) rfl, in1 (List.mem_of_getElem? (i := 4) rfl) rfl, in5 (List.mem_of_getElem? (i := 103) rfl) rfl, in5 (List.mem_of_getElem? (i := 104) rfl) rfl, by decide +kernel, by decide +kernel⟩
theorem mv_X0_changeRows : MV yX0_changeRows cX0_changeRows 9 none 5 := ⟨in4 (List.mem_of_getElem? (i := 36) rfl) rfl, in1 (List.mem_of_getElem? (i := 4) rfl) rfl, in4 (List.mem_of_getElem? (i := 34) rfl) rfl, in4 (List.mem_of_getElem? (i := 35) rfl) rfl, by decide +kernel, by decide +kernel⟩
theorem mv_X0_allRows : MV yX0_allRows cX0_allRows 3 (some .int) 0 := ⟨in4 (List.mem_of_getElem? (i := 110) rfl) rfl, in1 (List.mem_of_getElem? (i := 4) rfl) rfl, in4 (List.mem_of_getElem? (i := 108) rfl) rfl, in4 (List.mem_of_getElem? (i := 109) rfl) rfl, by decide +kernel, by decide +kernel⟩
theorem mv_X0_tableWithMostRows : MV yX0_tableWithMostRows cX0_tableWithMostRows 3 (some .int) 0 := ⟨in5 (List.mem_of_getElem? (i := 72) rfl) rfl, in1 (List.mem_of_getElem? (i := 4) rfl) rfl, in5 (List.mem_of_getElem? (i := 70) rfl) rfl, in5 (List.mem_of_getElem? (i := 71) rfl) rfl, by decide +kernel, by decide +kernel⟩
theorem mv_X0_columnDriftedMost : MV yX0_columnDriftedMost cX0_columnDriftedMost 6 (some .int) 0 := ⟨in5 (List.mem_of_getElem? (i := 76) rfl) rfl, in1 (List.mem_of_getElem? (i := 4) rfl) rfl, in5 (List.mem_of_getElem? (i := 74) rfl) rfl, in5 (List.mem_of_getElem? (i := 75) rfl) rfl, by decide +kernel, by decide +kernel⟩
theorem mv_X0_greatestTotal : MV yX0_greatestTotal cX0_greatestTotal 6 (some .int) 0 := ⟨in5 (List.mem_of_getElem? (i := 80) rfl) rfl, in1 (List.mem_of_getElem? (i := 4) rfl) rfl, in5 (List.mem_of_getElem? (i := 78) rfl) rfl, in5 (List.mem_of_getElem? (i := 79) rfl) rfl, by decide +kernel, by decide +kernel⟩
theorem mv_X0_mostAlike : MV yX0_mostAlike cX0_mostAlike 3 (some .int) 0 := ⟨in5 (List.mem_of_getElem? (i := 87) rfl) rfl, in1 (List.mem_of_getElem? (i := 4) rfl) rfl, in5 (List.mem_of_getElem? (i := 85) rfl) rfl, in5 (List.mem_of_getElem? (i := 86) rfl) rfl, by decide +kernel, by decide +kernel⟩
theorem mv_X0_valueSeenMost : MV yX0_valueSeenMost cX0_valueSeenMost 7 (some .int) 0 := ⟨in5 (List.mem_of_getElem? (i := 96) rfl) rfl, in1 (List.mem_of_getElem? (i := 4) rfl) rfl, in5 (List.mem_of_getElem? (i := 94) rfl) rfl, in5 (List.mem_of_getElem? (i := 95) rfl) rfl, by decide +kernel, by decide +kernel⟩
theorem mv_X1_read : MV yX1_read cX1_read 3 (some .int) 1 := ⟨in2 (List.mem_of_getElem? (i := 130) rfl) rfl, in1 (List.mem_of_getElem? (i := 3) rfl) rfl, in2 (List.mem_of_getElem? (i := 128) rfl) rfl, in2 (List.mem_of_getElem? (i := 129) rfl) rfl, by decide +kernel, by decide +kernel⟩
theorem mv_X1_readClause : MV yX1_readClause cX1_readClause 3 (some .boolean) 1 := ⟨in2 (List.mem_of_getElem? (i := 147) rfl) rfl, in1 (List.mem_of_getElem? (i := 3) rfl) rfl, in2 (List.mem_of_getElem? (i := 146) rfl) rfl, inP (List.mem_of_getElem? (i := 1) rfl) rfl, by decide +kernel, by decide +kernel⟩
theorem mv_X1_readItems : MV yX1_readItems cX1_readItems 8 (some .boolean) 3 := ⟨in2 (List.mem_of_getElem? (i := 155) rfl) rfl, in1 (List.mem_of_getElem? (i := 3) rfl) rfl, in2 (List.mem_of_getElem? (i := 154) rfl) rfl, inP (List.mem_of_getElem? (i := 2) rfl) rfl, by decide +kernel, by decide +kernel⟩
theorem mv_X1_resetItems : MV yX1_resetItems cX1_resetItems 3 none 2 := ⟨in2 (List.mem_of_getElem? (i := 138) rfl) rfl, in1 (List.mem_of_getElem? (i := 3) rfl) rfl, in2 (List.mem_of_getElem? (i := 137) rfl) rfl, inP (List.mem_of_getElem? (i := 0) rfl) rfl, by decide +kernel, by decide +kernel⟩
theorem mv_X1_itemOf : MS yX1_itemOf cX1_itemOf 4 (some .int) 3 := ⟨in2 (List.mem_of_getElem? (i := 158) rfl) rfl, in1 (List.mem_of_getElem? (i := 3) rfl) rfl, in2 (List.mem_of_getElem? (i := 157) rfl) rfl, by decide +kernel, by decide +kernel⟩
theorem mv_X1_fits : MV yX1_fits cX1_fits 3 (some .boolean) 0 := ⟨in2 (List.mem_of_getElem? (i := 220) rfl) rfl, in1 (List.mem_of_getElem? (i := 3) rfl) rfl, in2 (List.mem_of_getElem? (i := 219) rfl) rfl, inP (List.mem_of_getElem? (i := 3) rfl) rfl, by decide +kernel, by decide +kernel⟩
theorem mv_X1_rowItem : MV yX1_rowItem cX1_rowItem 3 (some .int) 2 := ⟨in2 (List.mem_of_getElem? (i := 224) rfl) rfl, in1 (List.mem_of_getElem? (i := 3) rfl) rfl, in2 (List.mem_of_getElem? (i := 222) rfl) rfl, in2 (List.mem_of_getElem? (i := 223) rfl) rfl, by decide +kernel, by decide +kernel⟩
theorem mv_X2_spread : MV yX2_spread cX2_spread 5 (some .int) 4 := ⟨in5 (List.mem_of_getElem? (i := 39) rfl) rfl, in1 (List.mem_of_getElem? (i := 11) rfl) rfl, in5 (List.mem_of_getElem? (i := 37) rfl) rfl, in5 (List.mem_of_getElem? (i := 38) rfl) rfl, by decide +kernel, by decide +kernel⟩
theorem mv_X2_find : MV yX2_find cX2_find 6 none 4 := ⟨in4 (List.mem_of_getElem? (i := 187) rfl) rfl, in1 (List.mem_of_getElem? (i := 11) rfl) rfl, in4 (List.mem_of_getElem? (i := 185) rfl) rfl, in4 (List.mem_of_getElem? (i := 186) rfl) rfl, by decide +kernel, by decide +kernel⟩
theorem mv_X2_findUnit : MV yX2_findUnit cX2_findUnit 5 none 3 := ⟨in4 (List.mem_of_getElem? (i := 191) rfl) rfl, in1 (List.mem_of_getElem? (i := 11) rfl) rfl, in4 (List.mem_of_getElem? (i := 190) rfl) rfl, inP (List.mem_of_getElem? (i := 31) rfl) rfl, by decide +kernel, by decide +kernel⟩
theorem mv_X2_heldIn : MS yX2_heldIn cX2_heldIn 6 (some .int) 4 := ⟨in4 (List.mem_of_getElem? (i := 195) rfl) rfl, in1 (List.mem_of_getElem? (i := 11) rfl) rfl, in4 (List.mem_of_getElem? (i := 194) rfl) rfl, by decide +kernel, by decide +kernel⟩
theorem mv_X2_addBucket : MV yX2_addBucket cX2_addBucket 7 none 3 := ⟨in4 (List.mem_of_getElem? (i := 202) rfl) rfl, in1 (List.mem_of_getElem? (i := 11) rfl) rfl, in4 (List.mem_of_getElem? (i := 201) rfl) rfl, inP (List.mem_of_getElem? (i := 32) rfl) rfl, by decide +kernel, by decide +kernel⟩
theorem mv_X3_length : MV yX3_length cX3_length 1 (some .int) 0 := ⟨in4 (List.mem_of_getElem? (i := 139) rfl) rfl, in1 (List.mem_of_getElem? (i := 7) rfl) rfl, in4 (List.mem_of_getElem? (i := 137) rfl) rfl, in4 (List.mem_of_getElem? (i := 138) rfl) rfl, by decide +kernel, by decide +kernel⟩
theorem mv_X3_note : MV yX3_note cX3_note 5 none 3 := ⟨in4 (List.mem_of_getElem? (i := 56) rfl) rfl, in1 (List.mem_of_getElem? (i := 7) rfl) rfl, in4 (List.mem_of_getElem? (i := 54) rfl) rfl, in4 (List.mem_of_getElem? (i := 55) rfl) rfl, by decide +kernel, by decide +kernel⟩
theorem mv_X3_eraseLatest : MV yX3_eraseLatest cX3_eraseLatest 1 none 0 := ⟨in4 (List.mem_of_getElem? (i := 126) rfl) rfl, in1 (List.mem_of_getElem? (i := 7) rfl) rfl, in4 (List.mem_of_getElem? (i := 124) rfl) rfl, in4 (List.mem_of_getElem? (i := 125) rfl) rfl, by decide +kernel, by decide +kernel⟩
theorem mv_X3_read : MV yX3_read cX3_read 3 (some .int) 2 := ⟨in4 (List.mem_of_getElem? (i := 144) rfl) rfl, in1 (List.mem_of_getElem? (i := 7) rfl) rfl, in4 (List.mem_of_getElem? (i := 142) rfl) rfl, in4 (List.mem_of_getElem? (i := 143) rfl) rfl, by decide +kernel, by decide +kernel⟩
theorem mv_X3_copyFrom : MV yX3_copyFrom cX3_copyFrom 2 none 1 := ⟨in5 (List.mem_of_getElem? (i := 109) rfl) rfl, in1 (List.mem_of_getElem? (i := 7) rfl) rfl, in5 (List.mem_of_getElem? (i := 107) rfl) rfl, in5 (List.mem_of_getElem? (i := 108) rfl) rfl, by decide +kernel, by decide +kernel⟩
theorem mv_X4_size : MV yX4_size cX4_size 1 (some .int) 0 := ⟨in3 (List.mem_of_getElem? (i := 189) rfl) rfl, in1 (List.mem_of_getElem? (i := 6) rfl) rfl, in3 (List.mem_of_getElem? (i := 187) rfl) rfl, in3 (List.mem_of_getElem? (i := 188) rfl) rfl, by decide +kernel, by decide +kernel⟩
theorem mv_X4_drift : MV yX4_drift cX4_drift 1 (some .int) 0 := ⟨in3 (List.mem_of_getElem? (i := 207) rfl) rfl, in1 (List.mem_of_getElem? (i := 6) rfl) rfl, in3 (List.mem_of_getElem? (i := 205) rfl) rfl, in3 (List.mem_of_getElem? (i := 206) rfl) rfl, by decide +kernel, by decide +kernel⟩
theorem mv_X4_firstOf : MV yX4_firstOf cX4_firstOf 2 (some .int) 1 := ⟨in3 (List.mem_of_getElem? (i := 131) rfl) rfl, in1 (List.mem_of_getElem? (i := 6) rfl) rfl, in3 (List.mem_of_getElem? (i := 129) rfl) rfl, in3 (List.mem_of_getElem? (i := 130) rfl) rfl, by decide +kernel, by decide +kernel⟩
theorem mv_X4_lastOf : MV yX4_lastOf cX4_lastOf 2 (some .int) 1 := ⟨in3 (List.mem_of_getElem? (i := 135) rfl) rfl, in1 (List.mem_of_getElem? (i := 6) rfl) rfl, in3 (List.mem_of_getElem? (i := 133) rfl) rfl, in3 (List.mem_of_getElem? (i := 134) rfl) rfl, by decide +kernel, by decide +kernel⟩
theorem mv_X4_widthOf : MV yX4_widthOf cX4_widthOf 2 (some .int) 1 := ⟨in4 (List.mem_of_getElem? (i := 206) rfl) rfl, in1 (List.mem_of_getElem? (i := 6) rfl) rfl, in4 (List.mem_of_getElem? (i := 204) rfl) rfl, in4 (List.mem_of_getElem? (i := 205) rfl) rfl, by decide +kernel, by decide +kernel⟩
theorem mv_X4_totalOf : MV yX4_totalOf cX4_totalOf 2 (some .int) 1 := ⟨in3 (List.mem_of_getElem? (i := 195) rfl) rfl, in1 (List.mem_of_getElem? (i := 6) rfl) rfl, in3 (List.mem_of_getElem? (i := 193) rfl) rfl, in3 (List.mem_of_getElem? (i := 194) rfl) rfl, by decide +kernel, by decide +kernel⟩
theorem mv_X4_greatestOf : MV yX4_greatestOf cX4_greatestOf 2 (some .int) 1 := ⟨in3 (List.mem_of_getElem? (i := 199) rfl) rfl, in1 (List.mem_of_getElem? (i := 6) rfl) rfl, in3 (List.mem_of_getElem? (i := 197) rfl) rfl, in3 (List.mem_of_getElem? (i := 198) rfl) rfl, by decide +kernel, by decide +kernel⟩
theorem mv_X4_clear : MV yX4_clear cX4_clear 2 none 1 := ⟨in3 (List.mem_of_getElem? (i := 87) rfl) rfl, in1 (List.mem_of_getElem? (i := 6) rfl) rfl, in3 (List.mem_of_getElem? (i := 85) rfl) rfl, in3 (List.mem_of_getElem? (i := 86) rfl) rfl, by decide +kernel, by decide +kernel⟩
theorem mv_X4_copyFrom : MV yX4_copyFrom cX4_copyFrom 2 none 1 := ⟨in5 (List.mem_of_getElem? (i := 48) rfl) rfl, in1 (List.mem_of_getElem? (i := 6) rfl) rfl, in5 (List.mem_of_getElem? (i := 46) rfl) rfl, in5 (List.mem_of_getElem? (i := 47) rfl) rfl, by decide +kernel, by decide +kernel⟩
theorem mv_X4_changeCount : MV yX4_changeCount cX4_changeCount 3 none 2 := ⟨in3 (List.mem_of_getElem? (i := 100) rfl) rfl, in1 (List.mem_of_getElem? (i := 6) rfl) rfl, in3 (List.mem_of_getElem? (i := 98) rfl) rfl, in3 (List.mem_of_getElem? (i := 99) rfl) rfl, by decide +kernel, by decide +kernel⟩
theorem mv_X4_layAnew : MV yX4_layAnew cX4_layAnew 5 none 2 := ⟨in3 (List.mem_of_getElem? (i := 104) rfl) rfl, in1 (List.mem_of_getElem? (i := 6) rfl) rfl, in3 (List.mem_of_getElem? (i := 102) rfl) rfl, in3 (List.mem_of_getElem? (i := 103) rfl) rfl, by decide +kernel, by decide +kernel⟩
theorem mv_X4_weigh : MV yX4_weigh cX4_weigh 5 none 1 := ⟨in3 (List.mem_of_getElem? (i := 127) rfl) rfl, in1 (List.mem_of_getElem? (i := 6) rfl) rfl, in3 (List.mem_of_getElem? (i := 126) rfl) rfl, inP (List.mem_of_getElem? (i := 8) rfl) rfl, by decide +kernel, by decide +kernel⟩
theorem mv_X4_follow : MV yX4_follow cX4_follow 6 none 2 := ⟨in4 (List.mem_of_getElem? (i := 40) rfl) rfl, in1 (List.mem_of_getElem? (i := 6) rfl) rfl, in4 (List.mem_of_getElem? (i := 38) rfl) rfl, in4 (List.mem_of_getElem? (i := 39) rfl) rfl, by decide +kernel, by decide +kernel⟩
theorem mv_X4_bucketOf : MV yX4_bucketOf cX4_bucketOf 4 (some .int) 1 := ⟨in4 (List.mem_of_getElem? (i := 44) rfl) rfl, in1 (List.mem_of_getElem? (i := 6) rfl) rfl, in4 (List.mem_of_getElem? (i := 43) rfl) rfl, inP (List.mem_of_getElem? (i := 19) rfl) rfl, by decide +kernel, by decide +kernel⟩
theorem mv_X4_greatestOfAll : MV yX4_greatestOfAll cX4_greatestOfAll 3 (some .int) 0 := ⟨in5 (List.mem_of_getElem? (i := 21) rfl) rfl, in1 (List.mem_of_getElem? (i := 6) rfl) rfl, in5 (List.mem_of_getElem? (i := 19) rfl) rfl, in5 (List.mem_of_getElem? (i := 20) rfl) rfl, by decide +kernel, by decide +kernel⟩
theorem mv_X4_countAt : MV yX4_countAt cX4_countAt 2 (some .int) 1 := ⟨in4 (List.mem_of_getElem? (i := 224) rfl) rfl, in1 (List.mem_of_getElem? (i := 6) rfl) rfl, in4 (List.mem_of_getElem? (i := 222) rfl) rfl, in4 (List.mem_of_getElem? (i := 223) rfl) rfl, by decide +kernel, by decide +kernel⟩
theorem mv_X4_joinTruth : MV yX4_joinTruth cX4_joinTruth 7 (some .long) 2 := ⟨in4 (List.mem_of_getElem? (i := 219) rfl) rfl, in1 (List.mem_of_getElem? (i := 6) rfl) rfl, in4 (List.mem_of_getElem? (i := 217) rfl) rfl, in4 (List.mem_of_getElem? (i := 218) rfl) rfl, by decide +kernel, by decide +kernel⟩
theorem mv_X4_joinUpper : MV yX4_joinUpper cX4_joinUpper 14 (some .long) 1 := ⟨in4 (List.mem_of_getElem? (i := 228) rfl) rfl, in1 (List.mem_of_getElem? (i := 6) rfl) rfl, in4 (List.mem_of_getElem? (i := 226) rfl) rfl, in4 (List.mem_of_getElem? (i := 227) rfl) rfl, by decide +kernel, by decide +kernel⟩
theorem mv_X4_joinEstimate : MV yX4_joinEstimate cX4_joinEstimate 10 (some .long) 1 := ⟨in5 (List.mem_of_getElem? (i := 7) rfl) rfl, in1 (List.mem_of_getElem? (i := 6) rfl) rfl, in5 (List.mem_of_getElem? (i := 5) rfl) rfl, in5 (List.mem_of_getElem? (i := 6) rfl) rfl, by decide +kernel, by decide +kernel⟩
theorem mv_X4_commonValues : MV yX4_commonValues cX4_commonValues 6 (some .int) 3 := ⟨in4 (List.mem_of_getElem? (i := 232) rfl) rfl, in1 (List.mem_of_getElem? (i := 6) rfl) rfl, in4 (List.mem_of_getElem? (i := 231) rfl) rfl, inP (List.mem_of_getElem? (i := 33) rfl) rfl, by decide +kernel, by decide +kernel⟩
theorem mv_X4_joinByDegrees : MV yX4_joinByDegrees cX4_joinByDegrees 9 (some .long) 1 := ⟨in4 (List.mem_of_getElem? (i := 239) rfl) rfl, in1 (List.mem_of_getElem? (i := 6) rfl) rfl, in4 (List.mem_of_getElem? (i := 237) rfl) rfl, in4 (List.mem_of_getElem? (i := 238) rfl) rfl, by decide +kernel, by decide +kernel⟩
theorem mv_X4_richestOutside : MV yX4_richestOutside cX4_richestOutside 5 (some .int) 1 := ⟨in5 (List.mem_of_getElem? (i := 3) rfl) rfl, in1 (List.mem_of_getElem? (i := 6) rfl) rfl, in5 (List.mem_of_getElem? (i := 2) rfl) rfl, inP (List.mem_of_getElem? (i := 34) rfl) rfl, by decide +kernel, by decide +kernel⟩
theorem mv_X5_solve : MV yX5_solve cX5_solve 5 none 2 := ⟨in3 (List.mem_of_getElem? (i := 109) rfl) rfl, in1 (List.mem_of_getElem? (i := 10) rfl) rfl, in3 (List.mem_of_getElem? (i := 107) rfl) rfl, in3 (List.mem_of_getElem? (i := 108) rfl) rfl, by decide +kernel, by decide +kernel⟩
theorem mv_X5_findErrors : MV yX5_findErrors cX5_findErrors 10 none 1 := ⟨in3 (List.mem_of_getElem? (i := 113) rfl) rfl, in1 (List.mem_of_getElem? (i := 10) rfl) rfl, in3 (List.mem_of_getElem? (i := 112) rfl) rfl, inP (List.mem_of_getElem? (i := 6) rfl) rfl, by decide +kernel, by decide +kernel⟩
theorem mv_X5_seek : MV yX5_seek cX5_seek 12 none 2 := ⟨in3 (List.mem_of_getElem? (i := 118) rfl) rfl, in1 (List.mem_of_getElem? (i := 10) rfl) rfl, in3 (List.mem_of_getElem? (i := 117) rfl) rfl, inP (List.mem_of_getElem? (i := 7) rfl) rfl, by decide +kernel, by decide +kernel⟩
theorem mv_X5_leastBy : MV yX5_leastBy cX5_leastBy 2 (some .long) 1 := ⟨in3 (List.mem_of_getElem? (i := 228) rfl) rfl, in1 (List.mem_of_getElem? (i := 10) rfl) rfl, in3 (List.mem_of_getElem? (i := 226) rfl) rfl, in3 (List.mem_of_getElem? (i := 227) rfl) rfl, by decide +kernel, by decide +kernel⟩
theorem mv_X5_borderOf : MV yX5_borderOf cX5_borderOf 5 (some .int) 2 := ⟨in3 (List.mem_of_getElem? (i := 123) rfl) rfl, in1 (List.mem_of_getElem? (i := 10) rfl) rfl, in3 (List.mem_of_getElem? (i := 121) rfl) rfl, in3 (List.mem_of_getElem? (i := 122) rfl) rfl, by decide +kernel, by decide +kernel⟩
theorem mv_X5_worstOf : MV yX5_worstOf cX5_worstOf 8 (some .int) 1 := ⟨in3 (List.mem_of_getElem? (i := 211) rfl) rfl, in1 (List.mem_of_getElem? (i := 10) rfl) rfl, in3 (List.mem_of_getElem? (i := 209) rfl) rfl, in3 (List.mem_of_getElem? (i := 210) rfl) rfl, by decide +kernel, by decide +kernel⟩
theorem mv_X6_forget : MV yX6_forget cX6_forget 1 none 0 := ⟨in3 (List.mem_of_getElem? (i := 140) rfl) rfl, in1 (List.mem_of_getElem? (i := 9) rfl) rfl, in3 (List.mem_of_getElem? (i := 138) rfl) rfl, in3 (List.mem_of_getElem? (i := 139) rfl) rfl, by decide +kernel, by decide +kernel⟩
theorem mv_X6_open : MV yX6_open cX6_open 5 none 2 := ⟨in4 (List.mem_of_getElem? (i := 26) rfl) rfl, in1 (List.mem_of_getElem? (i := 9) rfl) rfl, in4 (List.mem_of_getElem? (i := 24) rfl) rfl, in4 (List.mem_of_getElem? (i := 25) rfl) rfl, by decide +kernel, by decide +kernel⟩
theorem mv_X6_noteRows : MV yX6_noteRows cX6_noteRows 6 none 3 := ⟨in4 (List.mem_of_getElem? (i := 32) rfl) rfl, in1 (List.mem_of_getElem? (i := 9) rfl) rfl, in4 (List.mem_of_getElem? (i := 30) rfl) rfl, in4 (List.mem_of_getElem? (i := 31) rfl) rfl, by decide +kernel, by decide +kernel⟩
theorem mv_X6_undoLatest : MV yX6_undoLatest cX6_undoLatest 3 none 1 := ⟨in4 (List.mem_of_getElem? (i := 122) rfl) rfl, in1 (List.mem_of_getElem? (i := 9) rfl) rfl, in4 (List.mem_of_getElem? (i := 120) rfl) rfl, in4 (List.mem_of_getElem? (i := 121) rfl) rfl, by decide +kernel, by decide +kernel⟩
theorem mv_X6_restore : MV yX6_restore cX6_restore 4 none 1 := ⟨in4 (List.mem_of_getElem? (i := 130) rfl) rfl, in1 (List.mem_of_getElem? (i := 9) rfl) rfl, in4 (List.mem_of_getElem? (i := 129) rfl) rfl, inP (List.mem_of_getElem? (i := 26) rfl) rfl, by decide +kernel, by decide +kernel⟩
theorem mv_X7_cellOf : MS yX7_cellOf cX7_cellOf 2 (some .int) 2 := ⟨in3 (List.mem_of_getElem? (i := 96) rfl) rfl, in1 (List.mem_of_getElem? (i := 5) rfl) rfl, in3 (List.mem_of_getElem? (i := 95) rfl) rfl, by decide +kernel, by decide +kernel⟩
theorem mv_X7_hasCell : MV yX7_hasCell cX7_hasCell 3 (some .boolean) 2 := ⟨in3 (List.mem_of_getElem? (i := 168) rfl) rfl, in1 (List.mem_of_getElem? (i := 5) rfl) rfl, in3 (List.mem_of_getElem? (i := 166) rfl) rfl, in3 (List.mem_of_getElem? (i := 167) rfl) rfl, by decide +kernel, by decide +kernel⟩
theorem mv_X7_alike : MV yX7_alike cX7_alike 3 (some .int) 2 := ⟨in3 (List.mem_of_getElem? (i := 172) rfl) rfl, in1 (List.mem_of_getElem? (i := 5) rfl) rfl, in3 (List.mem_of_getElem? (i := 170) rfl) rfl, in3 (List.mem_of_getElem? (i := 171) rfl) rfl, by decide +kernel, by decide +kernel⟩
theorem mv_X7_clear : MV yX7_clear cX7_clear 2 none 1 := ⟨in3 (List.mem_of_getElem? (i := 80) rfl) rfl, in1 (List.mem_of_getElem? (i := 5) rfl) rfl, in3 (List.mem_of_getElem? (i := 78) rfl) rfl, in3 (List.mem_of_getElem? (i := 79) rfl) rfl, by decide +kernel, by decide +kernel⟩
theorem mv_X7_copyFrom : MV yX7_copyFrom cX7_copyFrom 2 none 1 := ⟨in5 (List.mem_of_getElem? (i := 114) rfl) rfl, in1 (List.mem_of_getElem? (i := 5) rfl) rfl, in5 (List.mem_of_getElem? (i := 112) rfl) rfl, in5 (List.mem_of_getElem? (i := 113) rfl) rfl, by decide +kernel, by decide +kernel⟩
theorem mv_X7_changeRows : MV yX7_changeRows cX7_changeRows 4 none 3 := ⟨in3 (List.mem_of_getElem? (i := 93) rfl) rfl, in1 (List.mem_of_getElem? (i := 5) rfl) rfl, in3 (List.mem_of_getElem? (i := 91) rfl) rfl, in3 (List.mem_of_getElem? (i := 92) rfl) rfl, by decide +kernel, by decide +kernel⟩
theorem mv_X7_rowsHeldBy : MV yX7_rowsHeldBy cX7_rowsHeldBy 9 (some .long) 2 := ⟨in4 (List.mem_of_getElem? (i := 164) rfl) rfl, in1 (List.mem_of_getElem? (i := 5) rfl) rfl, in4 (List.mem_of_getElem? (i := 162) rfl) rfl, in4 (List.mem_of_getElem? (i := 163) rfl) rfl, by decide +kernel, by decide +kernel⟩
theorem mv_X7_chainTruth : MV yX7_chainTruth cX7_chainTruth 11 (some .long) 3 := ⟨in5 (List.mem_of_getElem? (i := 26) rfl) rfl, in1 (List.mem_of_getElem? (i := 5) rfl) rfl, in5 (List.mem_of_getElem? (i := 24) rfl) rfl, in5 (List.mem_of_getElem? (i := 25) rfl) rfl, by decide +kernel, by decide +kernel⟩
theorem mv_X7_chainUpper : MV yX7_chainUpper cX7_chainUpper 7 (some .long) 2 := ⟨in5 (List.mem_of_getElem? (i := 16) rfl) rfl, in1 (List.mem_of_getElem? (i := 5) rfl) rfl, in5 (List.mem_of_getElem? (i := 14) rfl) rfl, in5 (List.mem_of_getElem? (i := 15) rfl) rfl, by decide +kernel, by decide +kernel⟩
theorem mv_X7_mostAlike : MV yX7_mostAlike cX7_mostAlike 3 (some .int) 0 := ⟨in5 (List.mem_of_getElem? (i := 91) rfl) rfl, in1 (List.mem_of_getElem? (i := 5) rfl) rfl, in5 (List.mem_of_getElem? (i := 89) rfl) rfl, in5 (List.mem_of_getElem? (i := 90) rfl) rfl, by decide +kernel, by decide +kernel⟩
theorem mv_X8_bytesIn : MS yX8_bytesIn cX8_bytesIn 3 (some .int) 1 := ⟨in2 (List.mem_of_getElem? (i := 114) rfl) rfl, in1 (List.mem_of_getElem? (i := 2) rfl) rfl, in2 (List.mem_of_getElem? (i := 113) rfl) rfl, by decide +kernel, by decide +kernel⟩
theorem mv_X8_append : MV yX8_append cX8_append 4 none 1 := ⟨in2 (List.mem_of_getElem? (i := 118) rfl) rfl, in1 (List.mem_of_getElem? (i := 2) rfl) rfl, in2 (List.mem_of_getElem? (i := 116) rfl) rfl, in2 (List.mem_of_getElem? (i := 117) rfl) rfl, by decide +kernel, by decide +kernel⟩
theorem mv_X8_rewind : MV yX8_rewind cX8_rewind 1 none 0 := ⟨in2 (List.mem_of_getElem? (i := 134) rfl) rfl, in1 (List.mem_of_getElem? (i := 2) rfl) rfl, in2 (List.mem_of_getElem? (i := 132) rfl) rfl, in2 (List.mem_of_getElem? (i := 133) rfl) rfl, by decide +kernel, by decide +kernel⟩
theorem mv_X8_peek : MV yX8_peek cX8_peek 1 (some .int) 0 := ⟨in2 (List.mem_of_getElem? (i := 151) rfl) rfl, in1 (List.mem_of_getElem? (i := 2) rfl) rfl, in2 (List.mem_of_getElem? (i := 149) rfl) rfl, in2 (List.mem_of_getElem? (i := 150) rfl) rfl, by decide +kernel, by decide +kernel⟩
theorem mv_X8_isDigitNext : MV yX8_isDigitNext cX8_isDigitNext 1 (some .boolean) 0 := ⟨in2 (List.mem_of_getElem? (i := 216) rfl) rfl, in1 (List.mem_of_getElem? (i := 2) rfl) rfl, in2 (List.mem_of_getElem? (i := 214) rfl) rfl, in2 (List.mem_of_getElem? (i := 215) rfl) rfl, by decide +kernel, by decide +kernel⟩
theorem mv_X8_fail : MV yX8_fail cX8_fail 2 (some .boolean) 1 := ⟨in2 (List.mem_of_getElem? (i := 203) rfl) rfl, in1 (List.mem_of_getElem? (i := 2) rfl) rfl, in2 (List.mem_of_getElem? (i := 201) rfl) rfl, in2 (List.mem_of_getElem? (i := 202) rfl) rfl, by decide +kernel, by decide +kernel⟩
theorem mv_X8_readNumber : MV yX8_readNumber cX8_readNumber 6 (some .int) 3 := ⟨in2 (List.mem_of_getElem? (i := 211) rfl) rfl, in1 (List.mem_of_getElem? (i := 2) rfl) rfl, in2 (List.mem_of_getElem? (i := 209) rfl) rfl, in2 (List.mem_of_getElem? (i := 210) rfl) rfl, by decide +kernel, by decide +kernel⟩
theorem mv_X9_read : MV yX9_read cX9_read 4 (some .int) 1 := ⟨in2 (List.mem_of_getElem? (i := 228) rfl) rfl, in1 (List.mem_of_getElem? (i := 8) rfl) rfl, in2 (List.mem_of_getElem? (i := 226) rfl) rfl, in2 (List.mem_of_getElem? (i := 227) rfl) rfl, by decide +kernel, by decide +kernel⟩
theorem mv_X9_readUnit : MV yX9_readUnit cX9_readUnit 5 (some .boolean) 2 := ⟨in2 (List.mem_of_getElem? (i := 233) rfl) rfl, in1 (List.mem_of_getElem? (i := 8) rfl) rfl, in2 (List.mem_of_getElem? (i := 232) rfl) rfl, inP (List.mem_of_getElem? (i := 4) rfl) rfl, by decide +kernel, by decide +kernel⟩
theorem mv_X9_unitHolds : MV yX9_unitHolds cX9_unitHolds 3 (some .boolean) 2 := ⟨in4 (List.mem_of_getElem? (i := 178) rfl) rfl, in1 (List.mem_of_getElem? (i := 8) rfl) rfl, in4 (List.mem_of_getElem? (i := 176) rfl) rfl, in4 (List.mem_of_getElem? (i := 177) rfl) rfl, by decide +kernel, by decide +kernel⟩
theorem mv_X9_holds : MV yX9_holds cX9_holds 5 (some .boolean) 2 := ⟨in4 (List.mem_of_getElem? (i := 170) rfl) rfl, in1 (List.mem_of_getElem? (i := 8) rfl) rfl, in4 (List.mem_of_getElem? (i := 168) rfl) rfl, in4 (List.mem_of_getElem? (i := 169) rfl) rfl, by decide +kernel, by decide +kernel⟩
theorem mv_X9_beginsTerm : MV yX9_beginsTerm cX9_beginsTerm 2 (some .boolean) 1 := ⟨in4 (List.mem_of_getElem? (i := 174) rfl) rfl, in1 (List.mem_of_getElem? (i := 8) rfl) rfl, in4 (List.mem_of_getElem? (i := 172) rfl) rfl, in4 (List.mem_of_getElem? (i := 173) rfl) rfl, by decide +kernel, by decide +kernel⟩
theorem mv_X10_feed : MV yX10_feed cX10_feed 7 (some .int) 5 := ⟨in2 (List.mem_of_getElem? (i := 111) rfl) rfl, in1 (List.mem_of_getElem? (i := 1) rfl) rfl, in2 (List.mem_of_getElem? (i := 109) rfl) rfl, in2 (List.mem_of_getElem? (i := 110) rfl) rfl, by decide +kernel, by decide +kernel⟩
theorem mv_X10_end : MV yX10_end cX10_end 2 (some .boolean) 1 := ⟨in2 (List.mem_of_getElem? (i := 122) rfl) rfl, in1 (List.mem_of_getElem? (i := 1) rfl) rfl, in2 (List.mem_of_getElem? (i := 120) rfl) rfl, in2 (List.mem_of_getElem? (i := 121) rfl) rfl, by decide +kernel, by decide +kernel⟩
theorem mv_X10_fault : MV yX10_fault cX10_fault 2 (some .int) 1 := ⟨in2 (List.mem_of_getElem? (i := 126) rfl) rfl, in1 (List.mem_of_getElem? (i := 1) rfl) rfl, in2 (List.mem_of_getElem? (i := 124) rfl) rfl, in2 (List.mem_of_getElem? (i := 125) rfl) rfl, by decide +kernel, by decide +kernel⟩
theorem mv_X10_text : MV yX10_text cX10_text 2 (some .int) 1 := ⟨in3 (List.mem_of_getElem? (i := 68) rfl) rfl, in1 (List.mem_of_getElem? (i := 1) rfl) rfl, in3 (List.mem_of_getElem? (i := 66) rfl) rfl, in3 (List.mem_of_getElem? (i := 67) rfl) rfl, by decide +kernel, by decide +kernel⟩
theorem mv_X10_tellBook : MV yX10_tellBook cX10_tellBook 1 (some .int) 0 := ⟨in3 (List.mem_of_getElem? (i := 72) rfl) rfl, in1 (List.mem_of_getElem? (i := 1) rfl) rfl, in3 (List.mem_of_getElem? (i := 71) rfl) rfl, inP (List.mem_of_getElem? (i := 5) rfl) rfl, by decide +kernel, by decide +kernel⟩
theorem mv_X10_tellWhere : MV yX10_tellWhere cX10_tellWhere 1 (some .int) 0 := ⟨in3 (List.mem_of_getElem? (i := 144) rfl) rfl, in1 (List.mem_of_getElem? (i := 1) rfl) rfl, in3 (List.mem_of_getElem? (i := 143) rfl) rfl, inP (List.mem_of_getElem? (i := 9) rfl) rfl, by decide +kernel, by decide +kernel⟩
theorem mv_X10_rule : MV yX10_rule cX10_rule 2 (some .int) 1 := ⟨in3 (List.mem_of_getElem? (i := 148) rfl) rfl, in1 (List.mem_of_getElem? (i := 1) rfl) rfl, in3 (List.mem_of_getElem? (i := 146) rfl) rfl, in3 (List.mem_of_getElem? (i := 147) rfl) rfl, by decide +kernel, by decide +kernel⟩
theorem mv_X10_table : MV yX10_table cX10_table 4 (some .int) 2 := ⟨in5 (List.mem_of_getElem? (i := 132) rfl) rfl, in1 (List.mem_of_getElem? (i := 1) rfl) rfl, in5 (List.mem_of_getElem? (i := 130) rfl) rfl, in5 (List.mem_of_getElem? (i := 131) rfl) rfl, by decide +kernel, by decide +kernel⟩
theorem mv_X10_rows : MV yX10_rows cX10_rows 4 (some .int) 3 := ⟨in3 (List.mem_of_getElem? (i := 156) rfl) rfl, in1 (List.mem_of_getElem? (i := 1) rfl) rfl, in3 (List.mem_of_getElem? (i := 154) rfl) rfl, in3 (List.mem_of_getElem? (i := 155) rfl) rfl, by decide +kernel, by decide +kernel⟩
theorem mv_X10_countOf : MV yX10_countOf cX10_countOf 5 (some .int) 3 := ⟨in3 (List.mem_of_getElem? (i := 176) rfl) rfl, in1 (List.mem_of_getElem? (i := 1) rfl) rfl, in3 (List.mem_of_getElem? (i := 174) rfl) rfl, in3 (List.mem_of_getElem? (i := 175) rfl) rfl, by decide +kernel, by decide +kernel⟩
theorem mv_X10_bucket : MV yX10_bucket cX10_bucket 6 (some .int) 4 := ⟨in3 (List.mem_of_getElem? (i := 184) rfl) rfl, in1 (List.mem_of_getElem? (i := 1) rfl) rfl, in3 (List.mem_of_getElem? (i := 182) rfl) rfl, in3 (List.mem_of_getElem? (i := 183) rfl) rfl, by decide +kernel, by decide +kernel⟩
theorem mv_X10_column : MV yX10_column cX10_column 5 (some .int) 3 := ⟨in3 (List.mem_of_getElem? (i := 203) rfl) rfl, in1 (List.mem_of_getElem? (i := 1) rfl) rfl, in3 (List.mem_of_getElem? (i := 201) rfl) rfl, in3 (List.mem_of_getElem? (i := 202) rfl) rfl, by decide +kernel, by decide +kernel⟩
theorem mv_X10_error : MV yX10_error cX10_error 4 (some .long) 3 := ⟨in3 (List.mem_of_getElem? (i := 219) rfl) rfl, in1 (List.mem_of_getElem? (i := 1) rfl) rfl, in3 (List.mem_of_getElem? (i := 217) rfl) rfl, in3 (List.mem_of_getElem? (i := 218) rfl) rfl, by decide +kernel, by decide +kernel⟩
theorem mv_X10_border : MV yX10_border cX10_border 5 (some .int) 4 := ⟨in3 (List.mem_of_getElem? (i := 233) rfl) rfl, in1 (List.mem_of_getElem? (i := 1) rfl) rfl, in3 (List.mem_of_getElem? (i := 231) rfl) rfl, in3 (List.mem_of_getElem? (i := 232) rfl) rfl, by decide +kernel, by decide +kernel⟩
theorem mv_X10_tried : MV yX10_tried cX10_tried 5 (some .int) 4 := ⟨in3 (List.mem_of_getElem? (i := 238) rfl) rfl, in1 (List.mem_of_getElem? (i := 1) rfl) rfl, in3 (List.mem_of_getElem? (i := 236) rfl) rfl, in3 (List.mem_of_getElem? (i := 237) rfl) rfl, by decide +kernel, by decide +kernel⟩
theorem mv_X10_fewest : MV yX10_fewest cX10_fewest 7 (some .int) 3 := ⟨in4 (List.mem_of_getElem? (i := 2) rfl) rfl, in1 (List.mem_of_getElem? (i := 1) rfl) rfl, in4 (List.mem_of_getElem? (i := 0) rfl) rfl, in4 (List.mem_of_getElem? (i := 1) rfl) rfl, by decide +kernel, by decide +kernel⟩
theorem mv_X10_solve : MV yX10_solve cX10_solve 4 (some .boolean) 3 := ⟨in3 (List.mem_of_getElem? (i := 223) rfl) rfl, in1 (List.mem_of_getElem? (i := 1) rfl) rfl, in3 (List.mem_of_getElem? (i := 222) rfl) rfl, inP (List.mem_of_getElem? (i := 14) rfl) rfl, by decide +kernel, by decide +kernel⟩
theorem mv_X10_add : MV yX10_add cX10_add 6 (some .int) 4 := ⟨in4 (List.mem_of_getElem? (i := 6) rfl) rfl, in1 (List.mem_of_getElem? (i := 1) rfl) rfl, in4 (List.mem_of_getElem? (i := 4) rfl) rfl, in4 (List.mem_of_getElem? (i := 5) rfl) rfl, by decide +kernel, by decide +kernel⟩
theorem mv_X10_drop : MV yX10_drop cX10_drop 6 (some .int) 4 := ⟨in4 (List.mem_of_getElem? (i := 63) rfl) rfl, in1 (List.mem_of_getElem? (i := 1) rfl) rfl, in4 (List.mem_of_getElem? (i := 61) rfl) rfl, in4 (List.mem_of_getElem? (i := 62) rfl) rfl, by decide +kernel, by decide +kernel⟩
theorem mv_X10_move : MV yX10_move cX10_move 7 (some .int) 5 := ⟨in4 (List.mem_of_getElem? (i := 71) rfl) rfl, in1 (List.mem_of_getElem? (i := 1) rfl) rfl, in4 (List.mem_of_getElem? (i := 69) rfl) rfl, in4 (List.mem_of_getElem? (i := 70) rfl) rfl, by decide +kernel, by decide +kernel⟩
theorem mv_X10_build : MV yX10_build cX10_build 4 (some .int) 2 := ⟨in4 (List.mem_of_getElem? (i := 75) rfl) rfl, in1 (List.mem_of_getElem? (i := 1) rfl) rfl, in4 (List.mem_of_getElem? (i := 73) rfl) rfl, in4 (List.mem_of_getElem? (i := 74) rfl) rfl, by decide +kernel, by decide +kernel⟩
theorem mv_X10_budget : MV yX10_budget cX10_budget 3 (some .int) 1 := ⟨in4 (List.mem_of_getElem? (i := 88) rfl) rfl, in1 (List.mem_of_getElem? (i := 1) rfl) rfl, in4 (List.mem_of_getElem? (i := 86) rfl) rfl, in4 (List.mem_of_getElem? (i := 87) rfl) rfl, by decide +kernel, by decide +kernel⟩
theorem mv_X10_whyNoAdd : MV yX10_whyNoAdd cX10_whyNoAdd 6 (some .int) 4 := ⟨in4 (List.mem_of_getElem? (i := 10) rfl) rfl, in1 (List.mem_of_getElem? (i := 1) rfl) rfl, in4 (List.mem_of_getElem? (i := 9) rfl) rfl, inP (List.mem_of_getElem? (i := 15) rfl) rfl, by decide +kernel, by decide +kernel⟩
theorem mv_X10_whyNoDrop : MV yX10_whyNoDrop cX10_whyNoDrop 6 (some .int) 4 := ⟨in4 (List.mem_of_getElem? (i := 67) rfl) rfl, in1 (List.mem_of_getElem? (i := 1) rfl) rfl, in4 (List.mem_of_getElem? (i := 66) rfl) rfl, inP (List.mem_of_getElem? (i := 20) rfl) rfl, by decide +kernel, by decide +kernel⟩
theorem mv_X10_whyNoRows : MV yX10_whyNoRows cX10_whyNoRows 5 (some .int) 4 := ⟨in4 (List.mem_of_getElem? (i := 14) rfl) rfl, in1 (List.mem_of_getElem? (i := 1) rfl) rfl, in4 (List.mem_of_getElem? (i := 13) rfl) rfl, inP (List.mem_of_getElem? (i := 16) rfl) rfl, by decide +kernel, by decide +kernel⟩
theorem mv_X10_whyNoBuild : MV yX10_whyNoBuild cX10_whyNoBuild 3 (some .int) 2 := ⟨in4 (List.mem_of_getElem? (i := 79) rfl) rfl, in1 (List.mem_of_getElem? (i := 1) rfl) rfl, in4 (List.mem_of_getElem? (i := 78) rfl) rfl, inP (List.mem_of_getElem? (i := 21) rfl) rfl, by decide +kernel, by decide +kernel⟩
theorem mv_X10_refuse : MV yX10_refuse cX10_refuse 2 (some .int) 1 := ⟨in4 (List.mem_of_getElem? (i := 18) rfl) rfl, in1 (List.mem_of_getElem? (i := 1) rfl) rfl, in4 (List.mem_of_getElem? (i := 17) rfl) rfl, inP (List.mem_of_getElem? (i := 17) rfl) rfl, by decide +kernel, by decide +kernel⟩
theorem mv_X10_doChange : MV yX10_doChange cX10_doChange 5 none 4 := ⟨in4 (List.mem_of_getElem? (i := 22) rfl) rfl, in1 (List.mem_of_getElem? (i := 1) rfl) rfl, in4 (List.mem_of_getElem? (i := 21) rfl) rfl, inP (List.mem_of_getElem? (i := 18) rfl) rfl, by decide +kernel, by decide +kernel⟩
theorem mv_X10_doBuild : MV yX10_doBuild cX10_doBuild 3 none 2 := ⟨in4 (List.mem_of_getElem? (i := 83) rfl) rfl, in1 (List.mem_of_getElem? (i := 1) rfl) rfl, in4 (List.mem_of_getElem? (i := 82) rfl) rfl, inP (List.mem_of_getElem? (i := 22) rfl) rfl, by decide +kernel, by decide +kernel⟩
theorem mv_X10_years : MV yX10_years cX10_years 5 (some .int) 2 := ⟨in4 (List.mem_of_getElem? (i := 92) rfl) rfl, in1 (List.mem_of_getElem? (i := 1) rfl) rfl, in4 (List.mem_of_getElem? (i := 90) rfl) rfl, in4 (List.mem_of_getElem? (i := 91) rfl) rfl, by decide +kernel, by decide +kernel⟩
theorem mv_X10_passYear : MV yX10_passYear cX10_passYear 7 none 0 := ⟨in4 (List.mem_of_getElem? (i := 96) rfl) rfl, in1 (List.mem_of_getElem? (i := 1) rfl) rfl, in4 (List.mem_of_getElem? (i := 95) rfl) rfl, inP (List.mem_of_getElem? (i := 23) rfl) rfl, by decide +kernel, by decide +kernel⟩
theorem mv_X10_draw : MV yX10_draw cX10_draw 2 (some .int) 1 := ⟨in4 (List.mem_of_getElem? (i := 100) rfl) rfl, in1 (List.mem_of_getElem? (i := 1) rfl) rfl, in4 (List.mem_of_getElem? (i := 99) rfl) rfl, inP (List.mem_of_getElem? (i := 24) rfl) rfl, by decide +kernel, by decide +kernel⟩
theorem mv_X10_drawOrMissing : MV yX10_drawOrMissing cX10_drawOrMissing 3 (some .int) 1 := ⟨in4 (List.mem_of_getElem? (i := 106) rfl) rfl, in1 (List.mem_of_getElem? (i := 1) rfl) rfl, in4 (List.mem_of_getElem? (i := 105) rfl) rfl, inP (List.mem_of_getElem? (i := 25) rfl) rfl, by decide +kernel, by decide +kernel⟩
theorem mv_X10_status : MV yX10_status cX10_status 2 (some .int) 1 := ⟨in4 (List.mem_of_getElem? (i := 114) rfl) rfl, in1 (List.mem_of_getElem? (i := 1) rfl) rfl, in4 (List.mem_of_getElem? (i := 112) rfl) rfl, in4 (List.mem_of_getElem? (i := 113) rfl) rfl, by decide +kernel, by decide +kernel⟩
theorem mv_X10_undo : MV yX10_undo cX10_undo 1 (some .int) 0 := ⟨in4 (List.mem_of_getElem? (i := 118) rfl) rfl, in1 (List.mem_of_getElem? (i := 1) rfl) rfl, in4 (List.mem_of_getElem? (i := 116) rfl) rfl, in4 (List.mem_of_getElem? (i := 117) rfl) rfl, by decide +kernel, by decide +kernel⟩
theorem mv_X10_log : MV yX10_log cX10_log 3 (some .int) 2 := ⟨in4 (List.mem_of_getElem? (i := 135) rfl) rfl, in1 (List.mem_of_getElem? (i := 1) rfl) rfl, in4 (List.mem_of_getElem? (i := 133) rfl) rfl, in4 (List.mem_of_getElem? (i := 134) rfl) rfl, by decide +kernel, by decide +kernel⟩
theorem mv_X10_where : MV yX10_where cX10_where 5 (some .int) 3 := ⟨in4 (List.mem_of_getElem? (i := 148) rfl) rfl, in1 (List.mem_of_getElem? (i := 1) rfl) rfl, in4 (List.mem_of_getElem? (i := 146) rfl) rfl, in4 (List.mem_of_getElem? (i := 147) rfl) rfl, by decide +kernel, by decide +kernel⟩
theorem mv_X10_join : MV yX10_join cX10_join 8 (some .long) 5 := ⟨in4 (List.mem_of_getElem? (i := 215) rfl) rfl, in1 (List.mem_of_getElem? (i := 1) rfl) rfl, in4 (List.mem_of_getElem? (i := 213) rfl) rfl, in4 (List.mem_of_getElem? (i := 214) rfl) rfl, by decide +kernel, by decide +kernel⟩
theorem mv_X10_chain : MV yX10_chain cX10_chain 6 (some .long) 1 := ⟨in5 (List.mem_of_getElem? (i := 12) rfl) rfl, in1 (List.mem_of_getElem? (i := 1) rfl) rfl, in5 (List.mem_of_getElem? (i := 10) rfl) rfl, in5 (List.mem_of_getElem? (i := 11) rfl) rfl, by decide +kernel, by decide +kernel⟩
theorem mv_X10_beginLook : MV yX10_beginLook cX10_beginLook 1 none 0 := ⟨in4 (List.mem_of_getElem? (i := 156) rfl) rfl, in1 (List.mem_of_getElem? (i := 1) rfl) rfl, in4 (List.mem_of_getElem? (i := 155) rfl) rfl, inP (List.mem_of_getElem? (i := 28) rfl) rfl, by decide +kernel, by decide +kernel⟩
theorem mv_X10_take : MV yX10_take cX10_take 2 none 1 := ⟨in4 (List.mem_of_getElem? (i := 160) rfl) rfl, in1 (List.mem_of_getElem? (i := 1) rfl) rfl, in4 (List.mem_of_getElem? (i := 159) rfl) rfl, inP (List.mem_of_getElem? (i := 29) rfl) rfl, by decide +kernel, by decide +kernel⟩
theorem mv_X10_endLook : MV yX10_endLook cX10_endLook 5 (some .long) 1 := ⟨in4 (List.mem_of_getElem? (i := 182) rfl) rfl, in1 (List.mem_of_getElem? (i := 1) rfl) rfl, in4 (List.mem_of_getElem? (i := 181) rfl) rfl, inP (List.mem_of_getElem? (i := 30) rfl) rfl, by decide +kernel, by decide +kernel⟩
theorem mv_X10_trace : MV yX10_trace cX10_trace 2 (some .int) 1 := ⟨in5 (List.mem_of_getElem? (i := 31) rfl) rfl, in1 (List.mem_of_getElem? (i := 1) rfl) rfl, in5 (List.mem_of_getElem? (i := 29) rfl) rfl, in5 (List.mem_of_getElem? (i := 30) rfl) rfl, by decide +kernel, by decide +kernel⟩
theorem mv_X10_narrow : MV yX10_narrow cX10_narrow 10 (some .int) 3 := ⟨in5 (List.mem_of_getElem? (i := 35) rfl) rfl, in1 (List.mem_of_getElem? (i := 1) rfl) rfl, in5 (List.mem_of_getElem? (i := 33) rfl) rfl, in5 (List.mem_of_getElem? (i := 34) rfl) rfl, by decide +kernel, by decide +kernel⟩
theorem mv_X10_asIfBuilt : MV yX10_asIfBuilt cX10_asIfBuilt 2 (some (.object "SafeBuckets$Lane")) 1 := ⟨in5 (List.mem_of_getElem? (i := 44) rfl) rfl, in1 (List.mem_of_getElem? (i := 1) rfl) rfl, in5 (List.mem_of_getElem? (i := 43) rfl) rfl, inP (List.mem_of_getElem? (i := 35) rfl) rfl, by decide +kernel, by decide +kernel⟩
theorem mv_X10_odds : MV yX10_odds cX10_odds 14 (some .long) 4 := ⟨in5 (List.mem_of_getElem? (i := 53) rfl) rfl, in1 (List.mem_of_getElem? (i := 1) rfl) rfl, in5 (List.mem_of_getElem? (i := 51) rfl) rfl, in5 (List.mem_of_getElem? (i := 52) rfl) rfl, by decide +kernel, by decide +kernel⟩
theorem mv_X10_commonDivisor : MS yX10_commonDivisor cX10_commonDivisor 11 (some .long) 2 := ⟨in5 (List.mem_of_getElem? (i := 56) rfl) rfl, in1 (List.mem_of_getElem? (i := 1) rfl) rfl, in5 (List.mem_of_getElem? (i := 55) rfl) rfl, by decide +kernel, by decide +kernel⟩
theorem mv_X10_unit : MV yX10_unit cX10_unit 5 (some .int) 3 := ⟨in5 (List.mem_of_getElem? (i := 60) rfl) rfl, in1 (List.mem_of_getElem? (i := 1) rfl) rfl, in5 (List.mem_of_getElem? (i := 58) rfl) rfl, in5 (List.mem_of_getElem? (i := 59) rfl) rfl, by decide +kernel, by decide +kernel⟩
theorem mv_X10_shares : MV yX10_shares cX10_shares 4 (some .int) 2 := ⟨in5 (List.mem_of_getElem? (i := 64) rfl) rfl, in1 (List.mem_of_getElem? (i := 1) rfl) rfl, in5 (List.mem_of_getElem? (i := 62) rfl) rfl, in5 (List.mem_of_getElem? (i := 63) rfl) rfl, by decide +kernel, by decide +kernel⟩
theorem mv_X10_most : MV yX10_most cX10_most 2 (some .int) 1 := ⟨in5 (List.mem_of_getElem? (i := 68) rfl) rfl, in1 (List.mem_of_getElem? (i := 1) rfl) rfl, in5 (List.mem_of_getElem? (i := 66) rfl) rfl, in5 (List.mem_of_getElem? (i := 67) rfl) rfl, by decide +kernel, by decide +kernel⟩
theorem mv_X10_image : MV yX10_image cX10_image 1 (some .int) 0 := ⟨in5 (List.mem_of_getElem? (i := 101) rfl) rfl, in1 (List.mem_of_getElem? (i := 1) rfl) rfl, in5 (List.mem_of_getElem? (i := 99) rfl) rfl, in5 (List.mem_of_getElem? (i := 100) rfl) rfl, by decide +kernel, by decide +kernel⟩
theorem mv_X10_back : MV yX10_back cX10_back 1 (some .int) 0 := ⟨in5 (List.mem_of_getElem? (i := 120) rfl) rfl, in1 (List.mem_of_getElem? (i := 1) rfl) rfl, in5 (List.mem_of_getElem? (i := 118) rfl) rfl, in5 (List.mem_of_getElem? (i := 119) rfl) rfl, by decide +kernel, by decide +kernel⟩
theorem mv_X10_count : MV yX10_count cX10_count 2 (some .int) 1 := ⟨in5 (List.mem_of_getElem? (i := 124) rfl) rfl, in1 (List.mem_of_getElem? (i := 1) rfl) rfl, in5 (List.mem_of_getElem? (i := 122) rfl) rfl, in5 (List.mem_of_getElem? (i := 123) rfl) rfl, by decide +kernel, by decide +kernel⟩
theorem mv_X10_hasBook : MV yX10_hasBook cX10_hasBook 1 (some .boolean) 0 := ⟨in3 (List.mem_of_getElem? (i := 152) rfl) rfl, in1 (List.mem_of_getElem? (i := 1) rfl) rfl, in3 (List.mem_of_getElem? (i := 151) rfl) rfl, inP (List.mem_of_getElem? (i := 10) rfl) rfl, by decide +kernel, by decide +kernel⟩
theorem mv_X10_hasTable : MV yX10_hasTable cX10_hasTable 2 (some .boolean) 1 := ⟨in3 (List.mem_of_getElem? (i := 164) rfl) rfl, in1 (List.mem_of_getElem? (i := 1) rfl) rfl, in3 (List.mem_of_getElem? (i := 163) rfl) rfl, inP (List.mem_of_getElem? (i := 12) rfl) rfl, by decide +kernel, by decide +kernel⟩
theorem mv_X10_hasColumn : MV yX10_hasColumn cX10_hasColumn 3 (some .boolean) 2 := ⟨in3 (List.mem_of_getElem? (i := 180) rfl) rfl, in1 (List.mem_of_getElem? (i := 1) rfl) rfl, in3 (List.mem_of_getElem? (i := 179) rfl) rfl, inP (List.mem_of_getElem? (i := 13) rfl) rfl, by decide +kernel, by decide +kernel⟩
theorem mv_X10_hasCell : MV yX10_hasCell cX10_hasCell 4 (some .boolean) 3 := ⟨in3 (List.mem_of_getElem? (i := 160) rfl) rfl, in1 (List.mem_of_getElem? (i := 1) rfl) rfl, in3 (List.mem_of_getElem? (i := 159) rfl) rfl, inP (List.mem_of_getElem? (i := 11) rfl) rfl, by decide +kernel, by decide +kernel⟩
theorem mv_X10_hasWhere : MV yX10_hasWhere cX10_hasWhere 2 (some .boolean) 1 := ⟨in4 (List.mem_of_getElem? (i := 152) rfl) rfl, in1 (List.mem_of_getElem? (i := 1) rfl) rfl, in4 (List.mem_of_getElem? (i := 151) rfl) rfl, inP (List.mem_of_getElem? (i := 27) rfl) rfl, by decide +kernel, by decide +kernel⟩
theorem mv_X11_in : MS yX11_in cX11_in 6 (some .boolean) 3 := ⟨in6 (List.mem_of_getElem? (i := 82) rfl) rfl, in1 (List.mem_of_getElem? (i := 12) rfl) rfl, in6 (List.mem_of_getElem? (i := 81) rfl) rfl, by decide +kernel, by decide +kernel⟩
theorem mv_X11_has : MS yX11_has cX11_has 2 (some .boolean) 2 := ⟨in6 (List.mem_of_getElem? (i := 111) rfl) rfl, in1 (List.mem_of_getElem? (i := 12) rfl) rfl, in6 (List.mem_of_getElem? (i := 110) rfl) rfl, by decide +kernel, by decide +kernel⟩
theorem mv_X11_thrown : MV yX11_thrown cX11_thrown 1 (some .int) 0 := ⟨in6 (List.mem_of_getElem? (i := 68) rfl) rfl, in1 (List.mem_of_getElem? (i := 12) rfl) rfl, in6 (List.mem_of_getElem? (i := 66) rfl) rfl, in6 (List.mem_of_getElem? (i := 67) rfl) rfl, by decide +kernel, by decide +kernel⟩
theorem mv_X11_byteOf : MS yX11_byteOf cX11_byteOf 7 (some .int) 6 := ⟨in6 (List.mem_of_getElem? (i := 75) rfl) rfl, in1 (List.mem_of_getElem? (i := 12) rfl) rfl, in6 (List.mem_of_getElem? (i := 74) rfl) rfl, by decide +kernel, by decide +kernel⟩
theorem mv_X11_feed : MV yX11_feed cX11_feed 9 (some .int) 5 := ⟨in6 (List.mem_of_getElem? (i := 72) rfl) rfl, in1 (List.mem_of_getElem? (i := 12) rfl) rfl, in6 (List.mem_of_getElem? (i := 70) rfl) rfl, in6 (List.mem_of_getElem? (i := 71) rfl) rfl, by decide +kernel, by decide +kernel⟩
theorem mv_X11_end : MV yX11_end cX11_end 2 (some .boolean) 1 := ⟨in6 (List.mem_of_getElem? (i := 79) rfl) rfl, in1 (List.mem_of_getElem? (i := 12) rfl) rfl, in6 (List.mem_of_getElem? (i := 77) rfl) rfl, in6 (List.mem_of_getElem? (i := 78) rfl) rfl, by decide +kernel, by decide +kernel⟩
theorem mv_X11_here : MV yX11_here cX11_here 1 (some .int) 0 := ⟨in6 (List.mem_of_getElem? (i := 101) rfl) rfl, in1 (List.mem_of_getElem? (i := 12) rfl) rfl, in6 (List.mem_of_getElem? (i := 100) rfl) rfl, inP (List.mem_of_getElem? (i := 39) rfl) rfl, by decide +kernel, by decide +kernel⟩
theorem mv_X11_ahead : MV yX11_ahead cX11_ahead 1 (some .int) 0 := ⟨in6 (List.mem_of_getElem? (i := 97) rfl) rfl, in1 (List.mem_of_getElem? (i := 12) rfl) rfl, in6 (List.mem_of_getElem? (i := 96) rfl) rfl, inP (List.mem_of_getElem? (i := 38) rfl) rfl, by decide +kernel, by decide +kernel⟩
theorem mv_X11_bad : MV yX11_bad cX11_bad 1 none 0 := ⟨in6 (List.mem_of_getElem? (i := 128) rfl) rfl, in1 (List.mem_of_getElem? (i := 12) rfl) rfl, in6 (List.mem_of_getElem? (i := 127) rfl) rfl, inP (List.mem_of_getElem? (i := 42) rfl) rfl, by decide +kernel, by decide +kernel⟩
theorem mv_X11_isDigit : MS yX11_isDigit cX11_isDigit 1 (some .boolean) 1 := ⟨in6 (List.mem_of_getElem? (i := 124) rfl) rfl, in1 (List.mem_of_getElem? (i := 12) rfl) rfl, in6 (List.mem_of_getElem? (i := 123) rfl) rfl, by decide +kernel, by decide +kernel⟩
theorem mv_X11_number : MV yX11_number cX11_number 6 (some .int) 3 := ⟨in6 (List.mem_of_getElem? (i := 121) rfl) rfl, in1 (List.mem_of_getElem? (i := 12) rfl) rfl, in6 (List.mem_of_getElem? (i := 120) rfl) rfl, inP (List.mem_of_getElem? (i := 41) rfl) rfl, by decide +kernel, by decide +kernel⟩
theorem mv_X11_itemOf : MS yX11_itemOf cX11_itemOf 2 (some .int) 2 := ⟨in6 (List.mem_of_getElem? (i := 108) rfl) rfl, in1 (List.mem_of_getElem? (i := 12) rfl) rfl, in6 (List.mem_of_getElem? (i := 107) rfl) rfl, by decide +kernel, by decide +kernel⟩
theorem mv_X11_lowest : MS yX11_lowest cX11_lowest 2 (some .int) 2 := ⟨in6 (List.mem_of_getElem? (i := 114) rfl) rfl, in1 (List.mem_of_getElem? (i := 12) rfl) rfl, in6 (List.mem_of_getElem? (i := 113) rfl) rfl, by decide +kernel, by decide +kernel⟩
theorem mv_X11_highest : MS yX11_highest cX11_highest 2 (some .int) 2 := ⟨in6 (List.mem_of_getElem? (i := 117) rfl) rfl, in1 (List.mem_of_getElem? (i := 12) rfl) rfl, in6 (List.mem_of_getElem? (i := 116) rfl) rfl, by decide +kernel, by decide +kernel⟩
theorem mv_X11_usual : MS yX11_usual cX11_usual 2 (some .int) 2 := ⟨in6 (List.mem_of_getElem? (i := 93) rfl) rfl, in1 (List.mem_of_getElem? (i := 12) rfl) rfl, in6 (List.mem_of_getElem? (i := 92) rfl) rfl, by decide +kernel, by decide +kernel⟩
theorem mv_X11_items : MV yX11_items cX11_items 7 none 4 := ⟨in6 (List.mem_of_getElem? (i := 105) rfl) rfl, in1 (List.mem_of_getElem? (i := 12) rfl) rfl, in6 (List.mem_of_getElem? (i := 104) rfl) rfl, inP (List.mem_of_getElem? (i := 40) rfl) rfl, by decide +kernel, by decide +kernel⟩
theorem mv_X11_isWhole : MV yX11_isWhole cX11_isWhole 4 (some .boolean) 0 := ⟨in6 (List.mem_of_getElem? (i := 132) rfl) rfl, in1 (List.mem_of_getElem? (i := 12) rfl) rfl, in6 (List.mem_of_getElem? (i := 131) rfl) rfl, inP (List.mem_of_getElem? (i := 43) rfl) rfl, by decide +kernel, by decide +kernel⟩
theorem mv_X11_readBook : MV yX11_readBook cX11_readBook 4 (some .int) 0 := ⟨in6 (List.mem_of_getElem? (i := 90) rfl) rfl, in1 (List.mem_of_getElem? (i := 12) rfl) rfl, in6 (List.mem_of_getElem? (i := 89) rfl) rfl, inP (List.mem_of_getElem? (i := 37) rfl) rfl, by decide +kernel, by decide +kernel⟩
theorem mv_X11_readUnit : MV yX11_readUnit cX11_readUnit 6 none 2 := ⟨in6 (List.mem_of_getElem? (i := 140) rfl) rfl, in1 (List.mem_of_getElem? (i := 12) rfl) rfl, in6 (List.mem_of_getElem? (i := 139) rfl) rfl, inP (List.mem_of_getElem? (i := 45) rfl) rfl, by decide +kernel, by decide +kernel⟩
theorem mv_X11_readWhere : MV yX11_readWhere cX11_readWhere 5 (some .int) 1 := ⟨in6 (List.mem_of_getElem? (i := 136) rfl) rfl, in1 (List.mem_of_getElem? (i := 12) rfl) rfl, in6 (List.mem_of_getElem? (i := 135) rfl) rfl, inP (List.mem_of_getElem? (i := 44) rfl) rfl, by decide +kernel, by decide +kernel⟩
theorem mv_X11_fault : MV yX11_fault cX11_fault 2 (some .int) 1 := ⟨in6 (List.mem_of_getElem? (i := 86) rfl) rfl, in1 (List.mem_of_getElem? (i := 12) rfl) rfl, in6 (List.mem_of_getElem? (i := 84) rfl) rfl, in6 (List.mem_of_getElem? (i := 85) rfl) rfl, by decide +kernel, by decide +kernel⟩
theorem mv_X11_place : MS yX11_place cX11_place 3 (some .int) 3 := ⟨in6 (List.mem_of_getElem? (i := 151) rfl) rfl, in1 (List.mem_of_getElem? (i := 12) rfl) rfl, in6 (List.mem_of_getElem? (i := 150) rfl) rfl, by decide +kernel, by decide +kernel⟩
theorem mv_X11_column : MS yX11_column cX11_column 2 (some .int) 2 := ⟨in6 (List.mem_of_getElem? (i := 185) rfl) rfl, in1 (List.mem_of_getElem? (i := 12) rfl) rfl, in6 (List.mem_of_getElem? (i := 184) rfl) rfl, by decide +kernel, by decide +kernel⟩
theorem mv_X11_drift : MS yX11_drift cX11_drift 2 (some .int) 2 := ⟨in6 (List.mem_of_getElem? (i := 188) rfl) rfl, in1 (List.mem_of_getElem? (i := 12) rfl) rfl, in6 (List.mem_of_getElem? (i := 187) rfl) rfl, by decide +kernel, by decide +kernel⟩
theorem mv_X11_bucketMany : MV yX11_bucketMany cX11_bucketMany 3 (some .int) 2 := ⟨in7 (List.mem_of_getElem? (i := 0) rfl) rfl, in1 (List.mem_of_getElem? (i := 12) rfl) rfl, in6 (List.mem_of_getElem? (i := 239) rfl) rfl, inP (List.mem_of_getElem? (i := 59) rfl) rfl, by decide +kernel, by decide +kernel⟩
theorem mv_X11_of : MV yX11_of cX11_of 5 (some .int) 4 := ⟨in7 (List.mem_of_getElem? (i := 4) rfl) rfl, in1 (List.mem_of_getElem? (i := 12) rfl) rfl, in7 (List.mem_of_getElem? (i := 3) rfl) rfl, inP (List.mem_of_getElem? (i := 60) rfl) rfl, by decide +kernel, by decide +kernel⟩
theorem mv_X11_put : MV yX11_put cX11_put 6 none 5 := ⟨in6 (List.mem_of_getElem? (i := 193) rfl) rfl, in1 (List.mem_of_getElem? (i := 12) rfl) rfl, in6 (List.mem_of_getElem? (i := 192) rfl) rfl, inP (List.mem_of_getElem? (i := 53) rfl) rfl, by decide +kernel, by decide +kernel⟩
theorem mv_X11_isBook : MV yX11_isBook cX11_isBook 1 (some .boolean) 0 := ⟨in6 (List.mem_of_getElem? (i := 201) rfl) rfl, in1 (List.mem_of_getElem? (i := 12) rfl) rfl, in6 (List.mem_of_getElem? (i := 200) rfl) rfl, inP (List.mem_of_getElem? (i := 54) rfl) rfl, by decide +kernel, by decide +kernel⟩
theorem mv_X11_isTable : MV yX11_isTable cX11_isTable 2 (some .boolean) 1 := ⟨in6 (List.mem_of_getElem? (i := 210) rfl) rfl, in1 (List.mem_of_getElem? (i := 12) rfl) rfl, in6 (List.mem_of_getElem? (i := 209) rfl) rfl, inP (List.mem_of_getElem? (i := 55) rfl) rfl, by decide +kernel, by decide +kernel⟩
theorem mv_X11_isColumn : MV yX11_isColumn cX11_isColumn 3 (some .boolean) 2 := ⟨in6 (List.mem_of_getElem? (i := 232) rfl) rfl, in1 (List.mem_of_getElem? (i := 12) rfl) rfl, in6 (List.mem_of_getElem? (i := 231) rfl) rfl, inP (List.mem_of_getElem? (i := 58) rfl) rfl, by decide +kernel, by decide +kernel⟩
theorem mv_X11_isValue : MV yX11_isValue cX11_isValue 3 (some .boolean) 2 := ⟨in6 (List.mem_of_getElem? (i := 223) rfl) rfl, in1 (List.mem_of_getElem? (i := 12) rfl) rfl, in6 (List.mem_of_getElem? (i := 222) rfl) rfl, inP (List.mem_of_getElem? (i := 57) rfl) rfl, by decide +kernel, by decide +kernel⟩
theorem mv_X11_countAt : MV yX11_countAt cX11_countAt 7 (some .int) 3 := ⟨in6 (List.mem_of_getElem? (i := 163) rfl) rfl, in1 (List.mem_of_getElem? (i := 12) rfl) rfl, in6 (List.mem_of_getElem? (i := 162) rfl) rfl, inP (List.mem_of_getElem? (i := 49) rfl) rfl, by decide +kernel, by decide +kernel⟩
theorem mv_X11_rowsOf : MV yX11_rowsOf cX11_rowsOf 4 (some .int) 1 := ⟨in6 (List.mem_of_getElem? (i := 215) rfl) rfl, in1 (List.mem_of_getElem? (i := 12) rfl) rfl, in6 (List.mem_of_getElem? (i := 214) rfl) rfl, inP (List.mem_of_getElem? (i := 56) rfl) rfl, by decide +kernel, by decide +kernel⟩
theorem mv_X11_rowsOfAll : MV yX11_rowsOfAll cX11_rowsOfAll 3 (some .int) 0 := ⟨in7 (List.mem_of_getElem? (i := 121) rfl) rfl, in1 (List.mem_of_getElem? (i := 12) rfl) rfl, in7 (List.mem_of_getElem? (i := 120) rfl) rfl, inP (List.mem_of_getElem? (i := 76) rfl) rfl, by decide +kernel, by decide +kernel⟩
theorem mv_X11_layCounts : MV yX11_layCounts cX11_layCounts 4 none 2 := ⟨in6 (List.mem_of_getElem? (i := 159) rfl) rfl, in1 (List.mem_of_getElem? (i := 12) rfl) rfl, in6 (List.mem_of_getElem? (i := 158) rfl) rfl, inP (List.mem_of_getElem? (i := 48) rfl) rfl, by decide +kernel, by decide +kernel⟩
theorem mv_X11_errorOf : MV yX11_errorOf cX11_errorOf 8 (some .long) 2 := ⟨in6 (List.mem_of_getElem? (i := 180) rfl) rfl, in1 (List.mem_of_getElem? (i := 12) rfl) rfl, in6 (List.mem_of_getElem? (i := 179) rfl) rfl, inP (List.mem_of_getElem? (i := 52) rfl) rfl, by decide +kernel, by decide +kernel⟩
theorem mv_X11_leastAt : MS yX11_leastAt cX11_leastAt 2 (some .int) 2 := ⟨in6 (List.mem_of_getElem? (i := 176) rfl) rfl, in1 (List.mem_of_getElem? (i := 12) rfl) rfl, in6 (List.mem_of_getElem? (i := 175) rfl) rfl, by decide +kernel, by decide +kernel⟩
theorem mv_X11_layLeast : MV yX11_layLeast cX11_layLeast 9 none 1 := ⟨in6 (List.mem_of_getElem? (i := 172) rfl) rfl, in1 (List.mem_of_getElem? (i := 12) rfl) rfl, in6 (List.mem_of_getElem? (i := 171) rfl) rfl, inP (List.mem_of_getElem? (i := 51) rfl) rfl, by decide +kernel, by decide +kernel⟩
theorem mv_X11_layBorders : MV yX11_layBorders cX11_layBorders 5 none 1 := ⟨in6 (List.mem_of_getElem? (i := 168) rfl) rfl, in1 (List.mem_of_getElem? (i := 12) rfl) rfl, in6 (List.mem_of_getElem? (i := 167) rfl) rfl, inP (List.mem_of_getElem? (i := 50) rfl) rfl, by decide +kernel, by decide +kernel⟩
theorem mv_X11_buildNow : MV yX11_buildNow cX11_buildNow 8 none 2 := ⟨in6 (List.mem_of_getElem? (i := 155) rfl) rfl, in1 (List.mem_of_getElem? (i := 12) rfl) rfl, in6 (List.mem_of_getElem? (i := 154) rfl) rfl, inP (List.mem_of_getElem? (i := 47) rfl) rfl, by decide +kernel, by decide +kernel⟩
theorem mv_X11_takeBook : MV yX11_takeBook cX11_takeBook 2 (some .int) 0 := ⟨in6 (List.mem_of_getElem? (i := 148) rfl) rfl, in1 (List.mem_of_getElem? (i := 12) rfl) rfl, in6 (List.mem_of_getElem? (i := 147) rfl) rfl, inP (List.mem_of_getElem? (i := 46) rfl) rfl, by decide +kernel, by decide +kernel⟩
theorem mv_X11_text : MV yX11_text cX11_text 2 (some .int) 1 := ⟨in6 (List.mem_of_getElem? (i := 144) rfl) rfl, in1 (List.mem_of_getElem? (i := 12) rfl) rfl, in6 (List.mem_of_getElem? (i := 142) rfl) rfl, in6 (List.mem_of_getElem? (i := 143) rfl) rfl, by decide +kernel, by decide +kernel⟩
theorem mv_X11_rule : MV yX11_rule cX11_rule 2 (some .int) 1 := ⟨in6 (List.mem_of_getElem? (i := 197) rfl) rfl, in1 (List.mem_of_getElem? (i := 12) rfl) rfl, in6 (List.mem_of_getElem? (i := 195) rfl) rfl, in6 (List.mem_of_getElem? (i := 196) rfl) rfl, by decide +kernel, by decide +kernel⟩
theorem mv_X11_table : MV yX11_table cX11_table 3 (some .int) 2 := ⟨in6 (List.mem_of_getElem? (i := 206) rfl) rfl, in1 (List.mem_of_getElem? (i := 12) rfl) rfl, in6 (List.mem_of_getElem? (i := 204) rfl) rfl, in6 (List.mem_of_getElem? (i := 205) rfl) rfl, by decide +kernel, by decide +kernel⟩
theorem mv_X11_rows : MV yX11_rows cX11_rows 4 (some .int) 3 := ⟨in6 (List.mem_of_getElem? (i := 219) rfl) rfl, in1 (List.mem_of_getElem? (i := 12) rfl) rfl, in6 (List.mem_of_getElem? (i := 217) rfl) rfl, in6 (List.mem_of_getElem? (i := 218) rfl) rfl, by decide +kernel, by decide +kernel⟩
theorem mv_X11_countOf : MV yX11_countOf cX11_countOf 4 (some .int) 3 := ⟨in6 (List.mem_of_getElem? (i := 228) rfl) rfl, in1 (List.mem_of_getElem? (i := 12) rfl) rfl, in6 (List.mem_of_getElem? (i := 226) rfl) rfl, in6 (List.mem_of_getElem? (i := 227) rfl) rfl, by decide +kernel, by decide +kernel⟩
theorem mv_X11_bucket : MV yX11_bucket cX11_bucket 5 (some .int) 4 := ⟨in6 (List.mem_of_getElem? (i := 236) rfl) rfl, in1 (List.mem_of_getElem? (i := 12) rfl) rfl, in6 (List.mem_of_getElem? (i := 234) rfl) rfl, in6 (List.mem_of_getElem? (i := 235) rfl) rfl, by decide +kernel, by decide +kernel⟩
theorem mv_X11_worst : MV yX11_worst cX11_worst 5 (some .int) 2 := ⟨in7 (List.mem_of_getElem? (i := 13) rfl) rfl, in1 (List.mem_of_getElem? (i := 12) rfl) rfl, in7 (List.mem_of_getElem? (i := 12) rfl) rfl, inP (List.mem_of_getElem? (i := 61) rfl) rfl, by decide +kernel, by decide +kernel⟩
theorem mv_X11_column_ : MV yX11_column_ cX11_column_ 4 (some .int) 3 := ⟨in7 (List.mem_of_getElem? (i := 9) rfl) rfl, in1 (List.mem_of_getElem? (i := 12) rfl) rfl, in7 (List.mem_of_getElem? (i := 7) rfl) rfl, in7 (List.mem_of_getElem? (i := 8) rfl) rfl, by decide +kernel, by decide +kernel⟩
theorem mv_X11_isBuilding : MV yX11_isBuilding cX11_isBuilding 4 (some .boolean) 3 := ⟨in7 (List.mem_of_getElem? (i := 21) rfl) rfl, in1 (List.mem_of_getElem? (i := 12) rfl) rfl, in7 (List.mem_of_getElem? (i := 20) rfl) rfl, inP (List.mem_of_getElem? (i := 62) rfl) rfl, by decide +kernel, by decide +kernel⟩
theorem mv_X11_error : MV yX11_error cX11_error 4 (some .long) 3 := ⟨in7 (List.mem_of_getElem? (i := 17) rfl) rfl, in1 (List.mem_of_getElem? (i := 12) rfl) rfl, in7 (List.mem_of_getElem? (i := 15) rfl) rfl, in7 (List.mem_of_getElem? (i := 16) rfl) rfl, by decide +kernel, by decide +kernel⟩
theorem mv_X11_border : MV yX11_border cX11_border 5 (some .int) 4 := ⟨in7 (List.mem_of_getElem? (i := 25) rfl) rfl, in1 (List.mem_of_getElem? (i := 12) rfl) rfl, in7 (List.mem_of_getElem? (i := 23) rfl) rfl, in7 (List.mem_of_getElem? (i := 24) rfl) rfl, by decide +kernel, by decide +kernel⟩
theorem mv_X11_triedFrom : MV yX11_triedFrom cX11_triedFrom 9 (some .int) 3 := ⟨in7 (List.mem_of_getElem? (i := 33) rfl) rfl, in1 (List.mem_of_getElem? (i := 12) rfl) rfl, in7 (List.mem_of_getElem? (i := 32) rfl) rfl, inP (List.mem_of_getElem? (i := 63) rfl) rfl, by decide +kernel, by decide +kernel⟩
theorem mv_X11_tried : MV yX11_tried cX11_tried 8 (some .int) 4 := ⟨in7 (List.mem_of_getElem? (i := 29) rfl) rfl, in1 (List.mem_of_getElem? (i := 12) rfl) rfl, in7 (List.mem_of_getElem? (i := 27) rfl) rfl, in7 (List.mem_of_getElem? (i := 28) rfl) rfl, by decide +kernel, by decide +kernel⟩
theorem mv_X11_fewest : MV yX11_fewest cX11_fewest 6 (some .int) 3 := ⟨in7 (List.mem_of_getElem? (i := 37) rfl) rfl, in1 (List.mem_of_getElem? (i := 12) rfl) rfl, in7 (List.mem_of_getElem? (i := 35) rfl) rfl, in7 (List.mem_of_getElem? (i := 36) rfl) rfl, by decide +kernel, by decide +kernel⟩
theorem mv_X11_keep : MV yX11_keep cX11_keep 2 none 0 := ⟨in7 (List.mem_of_getElem? (i := 58) rfl) rfl, in1 (List.mem_of_getElem? (i := 12) rfl) rfl, in7 (List.mem_of_getElem? (i := 57) rfl) rfl, inP (List.mem_of_getElem? (i := 67) rfl) rfl, by decide +kernel, by decide +kernel⟩
theorem mv_X11_isRefused : MV yX11_isRefused cX11_isRefused 6 (some .boolean) 4 := ⟨in7 (List.mem_of_getElem? (i := 54) rfl) rfl, in1 (List.mem_of_getElem? (i := 12) rfl) rfl, in7 (List.mem_of_getElem? (i := 53) rfl) rfl, inP (List.mem_of_getElem? (i := 66) rfl) rfl, by decide +kernel, by decide +kernel⟩
theorem mv_X11_bucketOf : MV yX11_bucketOf cX11_bucketOf 5 (some .int) 3 := ⟨in7 (List.mem_of_getElem? (i := 70) rfl) rfl, in1 (List.mem_of_getElem? (i := 12) rfl) rfl, in7 (List.mem_of_getElem? (i := 69) rfl) rfl, inP (List.mem_of_getElem? (i := 70) rfl) rfl, by decide +kernel, by decide +kernel⟩
theorem mv_X11_drifts : MV yX11_drifts cX11_drifts 7 none 4 := ⟨in7 (List.mem_of_getElem? (i := 66) rfl) rfl, in1 (List.mem_of_getElem? (i := 12) rfl) rfl, in7 (List.mem_of_getElem? (i := 65) rfl) rfl, inP (List.mem_of_getElem? (i := 69) rfl) rfl, by decide +kernel, by decide +kernel⟩
theorem mv_X11_change : MV yX11_change cX11_change 6 none 4 := ⟨in7 (List.mem_of_getElem? (i := 62) rfl) rfl, in1 (List.mem_of_getElem? (i := 12) rfl) rfl, in7 (List.mem_of_getElem? (i := 61) rfl) rfl, inP (List.mem_of_getElem? (i := 68) rfl) rfl, by decide +kernel, by decide +kernel⟩
theorem mv_X11_areThere : MV yX11_areThere cX11_areThere 4 (some .boolean) 3 := ⟨in7 (List.mem_of_getElem? (i := 49) rfl) rfl, in1 (List.mem_of_getElem? (i := 12) rfl) rfl, in7 (List.mem_of_getElem? (i := 48) rfl) rfl, inP (List.mem_of_getElem? (i := 65) rfl) rfl, by decide +kernel, by decide +kernel⟩
theorem mv_X11_whyAdd : MV yX11_whyAdd cX11_whyAdd 5 (some .int) 4 := ⟨in7 (List.mem_of_getElem? (i := 45) rfl) rfl, in1 (List.mem_of_getElem? (i := 12) rfl) rfl, in7 (List.mem_of_getElem? (i := 44) rfl) rfl, inP (List.mem_of_getElem? (i := 64) rfl) rfl, by decide +kernel, by decide +kernel⟩
theorem mv_X11_whyDrop : MV yX11_whyDrop cX11_whyDrop 5 (some .int) 4 := ⟨in7 (List.mem_of_getElem? (i := 78) rfl) rfl, in1 (List.mem_of_getElem? (i := 12) rfl) rfl, in7 (List.mem_of_getElem? (i := 77) rfl) rfl, inP (List.mem_of_getElem? (i := 71) rfl) rfl, by decide +kernel, by decide +kernel⟩
theorem mv_X11_whyBuild : MV yX11_whyBuild cX11_whyBuild 3 (some .int) 2 := ⟨in7 (List.mem_of_getElem? (i := 90) rfl) rfl, in1 (List.mem_of_getElem? (i := 12) rfl) rfl, in7 (List.mem_of_getElem? (i := 89) rfl) rfl, inP (List.mem_of_getElem? (i := 72) rfl) rfl, by decide +kernel, by decide +kernel⟩
theorem mv_X11_add : MV yX11_add cX11_add 5 (some .int) 4 := ⟨in7 (List.mem_of_getElem? (i := 41) rfl) rfl, in1 (List.mem_of_getElem? (i := 12) rfl) rfl, in7 (List.mem_of_getElem? (i := 39) rfl) rfl, in7 (List.mem_of_getElem? (i := 40) rfl) rfl, by decide +kernel, by decide +kernel⟩
theorem mv_X11_drop : MV yX11_drop cX11_drop 5 (some .int) 4 := ⟨in7 (List.mem_of_getElem? (i := 74) rfl) rfl, in1 (List.mem_of_getElem? (i := 12) rfl) rfl, in7 (List.mem_of_getElem? (i := 72) rfl) rfl, in7 (List.mem_of_getElem? (i := 73) rfl) rfl, by decide +kernel, by decide +kernel⟩
theorem mv_X11_move : MV yX11_move cX11_move 7 (some .int) 5 := ⟨in7 (List.mem_of_getElem? (i := 82) rfl) rfl, in1 (List.mem_of_getElem? (i := 12) rfl) rfl, in7 (List.mem_of_getElem? (i := 80) rfl) rfl, in7 (List.mem_of_getElem? (i := 81) rfl) rfl, by decide +kernel, by decide +kernel⟩
theorem mv_X11_build : MV yX11_build cX11_build 3 (some .int) 2 := ⟨in7 (List.mem_of_getElem? (i := 86) rfl) rfl, in1 (List.mem_of_getElem? (i := 12) rfl) rfl, in7 (List.mem_of_getElem? (i := 84) rfl) rfl, in7 (List.mem_of_getElem? (i := 85) rfl) rfl, by decide +kernel, by decide +kernel⟩
theorem mv_X11_budget : MV yX11_budget cX11_budget 3 (some .int) 1 := ⟨in7 (List.mem_of_getElem? (i := 94) rfl) rfl, in1 (List.mem_of_getElem? (i := 12) rfl) rfl, in7 (List.mem_of_getElem? (i := 92) rfl) rfl, in7 (List.mem_of_getElem? (i := 93) rfl) rfl, by decide +kernel, by decide +kernel⟩
theorem mv_X11_draw : MV yX11_draw cX11_draw 2 (some .int) 1 := ⟨in7 (List.mem_of_getElem? (i := 108) rfl) rfl, in1 (List.mem_of_getElem? (i := 12) rfl) rfl, in7 (List.mem_of_getElem? (i := 107) rfl) rfl, inP (List.mem_of_getElem? (i := 74) rfl) rfl, by decide +kernel, by decide +kernel⟩
theorem mv_X11_drawValue : MV yX11_drawValue cX11_drawValue 3 (some .int) 1 := ⟨in7 (List.mem_of_getElem? (i := 115) rfl) rfl, in1 (List.mem_of_getElem? (i := 12) rfl) rfl, in7 (List.mem_of_getElem? (i := 114) rfl) rfl, inP (List.mem_of_getElem? (i := 75) rfl) rfl, by decide +kernel, by decide +kernel⟩
theorem mv_X11_drawYear : MV yX11_drawYear cX11_drawYear 6 none 0 := ⟨in7 (List.mem_of_getElem? (i := 104) rfl) rfl, in1 (List.mem_of_getElem? (i := 12) rfl) rfl, in7 (List.mem_of_getElem? (i := 103) rfl) rfl, inP (List.mem_of_getElem? (i := 73) rfl) rfl, by decide +kernel, by decide +kernel⟩
theorem mv_X11_years : MV yX11_years cX11_years 5 (some .int) 2 := ⟨in7 (List.mem_of_getElem? (i := 99) rfl) rfl, in1 (List.mem_of_getElem? (i := 12) rfl) rfl, in7 (List.mem_of_getElem? (i := 97) rfl) rfl, in7 (List.mem_of_getElem? (i := 98) rfl) rfl, by decide +kernel, by decide +kernel⟩
theorem mv_X11_status : MV yX11_status cX11_status 2 (some .int) 1 := ⟨in7 (List.mem_of_getElem? (i := 125) rfl) rfl, in1 (List.mem_of_getElem? (i := 12) rfl) rfl, in7 (List.mem_of_getElem? (i := 123) rfl) rfl, in7 (List.mem_of_getElem? (i := 124) rfl) rfl, by decide +kernel, by decide +kernel⟩
theorem mv_X11_undo : MV yX11_undo cX11_undo 2 (some .int) 0 := ⟨in7 (List.mem_of_getElem? (i := 130) rfl) rfl, in1 (List.mem_of_getElem? (i := 12) rfl) rfl, in7 (List.mem_of_getElem? (i := 128) rfl) rfl, in7 (List.mem_of_getElem? (i := 129) rfl) rfl, by decide +kernel, by decide +kernel⟩
theorem mv_X11_log : MV yX11_log cX11_log 3 (some .int) 2 := ⟨in7 (List.mem_of_getElem? (i := 134) rfl) rfl, in1 (List.mem_of_getElem? (i := 12) rfl) rfl, in7 (List.mem_of_getElem? (i := 132) rfl) rfl, in7 (List.mem_of_getElem? (i := 133) rfl) rfl, by decide +kernel, by decide +kernel⟩
theorem mv_X11_begin : MV yX11_begin cX11_begin 1 none 0 := ⟨in7 (List.mem_of_getElem? (i := 174) rfl) rfl, in1 (List.mem_of_getElem? (i := 12) rfl) rfl, in7 (List.mem_of_getElem? (i := 173) rfl) rfl, inP (List.mem_of_getElem? (i := 84) rfl) rfl, by decide +kernel, by decide +kernel⟩
theorem mv_X11_take : MV yX11_take cX11_take 2 none 1 := ⟨in7 (List.mem_of_getElem? (i := 178) rfl) rfl, in1 (List.mem_of_getElem? (i := 12) rfl) rfl, in7 (List.mem_of_getElem? (i := 177) rfl) rfl, inP (List.mem_of_getElem? (i := 85) rfl) rfl, by decide +kernel, by decide +kernel⟩
theorem mv_X11_isOver : MV yX11_isOver cX11_isOver 1 (some .boolean) 0 := ⟨in7 (List.mem_of_getElem? (i := 186) rfl) rfl, in1 (List.mem_of_getElem? (i := 12) rfl) rfl, in7 (List.mem_of_getElem? (i := 185) rfl) rfl, inP (List.mem_of_getElem? (i := 87) rfl) rfl, by decide +kernel, by decide +kernel⟩
theorem mv_X11_finish : MV yX11_finish cX11_finish 5 (some .long) 1 := ⟨in7 (List.mem_of_getElem? (i := 198) rfl) rfl, in1 (List.mem_of_getElem? (i := 12) rfl) rfl, in7 (List.mem_of_getElem? (i := 197) rfl) rfl, inP (List.mem_of_getElem? (i := 90) rfl) rfl, by decide +kernel, by decide +kernel⟩
theorem mv_X11_trace : MV yX11_trace cX11_trace 2 (some .int) 1 := ⟨in7 (List.mem_of_getElem? (i := 138) rfl) rfl, in1 (List.mem_of_getElem? (i := 12) rfl) rfl, in7 (List.mem_of_getElem? (i := 136) rfl) rfl, in7 (List.mem_of_getElem? (i := 137) rfl) rfl, by decide +kernel, by decide +kernel⟩
theorem mv_X11_unitAt : MV yX11_unitAt cX11_unitAt 4 (some .int) 3 := ⟨in7 (List.mem_of_getElem? (i := 158) rfl) rfl, in1 (List.mem_of_getElem? (i := 12) rfl) rfl, in7 (List.mem_of_getElem? (i := 157) rfl) rfl, inP (List.mem_of_getElem? (i := 80) rfl) rfl, by decide +kernel, by decide +kernel⟩
theorem mv_X11_isUnitOf : MV yX11_isUnitOf cX11_isUnitOf 5 (some .boolean) 3 := ⟨in7 (List.mem_of_getElem? (i := 170) rfl) rfl, in1 (List.mem_of_getElem? (i := 12) rfl) rfl, in7 (List.mem_of_getElem? (i := 169) rfl) rfl, inP (List.mem_of_getElem? (i := 83) rfl) rfl, by decide +kernel, by decide +kernel⟩
theorem mv_X11_terms : MV yX11_terms cX11_terms 2 (some .int) 1 := ⟨in7 (List.mem_of_getElem? (i := 154) rfl) rfl, in1 (List.mem_of_getElem? (i := 12) rfl) rfl, in7 (List.mem_of_getElem? (i := 153) rfl) rfl, inP (List.mem_of_getElem? (i := 79) rfl) rfl, by decide +kernel, by decide +kernel⟩
theorem mv_X11_isTermOf : MV yX11_isTermOf cX11_isTermOf 7 (some .boolean) 4 := ⟨in7 (List.mem_of_getElem? (i := 194) rfl) rfl, in1 (List.mem_of_getElem? (i := 12) rfl) rfl, in7 (List.mem_of_getElem? (i := 193) rfl) rfl, inP (List.mem_of_getElem? (i := 89) rfl) rfl, by decide +kernel, by decide +kernel⟩
theorem mv_X11_holds : MV yX11_holds cX11_holds 6 (some .boolean) 3 := ⟨in7 (List.mem_of_getElem? (i := 190) rfl) rfl, in1 (List.mem_of_getElem? (i := 12) rfl) rfl, in7 (List.mem_of_getElem? (i := 189) rfl) rfl, inP (List.mem_of_getElem? (i := 88) rfl) rfl, by decide +kernel, by decide +kernel⟩
theorem mv_X11_truth : MV yX11_truth cX11_truth 8 (some .int) 3 := ⟨in7 (List.mem_of_getElem? (i := 182) rfl) rfl, in1 (List.mem_of_getElem? (i := 12) rfl) rfl, in7 (List.mem_of_getElem? (i := 181) rfl) rfl, inP (List.mem_of_getElem? (i := 86) rfl) rfl, by decide +kernel, by decide +kernel⟩
theorem mv_X11_unitBy : MV yX11_unitBy cX11_unitBy 13 (some .int) 4 := ⟨in7 (List.mem_of_getElem? (i := 166) rfl) rfl, in1 (List.mem_of_getElem? (i := 12) rfl) rfl, in7 (List.mem_of_getElem? (i := 165) rfl) rfl, inP (List.mem_of_getElem? (i := 82) rfl) rfl, by decide +kernel, by decide +kernel⟩
theorem mv_X11_termBy : MV yX11_termBy cX11_termBy 10 (some .int) 4 := ⟨in7 (List.mem_of_getElem? (i := 162) rfl) rfl, in1 (List.mem_of_getElem? (i := 12) rfl) rfl, in7 (List.mem_of_getElem? (i := 161) rfl) rfl, inP (List.mem_of_getElem? (i := 81) rfl) rfl, by decide +kernel, by decide +kernel⟩
theorem mv_X11_whereBy : MV yX11_whereBy cX11_whereBy 8 (some .int) 3 := ⟨in7 (List.mem_of_getElem? (i := 150) rfl) rfl, in1 (List.mem_of_getElem? (i := 12) rfl) rfl, in7 (List.mem_of_getElem? (i := 149) rfl) rfl, inP (List.mem_of_getElem? (i := 78) rfl) rfl, by decide +kernel, by decide +kernel⟩
theorem mv_X11_isWhere : MV yX11_isWhere cX11_isWhere 2 (some .boolean) 1 := ⟨in7 (List.mem_of_getElem? (i := 146) rfl) rfl, in1 (List.mem_of_getElem? (i := 12) rfl) rfl, in7 (List.mem_of_getElem? (i := 145) rfl) rfl, inP (List.mem_of_getElem? (i := 77) rfl) rfl, by decide +kernel, by decide +kernel⟩
theorem mv_X11_where : MV yX11_where cX11_where 4 (some .int) 3 := ⟨in7 (List.mem_of_getElem? (i := 142) rfl) rfl, in1 (List.mem_of_getElem? (i := 12) rfl) rfl, in7 (List.mem_of_getElem? (i := 140) rfl) rfl, in7 (List.mem_of_getElem? (i := 141) rfl) rfl, by decide +kernel, by decide +kernel⟩
theorem mv_X11_countIn : MV yX11_countIn cX11_countIn 4 (some .int) 3 := ⟨in7 (List.mem_of_getElem? (i := 214) rfl) rfl, in1 (List.mem_of_getElem? (i := 12) rfl) rfl, in7 (List.mem_of_getElem? (i := 213) rfl) rfl, inP (List.mem_of_getElem? (i := 93) rfl) rfl, by decide +kernel, by decide +kernel⟩
theorem mv_X11_joinTruth : MV yX11_joinTruth cX11_joinTruth 9 (some .long) 4 := ⟨in7 (List.mem_of_getElem? (i := 222) rfl) rfl, in1 (List.mem_of_getElem? (i := 12) rfl) rfl, in7 (List.mem_of_getElem? (i := 221) rfl) rfl, inP (List.mem_of_getElem? (i := 95) rfl) rfl, by decide +kernel, by decide +kernel⟩
theorem mv_X11_joinBy : MV yX11_joinBy cX11_joinBy 22 (some .long) 5 := ⟨in7 (List.mem_of_getElem? (i := 218) rfl) rfl, in1 (List.mem_of_getElem? (i := 12) rfl) rfl, in7 (List.mem_of_getElem? (i := 217) rfl) rfl, inP (List.mem_of_getElem? (i := 94) rfl) rfl, by decide +kernel, by decide +kernel⟩
theorem mv_X11_sortCounts : MV yX11_sortCounts cX11_sortCounts 7 none 3 := ⟨in7 (List.mem_of_getElem? (i := 210) rfl) rfl, in1 (List.mem_of_getElem? (i := 12) rfl) rfl, in7 (List.mem_of_getElem? (i := 209) rfl) rfl, inP (List.mem_of_getElem? (i := 92) rfl) rfl, by decide +kernel, by decide +kernel⟩
theorem mv_X11_degrees : MV yX11_degrees cX11_degrees 8 (some .long) 4 := ⟨in7 (List.mem_of_getElem? (i := 206) rfl) rfl, in1 (List.mem_of_getElem? (i := 12) rfl) rfl, in7 (List.mem_of_getElem? (i := 205) rfl) rfl, inP (List.mem_of_getElem? (i := 91) rfl) rfl, by decide +kernel, by decide +kernel⟩
theorem mv_X11_join : MV yX11_join cX11_join 6 (some .long) 5 := ⟨in7 (List.mem_of_getElem? (i := 202) rfl) rfl, in1 (List.mem_of_getElem? (i := 12) rfl) rfl, in7 (List.mem_of_getElem? (i := 200) rfl) rfl, in7 (List.mem_of_getElem? (i := 201) rfl) rfl, by decide +kernel, by decide +kernel⟩
theorem mv_X11_chainTruth : MV yX11_chainTruth cX11_chainTruth 6 (some .long) 0 := ⟨in7 (List.mem_of_getElem? (i := 234) rfl) rfl, in1 (List.mem_of_getElem? (i := 12) rfl) rfl, in7 (List.mem_of_getElem? (i := 233) rfl) rfl, inP (List.mem_of_getElem? (i := 97) rfl) rfl, by decide +kernel, by decide +kernel⟩
theorem mv_X11_greatestOf : MV yX11_greatestOf cX11_greatestOf 5 (some .long) 2 := ⟨in7 (List.mem_of_getElem? (i := 230) rfl) rfl, in1 (List.mem_of_getElem? (i := 12) rfl) rfl, in7 (List.mem_of_getElem? (i := 229) rfl) rfl, inP (List.mem_of_getElem? (i := 96) rfl) rfl, by decide +kernel, by decide +kernel⟩
theorem mv_X11_chain : MV yX11_chain cX11_chain 2 (some .long) 1 := ⟨in7 (List.mem_of_getElem? (i := 226) rfl) rfl, in1 (List.mem_of_getElem? (i := 12) rfl) rfl, in7 (List.mem_of_getElem? (i := 224) rfl) rfl, in7 (List.mem_of_getElem? (i := 225) rfl) rfl, by decide +kernel, by decide +kernel⟩
theorem mv_X11_gapIfBuilt : MV yX11_gapIfBuilt cX11_gapIfBuilt 6 (some .int) 3 := ⟨in8 (List.mem_of_getElem? (i := 2) rfl) rfl, in1 (List.mem_of_getElem? (i := 12) rfl) rfl, in8 (List.mem_of_getElem? (i := 1) rfl) rfl, inP (List.mem_of_getElem? (i := 98) rfl) rfl, by decide +kernel, by decide +kernel⟩
theorem mv_X11_narrow : MV yX11_narrow cX11_narrow 9 (some .int) 3 := ⟨in7 (List.mem_of_getElem? (i := 238) rfl) rfl, in1 (List.mem_of_getElem? (i := 12) rfl) rfl, in7 (List.mem_of_getElem? (i := 236) rfl) rfl, in7 (List.mem_of_getElem? (i := 237) rfl) rfl, by decide +kernel, by decide +kernel⟩
theorem mv_X11_odds : MV yX11_odds cX11_odds 15 (some .long) 4 := ⟨in8 (List.mem_of_getElem? (i := 6) rfl) rfl, in1 (List.mem_of_getElem? (i := 12) rfl) rfl, in8 (List.mem_of_getElem? (i := 4) rfl) rfl, in8 (List.mem_of_getElem? (i := 5) rfl) rfl, by decide +kernel, by decide +kernel⟩
theorem mv_X11_unit : MV yX11_unit cX11_unit 4 (some .int) 3 := ⟨in8 (List.mem_of_getElem? (i := 10) rfl) rfl, in1 (List.mem_of_getElem? (i := 12) rfl) rfl, in8 (List.mem_of_getElem? (i := 8) rfl) rfl, in8 (List.mem_of_getElem? (i := 9) rfl) rfl, by decide +kernel, by decide +kernel⟩
theorem mv_X11_shares : MV yX11_shares cX11_shares 3 (some .int) 2 := ⟨in8 (List.mem_of_getElem? (i := 14) rfl) rfl, in1 (List.mem_of_getElem? (i := 12) rfl) rfl, in8 (List.mem_of_getElem? (i := 12) rfl) rfl, in8 (List.mem_of_getElem? (i := 13) rfl) rfl, by decide +kernel, by decide +kernel⟩
theorem mv_X11_longest : MV yX11_longest cX11_longest 3 (some .int) 0 := ⟨in8 (List.mem_of_getElem? (i := 23) rfl) rfl, in1 (List.mem_of_getElem? (i := 12) rfl) rfl, in8 (List.mem_of_getElem? (i := 22) rfl) rfl, inP (List.mem_of_getElem? (i := 99) rfl) rfl, by decide +kernel, by decide +kernel⟩
theorem mv_X11_mostDrifted : MV yX11_mostDrifted cX11_mostDrifted 3 (some .int) 0 := ⟨in8 (List.mem_of_getElem? (i := 27) rfl) rfl, in1 (List.mem_of_getElem? (i := 12) rfl) rfl, in8 (List.mem_of_getElem? (i := 26) rfl) rfl, inP (List.mem_of_getElem? (i := 100) rfl) rfl, by decide +kernel, by decide +kernel⟩
theorem mv_X11_greatestTotal : MV yX11_greatestTotal cX11_greatestTotal 4 (some .int) 0 := ⟨in8 (List.mem_of_getElem? (i := 31) rfl) rfl, in1 (List.mem_of_getElem? (i := 12) rfl) rfl, in8 (List.mem_of_getElem? (i := 30) rfl) rfl, inP (List.mem_of_getElem? (i := 101) rfl) rfl, by decide +kernel, by decide +kernel⟩
theorem mv_X11_mostAlike : MV yX11_mostAlike cX11_mostAlike 4 (some .int) 0 := ⟨in8 (List.mem_of_getElem? (i := 35) rfl) rfl, in1 (List.mem_of_getElem? (i := 12) rfl) rfl, in8 (List.mem_of_getElem? (i := 34) rfl) rfl, inP (List.mem_of_getElem? (i := 102) rfl) rfl, by decide +kernel, by decide +kernel⟩
theorem mv_X11_commonest : MV yX11_commonest cX11_commonest 6 (some .int) 0 := ⟨in8 (List.mem_of_getElem? (i := 39) rfl) rfl, in1 (List.mem_of_getElem? (i := 12) rfl) rfl, in8 (List.mem_of_getElem? (i := 38) rfl) rfl, inP (List.mem_of_getElem? (i := 103) rfl) rfl, by decide +kernel, by decide +kernel⟩
theorem mv_X11_most : MV yX11_most cX11_most 2 (some .int) 1 := ⟨in8 (List.mem_of_getElem? (i := 18) rfl) rfl, in1 (List.mem_of_getElem? (i := 12) rfl) rfl, in8 (List.mem_of_getElem? (i := 16) rfl) rfl, in8 (List.mem_of_getElem? (i := 17) rfl) rfl, by decide +kernel, by decide +kernel⟩
theorem mv_X11_image : MV yX11_image cX11_image 2 (some .int) 0 := ⟨in8 (List.mem_of_getElem? (i := 43) rfl) rfl, in1 (List.mem_of_getElem? (i := 12) rfl) rfl, in8 (List.mem_of_getElem? (i := 41) rfl) rfl, in8 (List.mem_of_getElem? (i := 42) rfl) rfl, by decide +kernel, by decide +kernel⟩
theorem mv_X11_back : MV yX11_back cX11_back 2 (some .int) 0 := ⟨in8 (List.mem_of_getElem? (i := 47) rfl) rfl, in1 (List.mem_of_getElem? (i := 12) rfl) rfl, in8 (List.mem_of_getElem? (i := 45) rfl) rfl, in8 (List.mem_of_getElem? (i := 46) rfl) rfl, by decide +kernel, by decide +kernel⟩
theorem mv_X11_count : MV yX11_count cX11_count 2 (some .int) 1 := ⟨in8 (List.mem_of_getElem? (i := 51) rfl) rfl, in1 (List.mem_of_getElem? (i := 12) rfl) rfl, in8 (List.mem_of_getElem? (i := 49) rfl) rfl, in8 (List.mem_of_getElem? (i := 50) rfl) rfl, by decide +kernel, by decide +kernel⟩
theorem mv_J11_isValidCodePoint_9a6ad : MS yJ11_isValidCodePoint_9a6ad cJ11_isValidCodePoint_9a6ad 2 (some .boolean) 1 := ⟨in3 (List.mem_of_getElem? (i := 54) rfl) rfl, in1 (List.mem_of_getElem? (i := 19) rfl) rfl, in3 (List.mem_of_getElem? (i := 53) rfl) rfl, by decide +kernel, by decide +kernel⟩
theorem mv_J11_highSurrogate_5068e : MS yJ11_highSurrogate_5068e cJ11_highSurrogate_5068e 1 (some .char) 1 := ⟨in3 (List.mem_of_getElem? (i := 57) rfl) rfl, in1 (List.mem_of_getElem? (i := 19) rfl) rfl, in3 (List.mem_of_getElem? (i := 56) rfl) rfl, by decide +kernel, by decide +kernel⟩
theorem mv_J11_lowSurrogate_5068e : MS yJ11_lowSurrogate_5068e cJ11_lowSurrogate_5068e 1 (some .char) 1 := ⟨in3 (List.mem_of_getElem? (i := 61) rfl) rfl, in1 (List.mem_of_getElem? (i := 19) rfl) rfl, in3 (List.mem_of_getElem? (i := 60) rfl) rfl, by decide +kernel, by decide +kernel⟩
theorem mv_J9_floorMod_7cf53 : MS yJ9_floorMod_7cf53 cJ9_floorMod_7cf53 3 (some .int) 2 := ⟨in4 (List.mem_of_getElem? (i := 59) rfl) rfl, in1 (List.mem_of_getElem? (i := 18) rfl) rfl, in4 (List.mem_of_getElem? (i := 58) rfl) rfl, by decide +kernel, by decide +kernel⟩
theorem mv_J9_abs_0f7a4 : MS yJ9_abs_0f7a4 cJ9_abs_0f7a4 1 (some .int) 1 := ⟨in4 (List.mem_of_getElem? (i := 50) rfl) rfl, in1 (List.mem_of_getElem? (i := 18) rfl) rfl, in4 (List.mem_of_getElem? (i := 49) rfl) rfl, by decide +kernel, by decide +kernel⟩
theorem mv_J9_max_7cf53 : MS yJ9_max_7cf53 cJ9_max_7cf53 2 (some .int) 2 := ⟨in3 (List.mem_of_getElem? (i := 21) rfl) rfl, in1 (List.mem_of_getElem? (i := 18) rfl) rfl, in3 (List.mem_of_getElem? (i := 20) rfl) rfl, by decide +kernel, by decide +kernel⟩
theorem mv_J9_min_7cf53 : MS yJ9_min_7cf53 cJ9_min_7cf53 2 (some .int) 2 := ⟨in3 (List.mem_of_getElem? (i := 24) rfl) rfl, in1 (List.mem_of_getElem? (i := 18) rfl) rfl, in3 (List.mem_of_getElem? (i := 23) rfl) rfl, by decide +kernel, by decide +kernel⟩
theorem mv_J9_min_f86c9 : MS yJ9_min_f86c9 cJ9_min_f86c9 4 (some .long) 2 := ⟨in4 (List.mem_of_getElem? (i := 235) rfl) rfl, in1 (List.mem_of_getElem? (i := 18) rfl) rfl, in4 (List.mem_of_getElem? (i := 234) rfl) rfl, by decide +kernel, by decide +kernel⟩
theorem mv_J0_length_8abf5 : MV yJ0_length_8abf5 cJ0_length_8abf5 1 (some .int) 0 := ⟨in3 (List.mem_of_getElem? (i := 8) rfl) rfl, in1 (List.mem_of_getElem? (i := 14) rfl) rfl, in3 (List.mem_of_getElem? (i := 6) rfl) rfl, in3 (List.mem_of_getElem? (i := 7) rfl) rfl, by decide +kernel, by decide +kernel⟩
theorem mv_J0_charAt_5068e : MV yJ0_charAt_5068e cJ0_charAt_5068e 2 (some .char) 1 := ⟨in2 (List.mem_of_getElem? (i := 163) rfl) rfl, in1 (List.mem_of_getElem? (i := 14) rfl) rfl, in2 (List.mem_of_getElem? (i := 161) rfl) rfl, in2 (List.mem_of_getElem? (i := 162) rfl) rfl, by decide +kernel, by decide +kernel⟩
theorem mv_J0_indexOf_0f7a4 : MV yJ0_indexOf_0f7a4 cJ0_indexOf_0f7a4 2 (some .int) 1 := ⟨in3 (List.mem_of_getElem? (i := 0) rfl) rfl, in1 (List.mem_of_getElem? (i := 14) rfl) rfl, in2 (List.mem_of_getElem? (i := 238) rfl) rfl, in2 (List.mem_of_getElem? (i := 239) rfl) rfl, by decide +kernel, by decide +kernel⟩
theorem mv_J0_indexOf_7cf53 : MV yJ0_indexOf_7cf53 cJ0_indexOf_7cf53 3 (some .int) 2 := ⟨in3 (List.mem_of_getElem? (i := 4) rfl) rfl, in1 (List.mem_of_getElem? (i := 14) rfl) rfl, in3 (List.mem_of_getElem? (i := 2) rfl) rfl, in3 (List.mem_of_getElem? (i := 3) rfl) rfl, by decide +kernel, by decide +kernel⟩
theorem mv_J0_coder_7d493 : MV yJ0_coder_7d493 cJ0_coder_7d493 1 (some .byte) 0 := ⟨in3 (List.mem_of_getElem? (i := 12) rfl) rfl, in1 (List.mem_of_getElem? (i := 14) rfl) rfl, in3 (List.mem_of_getElem? (i := 10) rfl) rfl, in3 (List.mem_of_getElem? (i := 11) rfl) rfl, by decide +kernel, by decide +kernel⟩
theorem mv_J0_isLatin1_aae02 : MV yJ0_isLatin1_aae02 cJ0_isLatin1_aae02 1 (some .boolean) 0 := ⟨in2 (List.mem_of_getElem? (i := 167) rfl) rfl, in1 (List.mem_of_getElem? (i := 14) rfl) rfl, in2 (List.mem_of_getElem? (i := 165) rfl) rfl, in2 (List.mem_of_getElem? (i := 166) rfl) rfl, by decide +kernel, by decide +kernel⟩
theorem mv_J0_checkIndex_df160 : MS yJ0_checkIndex_df160 cJ0_checkIndex_df160 2 none 2 := ⟨in2 (List.mem_of_getElem? (i := 175) rfl) rfl, in1 (List.mem_of_getElem? (i := 14) rfl) rfl, in2 (List.mem_of_getElem? (i := 174) rfl) rfl, by decide +kernel, by decide +kernel⟩
theorem mv_J0_checkBoundsBeginEnd_23922 : MS yJ0_checkBoundsBeginEnd_23922 cJ0_checkBoundsBeginEnd_23922 3 none 3 := ⟨in3 (List.mem_of_getElem? (i := 42) rfl) rfl, in1 (List.mem_of_getElem? (i := 14) rfl) rfl, in3 (List.mem_of_getElem? (i := 41) rfl) rfl, by decide +kernel, by decide +kernel⟩
theorem mv_J1_charAt_3b067 : MS yJ1_charAt_3b067 cJ1_charAt_3b067 2 (some .char) 2 := ⟨in2 (List.mem_of_getElem? (i := 172) rfl) rfl, in1 (List.mem_of_getElem? (i := 15) rfl) rfl, in2 (List.mem_of_getElem? (i := 171) rfl) rfl, by decide +kernel, by decide +kernel⟩
theorem mv_J1_canEncode_9a6ad : MS yJ1_canEncode_9a6ad cJ1_canEncode_9a6ad 1 (some .boolean) 1 := ⟨in3 (List.mem_of_getElem? (i := 18) rfl) rfl, in1 (List.mem_of_getElem? (i := 15) rfl) rfl, in3 (List.mem_of_getElem? (i := 17) rfl) rfl, by decide +kernel, by decide +kernel⟩
theorem mv_J1_indexOf_4cfef : MS yJ1_indexOf_4cfef cJ1_indexOf_4cfef 4 (some .int) 4 := ⟨in3 (List.mem_of_getElem? (i := 15) rfl) rfl, in1 (List.mem_of_getElem? (i := 15) rfl) rfl, in3 (List.mem_of_getElem? (i := 14) rfl) rfl, by decide +kernel, by decide +kernel⟩
theorem mv_J1_indexOfChar_4cfef : MS yJ1_indexOfChar_4cfef cJ1_indexOfChar_4cfef 6 (some .int) 4 := ⟨in3 (List.mem_of_getElem? (i := 27) rfl) rfl, in1 (List.mem_of_getElem? (i := 15) rfl) rfl, in3 (List.mem_of_getElem? (i := 26) rfl) rfl, by decide +kernel, by decide +kernel⟩
theorem mv_J2_getChar_3b067 : MS yJ2_getChar_3b067 cJ2_getChar_3b067 2 (some .char) 2 := ⟨in2 (List.mem_of_getElem? (i := 193) rfl) rfl, in1 (List.mem_of_getElem? (i := 17) rfl) rfl, in2 (List.mem_of_getElem? (i := 192) rfl) rfl, by decide +kernel, by decide +kernel⟩
theorem mv_J2_length_9d52b : MS yJ2_length_9d52b cJ2_length_9d52b 1 (some .int) 1 := ⟨in2 (List.mem_of_getElem? (i := 189) rfl) rfl, in1 (List.mem_of_getElem? (i := 17) rfl) rfl, in2 (List.mem_of_getElem? (i := 188) rfl) rfl, by decide +kernel, by decide +kernel⟩
theorem mv_J2_indexOf_4cfef : MS yJ2_indexOf_4cfef cJ2_indexOf_4cfef 4 (some .int) 4 := ⟨in3 (List.mem_of_getElem? (i := 30) rfl) rfl, in1 (List.mem_of_getElem? (i := 17) rfl) rfl, in3 (List.mem_of_getElem? (i := 29) rfl) rfl, by decide +kernel, by decide +kernel⟩
theorem mv_J2_indexOfChar_4cfef : MS yJ2_indexOfChar_4cfef cJ2_indexOfChar_4cfef 4 (some .int) 4 := ⟨in3 (List.mem_of_getElem? (i := 36) rfl) rfl, in1 (List.mem_of_getElem? (i := 17) rfl) rfl, in3 (List.mem_of_getElem? (i := 35) rfl) rfl, by decide +kernel, by decide +kernel⟩
theorem mv_J2_indexOfCharUnsafe_4cfef : MS yJ2_indexOfCharUnsafe_4cfef cJ2_indexOfCharUnsafe_4cfef 5 (some .int) 4 := ⟨in3 (List.mem_of_getElem? (i := 48) rfl) rfl, in1 (List.mem_of_getElem? (i := 17) rfl) rfl, in3 (List.mem_of_getElem? (i := 47) rfl) rfl, by decide +kernel, by decide +kernel⟩
theorem mv_J2_indexOfSupplementary_4cfef : MS yJ2_indexOfSupplementary_4cfef cJ2_indexOfSupplementary_4cfef 7 (some .int) 4 := ⟨in3 (List.mem_of_getElem? (i := 51) rfl) rfl, in1 (List.mem_of_getElem? (i := 17) rfl) rfl, in3 (List.mem_of_getElem? (i := 50) rfl) rfl, by decide +kernel, by decide +kernel⟩
theorem mv_J2_charAt_3b067 : MS yJ2_charAt_3b067 cJ2_charAt_3b067 2 (some .char) 2 := ⟨in2 (List.mem_of_getElem? (i := 183) rfl) rfl, in1 (List.mem_of_getElem? (i := 17) rfl) rfl, in2 (List.mem_of_getElem? (i := 182) rfl) rfl, by decide +kernel, by decide +kernel⟩
theorem mv_J2_checkIndex_2214a : MS yJ2_checkIndex_2214a cJ2_checkIndex_2214a 2 none 2 := ⟨in2 (List.mem_of_getElem? (i := 186) rfl) rfl, in1 (List.mem_of_getElem? (i := 17) rfl) rfl, in2 (List.mem_of_getElem? (i := 185) rfl) rfl, by decide +kernel, by decide +kernel⟩
theorem mv_J2_checkBoundsBeginEnd_d044e : MS yJ2_checkBoundsBeginEnd_d044e cJ2_checkBoundsBeginEnd_d044e 3 none 3 := ⟨in3 (List.mem_of_getElem? (i := 39) rfl) rfl, in1 (List.mem_of_getElem? (i := 17) rfl) rfl, in3 (List.mem_of_getElem? (i := 38) rfl) rfl, by decide +kernel, by decide +kernel⟩
theorem mv_J7_fill_53178 : MS yJ7_fill_53178 cJ7_fill_53178 4 none 2 := ⟨in3 (List.mem_of_getElem? (i := 83) rfl) rfl, in1 (List.mem_of_getElem? (i := 20) rfl) rfl, in3 (List.mem_of_getElem? (i := 82) rfl) rfl, by decide +kernel, by decide +kernel⟩
theorem mv_J3_checkIndex_8e157 : MS yJ3_checkIndex_8e157 cJ3_checkIndex_8e157 3 (some .int) 3 := ⟨in2 (List.mem_of_getElem? (i := 180) rfl) rfl, in1 (List.mem_of_getElem? (i := 16) rfl) rfl, in2 (List.mem_of_getElem? (i := 179) rfl) rfl, by decide +kernel, by decide +kernel⟩
theorem mv_J3_checkFromToIndex_8c36e : MS yJ3_checkFromToIndex_8c36e cJ3_checkFromToIndex_8c36e 4 (some .int) 4 := ⟨in3 (List.mem_of_getElem? (i := 45) rfl) rfl, in1 (List.mem_of_getElem? (i := 16) rfl) rfl, in3 (List.mem_of_getElem? (i := 44) rfl) rfl, by decide +kernel, by decide +kernel⟩
theorem ml_L_15 : Cond.methodLink RL 15 yX10_init ∈ TBL := in1 (List.mem_of_getElem? (i := 27) rfl) rfl
theorem ml_L_19 : Cond.methodLink RL 19 yX10_feed ∈ TBL := in2 (List.mem_of_getElem? (i := 108) rfl) rfl
theorem ml_X10_86 : Cond.methodLink RX10 86 yX8_bytesIn ∈ TBL := in2 (List.mem_of_getElem? (i := 112) rfl) rfl
theorem ml_X10_93 : Cond.methodLink RX10 93 yX8_append ∈ TBL := in2 (List.mem_of_getElem? (i := 115) rfl) rfl
theorem ml_L_24 : Cond.methodLink RL 24 yX10_end ∈ TBL := in2 (List.mem_of_getElem? (i := 119) rfl) rfl
theorem ml_L_29 : Cond.methodLink RL 29 yX10_fault ∈ TBL := in2 (List.mem_of_getElem? (i := 123) rfl) rfl
theorem ml_X10_97 : Cond.methodLink RX10 97 yX1_read ∈ TBL := in2 (List.mem_of_getElem? (i := 127) rfl) rfl
theorem ml_X1_21 : Cond.methodLink RX1 21 yX8_rewind ∈ TBL := in2 (List.mem_of_getElem? (i := 131) rfl) rfl
theorem ml_X1_37 : Cond.methodLink RX1 37 yX1_resetItems ∈ TBL := in2 (List.mem_of_getElem? (i := 135) rfl) rfl
theorem ml_X1_66 : Cond.methodLink RX1 66 arraycopyName ∈ TBL := in2 (List.mem_of_getElem? (i := 141) rfl) rfl
theorem ml_X1_41 : Cond.methodLink RX1 41 yX1_readClause ∈ TBL := in2 (List.mem_of_getElem? (i := 144) rfl) rfl
theorem ml_X1_48 : Cond.methodLink RX1 48 yX8_peek ∈ TBL := in2 (List.mem_of_getElem? (i := 148) rfl) rfl
theorem ml_X1_62 : Cond.methodLink RX1 62 yX1_readItems ∈ TBL := in2 (List.mem_of_getElem? (i := 152) rfl) rfl
theorem ml_X1_76 : Cond.methodLink RX1 76 yX1_itemOf ∈ TBL := in2 (List.mem_of_getElem? (i := 156) rfl) rfl
theorem ml_X1_94 : Cond.methodLink RX1 94 yJ0_charAt_5068e ∈ TBL := in2 (List.mem_of_getElem? (i := 160) rfl) rfl
theorem ml_X1_72 : Cond.methodLink RX1 72 yX8_fail ∈ TBL := in2 (List.mem_of_getElem? (i := 200) rfl) rfl
theorem ml_X1_86 : Cond.methodLink RX1 86 yX8_readNumber ∈ TBL := in2 (List.mem_of_getElem? (i := 208) rfl) rfl
theorem ml_X8_25 : Cond.methodLink RX8 25 yX8_peek ∈ TBL := in2 (List.mem_of_getElem? (i := 212) rfl) rfl
theorem ml_X8_29 : Cond.methodLink RX8 29 yX8_isDigitNext ∈ TBL := in2 (List.mem_of_getElem? (i := 213) rfl) rfl
theorem ml_X1_55 : Cond.methodLink RX1 55 yX1_fits ∈ TBL := in2 (List.mem_of_getElem? (i := 217) rfl) rfl
theorem ml_X1_100 : Cond.methodLink RX1 100 yX1_rowItem ∈ TBL := in2 (List.mem_of_getElem? (i := 221) rfl) rfl
theorem ml_X10_101 : Cond.methodLink RX10 101 yX9_read ∈ TBL := in2 (List.mem_of_getElem? (i := 225) rfl) rfl
theorem ml_X9_24 : Cond.methodLink RX9 24 yX8_rewind ∈ TBL := in2 (List.mem_of_getElem? (i := 229) rfl) rfl
theorem ml_X9_33 : Cond.methodLink RX9 33 yX9_readUnit ∈ TBL := in2 (List.mem_of_getElem? (i := 230) rfl) rfl
theorem ml_X9_40 : Cond.methodLink RX9 40 yX8_peek ∈ TBL := in2 (List.mem_of_getElem? (i := 234) rfl) rfl
theorem ml_X9_47 : Cond.methodLink RX9 47 yX8_fail ∈ TBL := in2 (List.mem_of_getElem? (i := 235) rfl) rfl
theorem ml_X9_53 : Cond.methodLink RX9 53 yJ0_indexOf_0f7a4 ∈ TBL := in2 (List.mem_of_getElem? (i := 237) rfl) rfl
theorem ml_X9_59 : Cond.methodLink RX9 59 yX8_readNumber ∈ TBL := in3 (List.mem_of_getElem? (i := 63) rfl) rfl
theorem ml_L_34 : Cond.methodLink RL 34 yX10_text ∈ TBL := in3 (List.mem_of_getElem? (i := 65) rfl) rfl
theorem ml_X10_102 : Cond.methodLink RX10 102 yX10_tellBook ∈ TBL := in3 (List.mem_of_getElem? (i := 69) rfl) rfl
theorem ml_X10_109 : Cond.methodLink RX10 109 yX0_tell ∈ TBL := in3 (List.mem_of_getElem? (i := 73) rfl) rfl
theorem ml_X0_51 : Cond.methodLink RX0 51 yX7_clear ∈ TBL := in3 (List.mem_of_getElem? (i := 77) rfl) rfl
theorem ml_X7_33 : Cond.methodLink RX7 33 yJ7_fill_53178 ∈ TBL := in3 (List.mem_of_getElem? (i := 81) rfl) rfl
theorem ml_X7_39 : Cond.methodLink RX7 39 yX4_clear ∈ TBL := in3 (List.mem_of_getElem? (i := 84) rfl) rfl
theorem ml_X4_32 : Cond.methodLink RX4 32 yJ7_fill_53178 ∈ TBL := in3 (List.mem_of_getElem? (i := 88) rfl) rfl
theorem ml_X0_58 : Cond.methodLink RX0 58 yX1_rowItem ∈ TBL := in3 (List.mem_of_getElem? (i := 89) rfl) rfl
theorem ml_X0_62 : Cond.methodLink RX0 62 yX7_changeRows ∈ TBL := in3 (List.mem_of_getElem? (i := 90) rfl) rfl
theorem ml_X7_26 : Cond.methodLink RX7 26 yX7_cellOf ∈ TBL := in3 (List.mem_of_getElem? (i := 94) rfl) rfl
theorem ml_X7_53 : Cond.methodLink RX7 53 yX4_changeCount ∈ TBL := in3 (List.mem_of_getElem? (i := 97) rfl) rfl
theorem ml_X0_70 : Cond.methodLink RX0 70 yX4_layAnew ∈ TBL := in3 (List.mem_of_getElem? (i := 101) rfl) rfl
theorem ml_X4_44 : Cond.methodLink RX4 44 Lib.Math.min.name ∈ TBL := in3 (List.mem_of_getElem? (i := 105) rfl) rfl
theorem ml_X4_50 : Cond.methodLink RX4 50 yX5_solve ∈ TBL := in3 (List.mem_of_getElem? (i := 106) rfl) rfl
theorem ml_X5_22 : Cond.methodLink RX5 22 yX5_findErrors ∈ TBL := in3 (List.mem_of_getElem? (i := 110) rfl) rfl
theorem mk_X5_46 : Cond.constantLong RX5 46 (720720 : Int64) ∈ TBL := in3 (List.mem_of_getElem? (i := 114) rfl) rfl
theorem ml_X5_36 : Cond.methodLink RX5 36 yX5_seek ∈ TBL := in3 (List.mem_of_getElem? (i := 115) rfl) rfl
theorem mk_X5_50 : Cond.constantLong RX5 50 (9223372036854775807 : Int64) ∈ TBL := in3 (List.mem_of_getElem? (i := 119) rfl) rfl
theorem ml_X4_56 : Cond.methodLink RX4 56 yX5_borderOf ∈ TBL := in3 (List.mem_of_getElem? (i := 120) rfl) rfl
theorem ml_X4_59 : Cond.methodLink RX4 59 yX4_weigh ∈ TBL := in3 (List.mem_of_getElem? (i := 124) rfl) rfl
theorem ml_X4_26 : Cond.methodLink RX4 26 yX4_firstOf ∈ TBL := in3 (List.mem_of_getElem? (i := 128) rfl) rfl
theorem ml_X4_22 : Cond.methodLink RX4 22 yX4_lastOf ∈ TBL := in3 (List.mem_of_getElem? (i := 132) rfl) rfl
theorem ml_X4_63 : Cond.methodLink RX4 63 Lib.Math.max.name ∈ TBL := in3 (List.mem_of_getElem? (i := 136) rfl) rfl
theorem ml_X10_113 : Cond.methodLink RX10 113 yX6_forget ∈ TBL := in3 (List.mem_of_getElem? (i := 137) rfl) rfl
theorem ml_X10_106 : Cond.methodLink RX10 106 yX10_tellWhere ∈ TBL := in3 (List.mem_of_getElem? (i := 141) rfl) rfl
theorem ml_L_38 : Cond.methodLink RL 38 yX10_rule ∈ TBL := in3 (List.mem_of_getElem? (i := 145) rfl) rfl
theorem ml_X10_119 : Cond.methodLink RX10 119 yX10_hasBook ∈ TBL := in3 (List.mem_of_getElem? (i := 149) rfl) rfl
theorem ml_L_52 : Cond.methodLink RL 52 yX10_rows ∈ TBL := in3 (List.mem_of_getElem? (i := 153) rfl) rfl
theorem ml_X10_162 : Cond.methodLink RX10 162 yX10_hasCell ∈ TBL := in3 (List.mem_of_getElem? (i := 157) rfl) rfl
theorem ml_X10_132 : Cond.methodLink RX10 132 yX10_hasTable ∈ TBL := in3 (List.mem_of_getElem? (i := 161) rfl) rfl
theorem ml_X10_402 : Cond.methodLink RX10 402 yX7_hasCell ∈ TBL := in3 (List.mem_of_getElem? (i := 165) rfl) rfl
theorem ml_X10_166 : Cond.methodLink RX10 166 yX7_alike ∈ TBL := in3 (List.mem_of_getElem? (i := 169) rfl) rfl
theorem ml_L_57 : Cond.methodLink RL 57 yX10_countOf ∈ TBL := in3 (List.mem_of_getElem? (i := 173) rfl) rfl
theorem ml_X10_170 : Cond.methodLink RX10 170 yX10_hasColumn ∈ TBL := in3 (List.mem_of_getElem? (i := 177) rfl) rfl
theorem ml_L_61 : Cond.methodLink RL 61 yX10_bucket ∈ TBL := in3 (List.mem_of_getElem? (i := 181) rfl) rfl
theorem mk_X10_178 : Cond.constant RX10 178 (-1000000 : Int32) ∈ TBL := in3 (List.mem_of_getElem? (i := 185) rfl) rfl
theorem ml_X10_179 : Cond.methodLink RX10 179 yX4_size ∈ TBL := in3 (List.mem_of_getElem? (i := 186) rfl) rfl
theorem ml_X10_182 : Cond.methodLink RX10 182 yX4_firstOf ∈ TBL := in3 (List.mem_of_getElem? (i := 190) rfl) rfl
theorem ml_X10_185 : Cond.methodLink RX10 185 yX4_lastOf ∈ TBL := in3 (List.mem_of_getElem? (i := 191) rfl) rfl
theorem ml_X10_188 : Cond.methodLink RX10 188 yX4_totalOf ∈ TBL := in3 (List.mem_of_getElem? (i := 192) rfl) rfl
theorem ml_X10_191 : Cond.methodLink RX10 191 yX4_greatestOf ∈ TBL := in3 (List.mem_of_getElem? (i := 196) rfl) rfl
theorem ml_L_66 : Cond.methodLink RL 66 yX10_column ∈ TBL := in3 (List.mem_of_getElem? (i := 200) rfl) rfl
theorem ml_X10_194 : Cond.methodLink RX10 194 yX4_drift ∈ TBL := in3 (List.mem_of_getElem? (i := 204) rfl) rfl
theorem ml_X10_196 : Cond.methodLink RX10 196 yX5_worstOf ∈ TBL := in3 (List.mem_of_getElem? (i := 208) rfl) rfl
theorem mk_X5_52 : Cond.constantLong RX5 52 (-1 : Int64) ∈ TBL := in3 (List.mem_of_getElem? (i := 212) rfl) rfl
theorem ml_X5_54 : Cond.methodLink RX5 54 yX4_size ∈ TBL := in3 (List.mem_of_getElem? (i := 213) rfl) rfl
theorem ml_X5_58 : Cond.methodLink RX5 58 yX4_firstOf ∈ TBL := in3 (List.mem_of_getElem? (i := 214) rfl) rfl
theorem ml_X5_62 : Cond.methodLink RX5 62 yX4_lastOf ∈ TBL := in3 (List.mem_of_getElem? (i := 215) rfl) rfl
theorem ml_L_70 : Cond.methodLink RL 70 yX10_error ∈ TBL := in3 (List.mem_of_getElem? (i := 216) rfl) rfl
theorem ml_X10_200 : Cond.methodLink RX10 200 yX10_solve ∈ TBL := in3 (List.mem_of_getElem? (i := 220) rfl) rfl
theorem ml_X10_218 : Cond.methodLink RX10 218 yX5_solve ∈ TBL := in3 (List.mem_of_getElem? (i := 224) rfl) rfl
theorem ml_X10_203 : Cond.methodLink RX10 203 yX5_leastBy ∈ TBL := in3 (List.mem_of_getElem? (i := 225) rfl) rfl
theorem mk_X10_207 : Cond.constantLong RX10 207 (-1 : Int64) ∈ TBL := in3 (List.mem_of_getElem? (i := 229) rfl) rfl
theorem ml_L_75 : Cond.methodLink RL 75 yX10_border ∈ TBL := in3 (List.mem_of_getElem? (i := 230) rfl) rfl
theorem ml_X10_209 : Cond.methodLink RX10 209 yX5_borderOf ∈ TBL := in3 (List.mem_of_getElem? (i := 234) rfl) rfl
theorem ml_L_79 : Cond.methodLink RL 79 yX10_tried ∈ TBL := in3 (List.mem_of_getElem? (i := 235) rfl) rfl
theorem ml_L_85 : Cond.methodLink RL 85 yX10_fewest ∈ TBL := in3 (List.mem_of_getElem? (i := 239) rfl) rfl
theorem ml_L_90 : Cond.methodLink RL 90 yX10_add ∈ TBL := in4 (List.mem_of_getElem? (i := 3) rfl) rfl
theorem ml_X10_221 : Cond.methodLink RX10 221 yX10_whyNoAdd ∈ TBL := in4 (List.mem_of_getElem? (i := 7) rfl) rfl
theorem ml_X10_263 : Cond.methodLink RX10 263 yX10_whyNoRows ∈ TBL := in4 (List.mem_of_getElem? (i := 11) rfl) rfl
theorem ml_X10_225 : Cond.methodLink RX10 225 yX10_refuse ∈ TBL := in4 (List.mem_of_getElem? (i := 15) rfl) rfl
theorem ml_X10_228 : Cond.methodLink RX10 228 yX10_doChange ∈ TBL := in4 (List.mem_of_getElem? (i := 19) rfl) rfl
theorem ml_X10_235 : Cond.methodLink RX10 235 yX6_open ∈ TBL := in4 (List.mem_of_getElem? (i := 23) rfl) rfl
theorem ml_X6_24 : Cond.methodLink RX6 24 Lib.Math.min.name ∈ TBL := in4 (List.mem_of_getElem? (i := 27) rfl) rfl
theorem ml_X6_48 : Cond.methodLink RX6 48 arraycopyName ∈ TBL := in4 (List.mem_of_getElem? (i := 28) rfl) rfl
theorem ml_X10_239 : Cond.methodLink RX10 239 yX6_noteRows ∈ TBL := in4 (List.mem_of_getElem? (i := 29) rfl) rfl
theorem ml_X10_243 : Cond.methodLink RX10 243 yX0_changeRows ∈ TBL := in4 (List.mem_of_getElem? (i := 33) rfl) rfl
theorem ml_X0_83 : Cond.methodLink RX0 83 yX4_follow ∈ TBL := in4 (List.mem_of_getElem? (i := 37) rfl) rfl
theorem ml_X4_66 : Cond.methodLink RX4 66 yX4_bucketOf ∈ TBL := in4 (List.mem_of_getElem? (i := 41) rfl) rfl
theorem ml_X4_78 : Cond.methodLink RX4 78 yX4_size ∈ TBL := in4 (List.mem_of_getElem? (i := 45) rfl) rfl
theorem ml_X4_69 : Cond.methodLink RX4 69 yX4_totalOf ∈ TBL := in4 (List.mem_of_getElem? (i := 46) rfl) rfl
theorem ml_X4_72 : Cond.methodLink RX4 72 yX4_greatestOf ∈ TBL := in4 (List.mem_of_getElem? (i := 47) rfl) rfl
theorem ml_X4_75 : Cond.methodLink RX4 75 Lib.Math.abs.name ∈ TBL := in4 (List.mem_of_getElem? (i := 48) rfl) rfl
theorem ml_X0_87 : Cond.methodLink RX0 87 yX4_drift ∈ TBL := in4 (List.mem_of_getElem? (i := 51) rfl) rfl
theorem ml_X10_266 : Cond.methodLink RX10 266 Lib.Math.abs.name ∈ TBL := in4 (List.mem_of_getElem? (i := 52) rfl) rfl
theorem ml_X10_251 : Cond.methodLink RX10 251 yX3_note ∈ TBL := in4 (List.mem_of_getElem? (i := 53) rfl) rfl
theorem ml_X3_25 : Cond.methodLink RX3 25 yJ9_floorMod_7cf53 ∈ TBL := in4 (List.mem_of_getElem? (i := 57) rfl) rfl
theorem ml_L_94 : Cond.methodLink RL 94 yX10_drop ∈ TBL := in4 (List.mem_of_getElem? (i := 60) rfl) rfl
theorem ml_X10_232 : Cond.methodLink RX10 232 yX10_whyNoDrop ∈ TBL := in4 (List.mem_of_getElem? (i := 64) rfl) rfl
theorem ml_L_98 : Cond.methodLink RL 98 yX10_move ∈ TBL := in4 (List.mem_of_getElem? (i := 68) rfl) rfl
theorem ml_L_102 : Cond.methodLink RL 102 yX10_build ∈ TBL := in4 (List.mem_of_getElem? (i := 72) rfl) rfl
theorem ml_X10_256 : Cond.methodLink RX10 256 yX10_whyNoBuild ∈ TBL := in4 (List.mem_of_getElem? (i := 76) rfl) rfl
theorem ml_X10_259 : Cond.methodLink RX10 259 yX10_doBuild ∈ TBL := in4 (List.mem_of_getElem? (i := 80) rfl) rfl
theorem ml_X10_271 : Cond.methodLink RX10 271 yX4_layAnew ∈ TBL := in4 (List.mem_of_getElem? (i := 84) rfl) rfl
theorem ml_L_106 : Cond.methodLink RL 106 yX10_budget ∈ TBL := in4 (List.mem_of_getElem? (i := 85) rfl) rfl
theorem ml_L_110 : Cond.methodLink RL 110 yX10_years ∈ TBL := in4 (List.mem_of_getElem? (i := 89) rfl) rfl
theorem ml_X10_275 : Cond.methodLink RX10 275 yX10_passYear ∈ TBL := in4 (List.mem_of_getElem? (i := 93) rfl) rfl
theorem ml_X10_281 : Cond.methodLink RX10 281 yX10_draw ∈ TBL := in4 (List.mem_of_getElem? (i := 97) rfl) rfl
theorem mk_X10_287 : Cond.constantLong RX10 287 (6364136223846793005 : Int64) ∈ TBL := in4 (List.mem_of_getElem? (i := 101) rfl) rfl
theorem mk_X10_289 : Cond.constantLong RX10 289 (1442695040888963407 : Int64) ∈ TBL := in4 (List.mem_of_getElem? (i := 102) rfl) rfl
theorem ml_X10_284 : Cond.methodLink RX10 284 yX10_drawOrMissing ∈ TBL := in4 (List.mem_of_getElem? (i := 103) rfl) rfl
theorem ml_X10_278 : Cond.methodLink RX10 278 yX0_allRows ∈ TBL := in4 (List.mem_of_getElem? (i := 107) rfl) rfl
theorem ml_L_115 : Cond.methodLink RL 115 yX10_status ∈ TBL := in4 (List.mem_of_getElem? (i := 111) rfl) rfl
theorem ml_L_119 : Cond.methodLink RL 119 yX10_undo ∈ TBL := in4 (List.mem_of_getElem? (i := 115) rfl) rfl
theorem ml_X10_293 : Cond.methodLink RX10 293 yX6_undoLatest ∈ TBL := in4 (List.mem_of_getElem? (i := 119) rfl) rfl
theorem ml_X6_58 : Cond.methodLink RX6 58 yX3_eraseLatest ∈ TBL := in4 (List.mem_of_getElem? (i := 123) rfl) rfl
theorem ml_X6_63 : Cond.methodLink RX6 63 yX6_restore ∈ TBL := in4 (List.mem_of_getElem? (i := 127) rfl) rfl
theorem ml_X6_67 : Cond.methodLink RX6 67 yX7_changeRows ∈ TBL := in4 (List.mem_of_getElem? (i := 131) rfl) rfl
theorem ml_L_123 : Cond.methodLink RL 123 yX10_log ∈ TBL := in4 (List.mem_of_getElem? (i := 132) rfl) rfl
theorem ml_X10_297 : Cond.methodLink RX10 297 yX3_length ∈ TBL := in4 (List.mem_of_getElem? (i := 136) rfl) rfl
theorem ml_X3_19 : Cond.methodLink RX3 19 Lib.Math.min.name ∈ TBL := in4 (List.mem_of_getElem? (i := 140) rfl) rfl
theorem ml_X10_299 : Cond.methodLink RX10 299 yX3_read ∈ TBL := in4 (List.mem_of_getElem? (i := 141) rfl) rfl
theorem ml_L_127 : Cond.methodLink RL 127 yX10_where ∈ TBL := in4 (List.mem_of_getElem? (i := 145) rfl) rfl
theorem ml_X10_301 : Cond.methodLink RX10 301 yX10_hasWhere ∈ TBL := in4 (List.mem_of_getElem? (i := 149) rfl) rfl
theorem ml_X10_304 : Cond.methodLink RX10 304 yX10_beginLook ∈ TBL := in4 (List.mem_of_getElem? (i := 153) rfl) rfl
theorem ml_X10_307 : Cond.methodLink RX10 307 yX10_take ∈ TBL := in4 (List.mem_of_getElem? (i := 157) rfl) rfl
theorem ml_X10_310 : Cond.methodLink RX10 310 yX7_rowsHeldBy ∈ TBL := in4 (List.mem_of_getElem? (i := 161) rfl) rfl
theorem ml_X7_57 : Cond.methodLink RX7 57 yX7_alike ∈ TBL := in4 (List.mem_of_getElem? (i := 165) rfl) rfl
theorem mk_X7_60 : Cond.constantLong RX7 60 (-1 : Int64) ∈ TBL := in4 (List.mem_of_getElem? (i := 166) rfl) rfl
theorem ml_X7_62 : Cond.methodLink RX7 62 yX9_holds ∈ TBL := in4 (List.mem_of_getElem? (i := 167) rfl) rfl
theorem ml_X9_63 : Cond.methodLink RX9 63 yX9_beginsTerm ∈ TBL := in4 (List.mem_of_getElem? (i := 171) rfl) rfl
theorem ml_X9_66 : Cond.methodLink RX9 66 yX9_unitHolds ∈ TBL := in4 (List.mem_of_getElem? (i := 175) rfl) rfl
theorem ml_X10_314 : Cond.methodLink RX10 314 yX10_endLook ∈ TBL := in4 (List.mem_of_getElem? (i := 179) rfl) rfl
theorem ml_X10_353 : Cond.methodLink RX10 353 Lib.Math.min.name ∈ TBL := in4 (List.mem_of_getElem? (i := 183) rfl) rfl
theorem ml_X10_318 : Cond.methodLink RX10 318 yX2_find ∈ TBL := in4 (List.mem_of_getElem? (i := 184) rfl) rfl
theorem ml_X2_32 : Cond.methodLink RX2 32 yX2_findUnit ∈ TBL := in4 (List.mem_of_getElem? (i := 188) rfl) rfl
theorem ml_X2_80 : Cond.methodLink RX2 80 yX4_size ∈ TBL := in4 (List.mem_of_getElem? (i := 192) rfl) rfl
theorem ml_X2_83 : Cond.methodLink RX2 83 yX2_heldIn ∈ TBL := in4 (List.mem_of_getElem? (i := 193) rfl) rfl
theorem ml_X2_91 : Cond.methodLink RX2 91 yX4_firstOf ∈ TBL := in4 (List.mem_of_getElem? (i := 196) rfl) rfl
theorem ml_X2_95 : Cond.methodLink RX2 95 yX4_lastOf ∈ TBL := in4 (List.mem_of_getElem? (i := 197) rfl) rfl
theorem ml_X2_98 : Cond.methodLink RX2 98 yX9_unitHolds ∈ TBL := in4 (List.mem_of_getElem? (i := 198) rfl) rfl
theorem ml_X2_87 : Cond.methodLink RX2 87 yX2_addBucket ∈ TBL := in4 (List.mem_of_getElem? (i := 199) rfl) rfl
theorem ml_X2_102 : Cond.methodLink RX2 102 yX4_widthOf ∈ TBL := in4 (List.mem_of_getElem? (i := 203) rfl) rfl
theorem ml_X2_105 : Cond.methodLink RX2 105 yX4_totalOf ∈ TBL := in4 (List.mem_of_getElem? (i := 207) rfl) rfl
theorem ml_X2_108 : Cond.methodLink RX2 108 yX4_greatestOf ∈ TBL := in4 (List.mem_of_getElem? (i := 208) rfl) rfl
theorem ml_X2_69 : Cond.methodLink RX2 69 Lib.Math.max.name ∈ TBL := in4 (List.mem_of_getElem? (i := 209) rfl) rfl
theorem ml_X2_63 : Cond.methodLink RX2 63 Lib.Math.min.name ∈ TBL := in4 (List.mem_of_getElem? (i := 210) rfl) rfl
theorem ml_X2_36 : Cond.methodLink RX2 36 yX9_beginsTerm ∈ TBL := in4 (List.mem_of_getElem? (i := 211) rfl) rfl
theorem ml_L_131 : Cond.methodLink RL 131 yX10_join ∈ TBL := in4 (List.mem_of_getElem? (i := 212) rfl) rfl
theorem ml_X10_331 : Cond.methodLink RX10 331 yX4_joinTruth ∈ TBL := in4 (List.mem_of_getElem? (i := 216) rfl) rfl
theorem mk_X4_82 : Cond.constantLong RX4 82 (-1 : Int64) ∈ TBL := in4 (List.mem_of_getElem? (i := 220) rfl) rfl
theorem ml_X4_84 : Cond.methodLink RX4 84 yX4_countAt ∈ TBL := in4 (List.mem_of_getElem? (i := 221) rfl) rfl
theorem ml_X10_335 : Cond.methodLink RX10 335 yX4_joinUpper ∈ TBL := in4 (List.mem_of_getElem? (i := 225) rfl) rfl
theorem ml_X4_87 : Cond.methodLink RX4 87 yX4_commonValues ∈ TBL := in4 (List.mem_of_getElem? (i := 229) rfl) rfl
theorem ml_X4_91 : Cond.methodLink RX4 91 Lib.MathLoose.min_long.x ∈ TBL := in4 (List.mem_of_getElem? (i := 233) rfl) rfl
theorem ml_X10_339 : Cond.methodLink RX10 339 yX4_joinByDegrees ∈ TBL := in4 (List.mem_of_getElem? (i := 236) rfl) rfl
theorem ml_X4_97 : Cond.methodLink RX4 97 yX4_richestOutside ∈ TBL := in5 (List.mem_of_getElem? (i := 0) rfl) rfl
theorem ml_X10_342 : Cond.methodLink RX10 342 yX4_joinEstimate ∈ TBL := in5 (List.mem_of_getElem? (i := 4) rfl) rfl
theorem ml_X4_94 : Cond.methodLink RX4 94 yX4_widthOf ∈ TBL := in5 (List.mem_of_getElem? (i := 8) rfl) rfl
theorem ml_L_136 : Cond.methodLink RL 136 yX10_chain ∈ TBL := in5 (List.mem_of_getElem? (i := 9) rfl) rfl
theorem ml_X10_345 : Cond.methodLink RX10 345 yX7_chainUpper ∈ TBL := in5 (List.mem_of_getElem? (i := 13) rfl) rfl
theorem ml_X7_72 : Cond.methodLink RX7 72 yX4_joinUpper ∈ TBL := in5 (List.mem_of_getElem? (i := 17) rfl) rfl
theorem ml_X7_76 : Cond.methodLink RX7 76 yX4_greatestOfAll ∈ TBL := in5 (List.mem_of_getElem? (i := 18) rfl) rfl
theorem ml_X7_80 : Cond.methodLink RX7 80 Lib.MathLoose.min_long.x ∈ TBL := in5 (List.mem_of_getElem? (i := 22) rfl) rfl
theorem ml_X10_349 : Cond.methodLink RX10 349 yX7_chainTruth ∈ TBL := in5 (List.mem_of_getElem? (i := 23) rfl) rfl
theorem ml_X7_68 : Cond.methodLink RX7 68 yX4_countAt ∈ TBL := in5 (List.mem_of_getElem? (i := 27) rfl) rfl
theorem ml_L_141 : Cond.methodLink RL 141 yX10_trace ∈ TBL := in5 (List.mem_of_getElem? (i := 28) rfl) rfl
theorem ml_L_145 : Cond.methodLink RL 145 yX10_narrow ∈ TBL := in5 (List.mem_of_getElem? (i := 32) rfl) rfl
theorem ml_X10_356 : Cond.methodLink RX10 356 yX2_spread ∈ TBL := in5 (List.mem_of_getElem? (i := 36) rfl) rfl
theorem ml_X2_7 : Cond.methodLink RX2 7 yX2_find ∈ TBL := in5 (List.mem_of_getElem? (i := 40) rfl) rfl
theorem ml_X10_360 : Cond.methodLink RX10 360 yX10_asIfBuilt ∈ TBL := in5 (List.mem_of_getElem? (i := 41) rfl) rfl
theorem ml_X10_364 : Cond.methodLink RX10 364 yX4_copyFrom ∈ TBL := in5 (List.mem_of_getElem? (i := 45) rfl) rfl
theorem ml_X4_38 : Cond.methodLink RX4 38 arraycopyName ∈ TBL := in5 (List.mem_of_getElem? (i := 49) rfl) rfl
theorem ml_L_149 : Cond.methodLink RL 149 yX10_odds ∈ TBL := in5 (List.mem_of_getElem? (i := 50) rfl) rfl
theorem ml_X10_368 : Cond.methodLink RX10 368 yX10_commonDivisor ∈ TBL := in5 (List.mem_of_getElem? (i := 54) rfl) rfl
theorem ml_L_154 : Cond.methodLink RL 154 yX10_unit ∈ TBL := in5 (List.mem_of_getElem? (i := 57) rfl) rfl
theorem ml_L_158 : Cond.methodLink RL 158 yX10_shares ∈ TBL := in5 (List.mem_of_getElem? (i := 61) rfl) rfl
theorem ml_L_162 : Cond.methodLink RL 162 yX10_most ∈ TBL := in5 (List.mem_of_getElem? (i := 65) rfl) rfl
theorem ml_X10_385 : Cond.methodLink RX10 385 yX0_tableWithMostRows ∈ TBL := in5 (List.mem_of_getElem? (i := 69) rfl) rfl
theorem ml_X10_388 : Cond.methodLink RX10 388 yX0_columnDriftedMost ∈ TBL := in5 (List.mem_of_getElem? (i := 73) rfl) rfl
theorem ml_X10_391 : Cond.methodLink RX10 391 yX0_greatestTotal ∈ TBL := in5 (List.mem_of_getElem? (i := 77) rfl) rfl
theorem ml_X0_93 : Cond.methodLink RX0 93 yX4_size ∈ TBL := in5 (List.mem_of_getElem? (i := 81) rfl) rfl
theorem ml_X0_96 : Cond.methodLink RX0 96 yX4_totalOf ∈ TBL := in5 (List.mem_of_getElem? (i := 82) rfl) rfl
theorem ml_X0_100 : Cond.methodLink RX0 100 Lib.Math.max.name ∈ TBL := in5 (List.mem_of_getElem? (i := 83) rfl) rfl
theorem ml_X10_394 : Cond.methodLink RX10 394 yX0_mostAlike ∈ TBL := in5 (List.mem_of_getElem? (i := 84) rfl) rfl
theorem ml_X0_105 : Cond.methodLink RX0 105 yX7_mostAlike ∈ TBL := in5 (List.mem_of_getElem? (i := 88) rfl) rfl
theorem ml_X7_86 : Cond.methodLink RX7 86 Lib.Math.max.name ∈ TBL := in5 (List.mem_of_getElem? (i := 92) rfl) rfl
theorem ml_X10_397 : Cond.methodLink RX10 397 yX0_valueSeenMost ∈ TBL := in5 (List.mem_of_getElem? (i := 93) rfl) rfl
theorem ml_X0_108 : Cond.methodLink RX0 108 yX4_countAt ∈ TBL := in5 (List.mem_of_getElem? (i := 97) rfl) rfl
theorem ml_L_166 : Cond.methodLink RL 166 yX10_image ∈ TBL := in5 (List.mem_of_getElem? (i := 98) rfl) rfl
theorem ml_X10_400 : Cond.methodLink RX10 400 yX0_copyFrom ∈ TBL := in5 (List.mem_of_getElem? (i := 102) rfl) rfl
theorem ml_X0_76 : Cond.methodLink RX0 76 yX3_copyFrom ∈ TBL := in5 (List.mem_of_getElem? (i := 106) rfl) rfl
theorem ml_X3_28 : Cond.methodLink RX3 28 arraycopyName ∈ TBL := in5 (List.mem_of_getElem? (i := 110) rfl) rfl
theorem ml_X0_80 : Cond.methodLink RX0 80 yX7_copyFrom ∈ TBL := in5 (List.mem_of_getElem? (i := 111) rfl) rfl
theorem ml_X7_43 : Cond.methodLink RX7 43 arraycopyName ∈ TBL := in5 (List.mem_of_getElem? (i := 115) rfl) rfl
theorem ml_X7_49 : Cond.methodLink RX7 49 yX4_copyFrom ∈ TBL := in5 (List.mem_of_getElem? (i := 116) rfl) rfl
theorem ml_L_170 : Cond.methodLink RL 170 yX10_back ∈ TBL := in5 (List.mem_of_getElem? (i := 117) rfl) rfl
theorem ml_L_174 : Cond.methodLink RL 174 yX10_count ∈ TBL := in5 (List.mem_of_getElem? (i := 121) rfl) rfl
theorem ml_L_42 : Cond.methodLink RL 42 yL_table ∈ TBL := in5 (List.mem_of_getElem? (i := 125) rfl) rfl
theorem ml_L_7 : Cond.methodLink RL 7 yX10_table ∈ TBL := in5 (List.mem_of_getElem? (i := 129) rfl) rfl
theorem ml_L_18 : Cond.methodLink RL 18 yX11_init ∈ TBL := in5 (List.mem_of_getElem? (i := 200) rfl) rfl
theorem mk_X11_50 : Cond.constant RX11 50 (50120 : Int32) ∈ TBL := in5 (List.mem_of_getElem? (i := 204) rfl) rfl
theorem ml_L_48 : Cond.methodLink RL 48 yX11_thrown ∈ TBL := in6 (List.mem_of_getElem? (i := 65) rfl) rfl
theorem ml_L_23 : Cond.methodLink RL 23 yX11_feed ∈ TBL := in6 (List.mem_of_getElem? (i := 69) rfl) rfl
theorem ml_X11_70 : Cond.methodLink RX11 70 yX11_byteOf ∈ TBL := in6 (List.mem_of_getElem? (i := 73) rfl) rfl
theorem ml_L_28 : Cond.methodLink RL 28 yX11_end ∈ TBL := in6 (List.mem_of_getElem? (i := 76) rfl) rfl
theorem ml_X11_77 : Cond.methodLink RX11 77 yX11_in ∈ TBL := in6 (List.mem_of_getElem? (i := 80) rfl) rfl
theorem ml_L_33 : Cond.methodLink RL 33 yX11_fault ∈ TBL := in6 (List.mem_of_getElem? (i := 83) rfl) rfl
theorem ml_X11_140 : Cond.methodLink RX11 140 yX11_readBook ∈ TBL := in6 (List.mem_of_getElem? (i := 87) rfl) rfl
theorem ml_X11_101 : Cond.methodLink RX11 101 yX11_usual ∈ TBL := in6 (List.mem_of_getElem? (i := 91) rfl) rfl
theorem ml_X11_91 : Cond.methodLink RX11 91 yX11_ahead ∈ TBL := in6 (List.mem_of_getElem? (i := 94) rfl) rfl
theorem ml_X11_84 : Cond.methodLink RX11 84 yX11_here ∈ TBL := in6 (List.mem_of_getElem? (i := 98) rfl) rfl
theorem ml_X11_128 : Cond.methodLink RX11 128 yX11_items ∈ TBL := in6 (List.mem_of_getElem? (i := 102) rfl) rfl
theorem ml_X11_105 : Cond.methodLink RX11 105 yX11_itemOf ∈ TBL := in6 (List.mem_of_getElem? (i := 106) rfl) rfl
theorem ml_X11_108 : Cond.methodLink RX11 108 yX11_has ∈ TBL := in6 (List.mem_of_getElem? (i := 109) rfl) rfl
theorem ml_X11_112 : Cond.methodLink RX11 112 yX11_lowest ∈ TBL := in6 (List.mem_of_getElem? (i := 112) rfl) rfl
theorem ml_X11_115 : Cond.methodLink RX11 115 yX11_highest ∈ TBL := in6 (List.mem_of_getElem? (i := 115) rfl) rfl
theorem ml_X11_118 : Cond.methodLink RX11 118 yX11_number ∈ TBL := in6 (List.mem_of_getElem? (i := 118) rfl) rfl
theorem ml_X11_94 : Cond.methodLink RX11 94 yX11_isDigit ∈ TBL := in6 (List.mem_of_getElem? (i := 122) rfl) rfl
theorem ml_X11_98 : Cond.methodLink RX11 98 yX11_bad ∈ TBL := in6 (List.mem_of_getElem? (i := 125) rfl) rfl
theorem ml_X11_132 : Cond.methodLink RX11 132 yX11_isWhole ∈ TBL := in6 (List.mem_of_getElem? (i := 129) rfl) rfl
theorem ml_X11_143 : Cond.methodLink RX11 143 yX11_readWhere ∈ TBL := in6 (List.mem_of_getElem? (i := 133) rfl) rfl
theorem ml_X11_136 : Cond.methodLink RX11 136 yX11_readUnit ∈ TBL := in6 (List.mem_of_getElem? (i := 137) rfl) rfl
theorem ml_L_37 : Cond.methodLink RL 37 yX11_text ∈ TBL := in6 (List.mem_of_getElem? (i := 141) rfl) rfl
theorem ml_X11_219 : Cond.methodLink RX11 219 yX11_takeBook ∈ TBL := in6 (List.mem_of_getElem? (i := 145) rfl) rfl
theorem ml_X11_158 : Cond.methodLink RX11 158 yX11_place ∈ TBL := in6 (List.mem_of_getElem? (i := 149) rfl) rfl
theorem ml_X11_209 : Cond.methodLink RX11 209 yX11_buildNow ∈ TBL := in6 (List.mem_of_getElem? (i := 152) rfl) rfl
theorem ml_X11_191 : Cond.methodLink RX11 191 yX11_layCounts ∈ TBL := in6 (List.mem_of_getElem? (i := 156) rfl) rfl
theorem ml_X11_167 : Cond.methodLink RX11 167 yX11_countAt ∈ TBL := in6 (List.mem_of_getElem? (i := 160) rfl) rfl
theorem ml_X11_194 : Cond.methodLink RX11 194 Lib.Math.min.name ∈ TBL := in6 (List.mem_of_getElem? (i := 164) rfl) rfl
theorem ml_X11_196 : Cond.methodLink RX11 196 yX11_layBorders ∈ TBL := in6 (List.mem_of_getElem? (i := 165) rfl) rfl
theorem ml_X11_187 : Cond.methodLink RX11 187 yX11_layLeast ∈ TBL := in6 (List.mem_of_getElem? (i := 169) rfl) rfl
theorem mk_X11_172 : Cond.constantLong RX11 172 (1000000000000000 : Int64) ∈ TBL := in6 (List.mem_of_getElem? (i := 173) rfl) rfl
theorem ml_X11_174 : Cond.methodLink RX11 174 yX11_leastAt ∈ TBL := in6 (List.mem_of_getElem? (i := 174) rfl) rfl
theorem ml_X11_177 : Cond.methodLink RX11 177 yX11_errorOf ∈ TBL := in6 (List.mem_of_getElem? (i := 177) rfl) rfl
theorem mk_X11_170 : Cond.constantLong RX11 170 (720720 : Int64) ∈ TBL := in6 (List.mem_of_getElem? (i := 181) rfl) rfl
theorem ml_X11_181 : Cond.methodLink RX11 181 Lib.MathLoose.min_long.x ∈ TBL := in6 (List.mem_of_getElem? (i := 182) rfl) rfl
theorem ml_X11_147 : Cond.methodLink RX11 147 yX11_column ∈ TBL := in6 (List.mem_of_getElem? (i := 183) rfl) rfl
theorem ml_X11_199 : Cond.methodLink RX11 199 yX11_drift ∈ TBL := in6 (List.mem_of_getElem? (i := 186) rfl) rfl
theorem ml_X11_202 : Cond.methodLink RX11 202 Lib.Math.max.name ∈ TBL := in6 (List.mem_of_getElem? (i := 189) rfl) rfl
theorem ml_X11_205 : Cond.methodLink RX11 205 yX11_put ∈ TBL := in6 (List.mem_of_getElem? (i := 190) rfl) rfl
theorem ml_L_41 : Cond.methodLink RL 41 yX11_rule ∈ TBL := in6 (List.mem_of_getElem? (i := 194) rfl) rfl
theorem ml_X11_225 : Cond.methodLink RX11 225 yX11_isBook ∈ TBL := in6 (List.mem_of_getElem? (i := 198) rfl) rfl
theorem mk_X11_228 : Cond.constantLong RX11 228 (2 : Int64) ∈ TBL := in6 (List.mem_of_getElem? (i := 202) rfl) rfl
theorem ml_L_47 : Cond.methodLink RL 47 yX11_table ∈ TBL := in6 (List.mem_of_getElem? (i := 203) rfl) rfl
theorem ml_X11_153 : Cond.methodLink RX11 153 yX11_isTable ∈ TBL := in6 (List.mem_of_getElem? (i := 207) rfl) rfl
theorem mk_X11_230 : Cond.constantLong RX11 230 (3 : Int64) ∈ TBL := in6 (List.mem_of_getElem? (i := 211) rfl) rfl
theorem ml_X11_161 : Cond.methodLink RX11 161 yX11_rowsOf ∈ TBL := in6 (List.mem_of_getElem? (i := 212) rfl) rfl
theorem ml_L_56 : Cond.methodLink RL 56 yX11_rows ∈ TBL := in6 (List.mem_of_getElem? (i := 216) rfl) rfl
theorem ml_X11_232 : Cond.methodLink RX11 232 yX11_isValue ∈ TBL := in6 (List.mem_of_getElem? (i := 220) rfl) rfl
theorem mk_X11_156 : Cond.constantLong RX11 156 (-1 : Int64) ∈ TBL := in6 (List.mem_of_getElem? (i := 224) rfl) rfl
theorem ml_L_60 : Cond.methodLink RL 60 yX11_countOf ∈ TBL := in6 (List.mem_of_getElem? (i := 225) rfl) rfl
theorem ml_X11_235 : Cond.methodLink RX11 235 yX11_isColumn ∈ TBL := in6 (List.mem_of_getElem? (i := 229) rfl) rfl
theorem ml_L_65 : Cond.methodLink RL 65 yX11_bucket ∈ TBL := in6 (List.mem_of_getElem? (i := 233) rfl) rfl
theorem ml_X11_238 : Cond.methodLink RX11 238 yX11_bucketMany ∈ TBL := in6 (List.mem_of_getElem? (i := 237) rfl) rfl
theorem ml_X11_241 : Cond.methodLink RX11 241 yX11_of ∈ TBL := in7 (List.mem_of_getElem? (i := 1) rfl) rfl
theorem mk_X11_245 : Cond.constant RX11 245 (-1000000 : Int32) ∈ TBL := in7 (List.mem_of_getElem? (i := 5) rfl) rfl
theorem ml_L_69 : Cond.methodLink RL 69 yX11_column_ ∈ TBL := in7 (List.mem_of_getElem? (i := 6) rfl) rfl
theorem ml_X11_246 : Cond.methodLink RX11 246 yX11_worst ∈ TBL := in7 (List.mem_of_getElem? (i := 10) rfl) rfl
theorem ml_L_74 : Cond.methodLink RL 74 yX11_error ∈ TBL := in7 (List.mem_of_getElem? (i := 14) rfl) rfl
theorem ml_X11_249 : Cond.methodLink RX11 249 yX11_isBuilding ∈ TBL := in7 (List.mem_of_getElem? (i := 18) rfl) rfl
theorem ml_L_78 : Cond.methodLink RL 78 yX11_border ∈ TBL := in7 (List.mem_of_getElem? (i := 22) rfl) rfl
theorem ml_L_82 : Cond.methodLink RL 82 yX11_tried ∈ TBL := in7 (List.mem_of_getElem? (i := 26) rfl) rfl
theorem ml_X11_253 : Cond.methodLink RX11 253 yX11_triedFrom ∈ TBL := in7 (List.mem_of_getElem? (i := 30) rfl) rfl
theorem ml_L_89 : Cond.methodLink RL 89 yX11_fewest ∈ TBL := in7 (List.mem_of_getElem? (i := 34) rfl) rfl
theorem ml_L_93 : Cond.methodLink RL 93 yX11_add ∈ TBL := in7 (List.mem_of_getElem? (i := 38) rfl) rfl
theorem ml_X11_272 : Cond.methodLink RX11 272 yX11_whyAdd ∈ TBL := in7 (List.mem_of_getElem? (i := 42) rfl) rfl
theorem ml_X11_267 : Cond.methodLink RX11 267 yX11_areThere ∈ TBL := in7 (List.mem_of_getElem? (i := 46) rfl) rfl
theorem mk_X11_270 : Cond.constantLong RX11 270 (99 : Int64) ∈ TBL := in7 (List.mem_of_getElem? (i := 50) rfl) rfl
theorem ml_X11_275 : Cond.methodLink RX11 275 yX11_isRefused ∈ TBL := in7 (List.mem_of_getElem? (i := 51) rfl) rfl
theorem ml_X11_257 : Cond.methodLink RX11 257 yX11_keep ∈ TBL := in7 (List.mem_of_getElem? (i := 55) rfl) rfl
theorem ml_X11_279 : Cond.methodLink RX11 279 yX11_change ∈ TBL := in7 (List.mem_of_getElem? (i := 59) rfl) rfl
theorem ml_X11_263 : Cond.methodLink RX11 263 yX11_drifts ∈ TBL := in7 (List.mem_of_getElem? (i := 63) rfl) rfl
theorem ml_X11_260 : Cond.methodLink RX11 260 yX11_bucketOf ∈ TBL := in7 (List.mem_of_getElem? (i := 67) rfl) rfl
theorem ml_L_97 : Cond.methodLink RL 97 yX11_drop ∈ TBL := in7 (List.mem_of_getElem? (i := 71) rfl) rfl
theorem ml_X11_282 : Cond.methodLink RX11 282 yX11_whyDrop ∈ TBL := in7 (List.mem_of_getElem? (i := 75) rfl) rfl
theorem ml_L_101 : Cond.methodLink RL 101 yX11_move ∈ TBL := in7 (List.mem_of_getElem? (i := 79) rfl) rfl
theorem ml_L_105 : Cond.methodLink RL 105 yX11_build ∈ TBL := in7 (List.mem_of_getElem? (i := 83) rfl) rfl
theorem ml_X11_285 : Cond.methodLink RX11 285 yX11_whyBuild ∈ TBL := in7 (List.mem_of_getElem? (i := 87) rfl) rfl
theorem ml_L_109 : Cond.methodLink RL 109 yX11_budget ∈ TBL := in7 (List.mem_of_getElem? (i := 91) rfl) rfl
theorem mk_X11_288 : Cond.constantLong RX11 288 (999 : Int64) ∈ TBL := in7 (List.mem_of_getElem? (i := 95) rfl) rfl
theorem ml_L_114 : Cond.methodLink RL 114 yX11_years ∈ TBL := in7 (List.mem_of_getElem? (i := 96) rfl) rfl
theorem mk_X11_313 : Cond.constantLong RX11 313 (40 : Int64) ∈ TBL := in7 (List.mem_of_getElem? (i := 100) rfl) rfl
theorem ml_X11_315 : Cond.methodLink RX11 315 yX11_drawYear ∈ TBL := in7 (List.mem_of_getElem? (i := 101) rfl) rfl
theorem ml_X11_298 : Cond.methodLink RX11 298 yX11_draw ∈ TBL := in7 (List.mem_of_getElem? (i := 105) rfl) rfl
theorem mk_X11_294 : Cond.constantLong RX11 294 (6364136223846793005 : Int64) ∈ TBL := in7 (List.mem_of_getElem? (i := 109) rfl) rfl
theorem mk_X11_296 : Cond.constantLong RX11 296 (1442695040888963407 : Int64) ∈ TBL := in7 (List.mem_of_getElem? (i := 110) rfl) rfl
theorem ml_X11_301 : Cond.methodLink RX11 301 yX11_build ∈ TBL := in7 (List.mem_of_getElem? (i := 111) rfl) rfl
theorem ml_X11_304 : Cond.methodLink RX11 304 yX11_drawValue ∈ TBL := in7 (List.mem_of_getElem? (i := 112) rfl) rfl
theorem ml_X11_307 : Cond.methodLink RX11 307 yX11_add ∈ TBL := in7 (List.mem_of_getElem? (i := 116) rfl) rfl
theorem ml_X11_310 : Cond.methodLink RX11 310 yX11_drop ∈ TBL := in7 (List.mem_of_getElem? (i := 117) rfl) rfl
theorem ml_X11_318 : Cond.methodLink RX11 318 yX11_rowsOfAll ∈ TBL := in7 (List.mem_of_getElem? (i := 118) rfl) rfl
theorem ml_L_118 : Cond.methodLink RL 118 yX11_status ∈ TBL := in7 (List.mem_of_getElem? (i := 122) rfl) rfl
theorem mk_X11_321 : Cond.constantLong RX11 321 (4 : Int64) ∈ TBL := in7 (List.mem_of_getElem? (i := 126) rfl) rfl
theorem ml_L_122 : Cond.methodLink RL 122 yX11_undo ∈ TBL := in7 (List.mem_of_getElem? (i := 127) rfl) rfl
theorem ml_L_126 : Cond.methodLink RL 126 yX11_log ∈ TBL := in7 (List.mem_of_getElem? (i := 131) rfl) rfl
theorem ml_L_144 : Cond.methodLink RL 144 yX11_trace ∈ TBL := in7 (List.mem_of_getElem? (i := 135) rfl) rfl
theorem ml_L_130 : Cond.methodLink RL 130 yX11_where ∈ TBL := in7 (List.mem_of_getElem? (i := 139) rfl) rfl
theorem ml_X11_359 : Cond.methodLink RX11 359 yX11_isWhere ∈ TBL := in7 (List.mem_of_getElem? (i := 143) rfl) rfl
theorem ml_X11_362 : Cond.methodLink RX11 362 yX11_whereBy ∈ TBL := in7 (List.mem_of_getElem? (i := 147) rfl) rfl
theorem ml_X11_341 : Cond.methodLink RX11 341 yX11_terms ∈ TBL := in7 (List.mem_of_getElem? (i := 151) rfl) rfl
theorem ml_X11_335 : Cond.methodLink RX11 335 yX11_unitAt ∈ TBL := in7 (List.mem_of_getElem? (i := 155) rfl) rfl
theorem ml_X11_356 : Cond.methodLink RX11 356 yX11_termBy ∈ TBL := in7 (List.mem_of_getElem? (i := 159) rfl) rfl
theorem ml_X11_353 : Cond.methodLink RX11 353 yX11_unitBy ∈ TBL := in7 (List.mem_of_getElem? (i := 163) rfl) rfl
theorem ml_X11_338 : Cond.methodLink RX11 338 yX11_isUnitOf ∈ TBL := in7 (List.mem_of_getElem? (i := 167) rfl) rfl
theorem ml_X11_365 : Cond.methodLink RX11 365 yX11_begin ∈ TBL := in7 (List.mem_of_getElem? (i := 171) rfl) rfl
theorem ml_X11_332 : Cond.methodLink RX11 332 yX11_take ∈ TBL := in7 (List.mem_of_getElem? (i := 175) rfl) rfl
theorem ml_X11_368 : Cond.methodLink RX11 368 yX11_truth ∈ TBL := in7 (List.mem_of_getElem? (i := 179) rfl) rfl
theorem ml_X11_347 : Cond.methodLink RX11 347 yX11_isOver ∈ TBL := in7 (List.mem_of_getElem? (i := 183) rfl) rfl
theorem ml_X11_350 : Cond.methodLink RX11 350 yX11_holds ∈ TBL := in7 (List.mem_of_getElem? (i := 187) rfl) rfl
theorem ml_X11_344 : Cond.methodLink RX11 344 yX11_isTermOf ∈ TBL := in7 (List.mem_of_getElem? (i := 191) rfl) rfl
theorem ml_X11_371 : Cond.methodLink RX11 371 yX11_finish ∈ TBL := in7 (List.mem_of_getElem? (i := 195) rfl) rfl
theorem ml_L_135 : Cond.methodLink RL 135 yX11_join ∈ TBL := in7 (List.mem_of_getElem? (i := 199) rfl) rfl
theorem ml_X11_382 : Cond.methodLink RX11 382 yX11_degrees ∈ TBL := in7 (List.mem_of_getElem? (i := 203) rfl) rfl
theorem ml_X11_378 : Cond.methodLink RX11 378 yX11_sortCounts ∈ TBL := in7 (List.mem_of_getElem? (i := 207) rfl) rfl
theorem ml_X11_375 : Cond.methodLink RX11 375 yX11_countIn ∈ TBL := in7 (List.mem_of_getElem? (i := 211) rfl) rfl
theorem ml_X11_386 : Cond.methodLink RX11 386 yX11_joinBy ∈ TBL := in7 (List.mem_of_getElem? (i := 215) rfl) rfl
theorem ml_X11_390 : Cond.methodLink RX11 390 yX11_joinTruth ∈ TBL := in7 (List.mem_of_getElem? (i := 219) rfl) rfl
theorem ml_L_140 : Cond.methodLink RL 140 yX11_chain ∈ TBL := in7 (List.mem_of_getElem? (i := 223) rfl) rfl
theorem ml_X11_393 : Cond.methodLink RX11 393 yX11_greatestOf ∈ TBL := in7 (List.mem_of_getElem? (i := 227) rfl) rfl
theorem ml_X11_396 : Cond.methodLink RX11 396 yX11_chainTruth ∈ TBL := in7 (List.mem_of_getElem? (i := 231) rfl) rfl
theorem ml_L_148 : Cond.methodLink RL 148 yX11_narrow ∈ TBL := in7 (List.mem_of_getElem? (i := 235) rfl) rfl
theorem ml_X11_400 : Cond.methodLink RX11 400 yX11_gapIfBuilt ∈ TBL := in7 (List.mem_of_getElem? (i := 239) rfl) rfl
theorem ml_L_153 : Cond.methodLink RL 153 yX11_odds ∈ TBL := in8 (List.mem_of_getElem? (i := 3) rfl) rfl
theorem ml_L_157 : Cond.methodLink RL 157 yX11_unit ∈ TBL := in8 (List.mem_of_getElem? (i := 7) rfl) rfl
theorem ml_L_161 : Cond.methodLink RL 161 yX11_shares ∈ TBL := in8 (List.mem_of_getElem? (i := 11) rfl) rfl
theorem ml_L_165 : Cond.methodLink RL 165 yX11_most ∈ TBL := in8 (List.mem_of_getElem? (i := 15) rfl) rfl
theorem mk_X11_403 : Cond.constantLong RX11 403 (5 : Int64) ∈ TBL := in8 (List.mem_of_getElem? (i := 19) rfl) rfl
theorem ml_X11_405 : Cond.methodLink RX11 405 yX11_longest ∈ TBL := in8 (List.mem_of_getElem? (i := 20) rfl) rfl
theorem ml_X11_408 : Cond.methodLink RX11 408 yX11_mostDrifted ∈ TBL := in8 (List.mem_of_getElem? (i := 24) rfl) rfl
theorem ml_X11_411 : Cond.methodLink RX11 411 yX11_greatestTotal ∈ TBL := in8 (List.mem_of_getElem? (i := 28) rfl) rfl
theorem ml_X11_414 : Cond.methodLink RX11 414 yX11_mostAlike ∈ TBL := in8 (List.mem_of_getElem? (i := 32) rfl) rfl
theorem ml_X11_417 : Cond.methodLink RX11 417 yX11_commonest ∈ TBL := in8 (List.mem_of_getElem? (i := 36) rfl) rfl
theorem ml_L_169 : Cond.methodLink RL 169 yX11_image ∈ TBL := in8 (List.mem_of_getElem? (i := 40) rfl) rfl
theorem ml_L_173 : Cond.methodLink RL 173 yX11_back ∈ TBL := in8 (List.mem_of_getElem? (i := 44) rfl) rfl
theorem ml_L_177 : Cond.methodLink RL 177 yX11_count ∈ TBL := in8 (List.mem_of_getElem? (i := 48) rfl) rfl
theorem mk_L_83 : Cond.constantLong RL 83 (4294967295 : Int64) ∈ TBL := in8 (List.mem_of_getElem? (i := 52) rfl) rfl
theorem i_X0 : ∀ w ∈ u_ws RX0 TX0 6, w ∈ TBL := by
  intro w hw
  obtain ⟨k, hk, rfl⟩ := List.mem_map.mp hw
  have hk := List.mem_range.mp hk
  match k, hk with
  | 0, _ => exact in1 (List.mem_of_getElem? (i := 177) rfl) rfl
  | 1, _ => exact in1 (List.mem_of_getElem? (i := 179) rfl) rfl
  | 2, _ => exact in1 (List.mem_of_getElem? (i := 181) rfl) rfl
  | 3, _ => exact in1 (List.mem_of_getElem? (i := 183) rfl) rfl
  | 4, _ => exact in1 (List.mem_of_getElem? (i := 185) rfl) rfl
  | 5, _ => exact in1 (List.mem_of_getElem? (i := 187) rfl) rfl
  | k + 6, hk => exact absurd hk (by omega)
theorem i_X1 : ∀ w ∈ u_ws RX1 TX1 6, w ∈ TBL := by
  intro w hw
  obtain ⟨k, hk, rfl⟩ := List.mem_map.mp hw
  have hk := List.mem_range.mp hk
  match k, hk with
  | 0, _ => exact in1 (List.mem_of_getElem? (i := 75) rfl) rfl
  | 1, _ => exact in1 (List.mem_of_getElem? (i := 77) rfl) rfl
  | 2, _ => exact in1 (List.mem_of_getElem? (i := 79) rfl) rfl
  | 3, _ => exact in1 (List.mem_of_getElem? (i := 81) rfl) rfl
  | 4, _ => exact in1 (List.mem_of_getElem? (i := 83) rfl) rfl
  | 5, _ => exact in1 (List.mem_of_getElem? (i := 85) rfl) rfl
  | k + 6, hk => exact absurd hk (by omega)
theorem i_X2 : ∀ w ∈ u_ws RX2 TX2 9, w ∈ TBL := by
  intro w hw
  obtain ⟨k, hk, rfl⟩ := List.mem_map.mp hw
  have hk := List.mem_range.mp hk
  match k, hk with
  | 0, _ => exact in2 (List.mem_of_getElem? (i := 44) rfl) rfl
  | 1, _ => exact in2 (List.mem_of_getElem? (i := 46) rfl) rfl
  | 2, _ => exact in2 (List.mem_of_getElem? (i := 48) rfl) rfl
  | 3, _ => exact in2 (List.mem_of_getElem? (i := 50) rfl) rfl
  | 4, _ => exact in2 (List.mem_of_getElem? (i := 52) rfl) rfl
  | 5, _ => exact in2 (List.mem_of_getElem? (i := 54) rfl) rfl
  | 6, _ => exact in2 (List.mem_of_getElem? (i := 56) rfl) rfl
  | 7, _ => exact in2 (List.mem_of_getElem? (i := 58) rfl) rfl
  | 8, _ => exact in2 (List.mem_of_getElem? (i := 60) rfl) rfl
  | k + 9, hk => exact absurd hk (by omega)
theorem i_X3 : ∀ w ∈ u_ws RX3 TX3 2, w ∈ TBL := by
  intro w hw
  obtain ⟨k, hk, rfl⟩ := List.mem_map.mp hw
  have hk := List.mem_range.mp hk
  match k, hk with
  | 0, _ => exact in1 (List.mem_of_getElem? (i := 157) rfl) rfl
  | 1, _ => exact in1 (List.mem_of_getElem? (i := 159) rfl) rfl
  | k + 2, hk => exact absurd hk (by omega)
theorem i_X4 : ∀ w ∈ u_ws RX4 TX4 4, w ∈ TBL := by
  intro w hw
  obtain ⟨k, hk, rfl⟩ := List.mem_map.mp hw
  have hk := List.mem_range.mp hk
  match k, hk with
  | 0, _ => exact in1 (List.mem_of_getElem? (i := 119) rfl) rfl
  | 1, _ => exact in1 (List.mem_of_getElem? (i := 121) rfl) rfl
  | 2, _ => exact in1 (List.mem_of_getElem? (i := 123) rfl) rfl
  | 3, _ => exact in1 (List.mem_of_getElem? (i := 125) rfl) rfl
  | k + 4, hk => exact absurd hk (by omega)
theorem i_X5 : ∀ w ∈ u_ws RX5 TX5 6, w ∈ TBL := by
  intro w hw
  obtain ⟨k, hk, rfl⟩ := List.mem_map.mp hw
  have hk := List.mem_range.mp hk
  match k, hk with
  | 0, _ => exact in2 (List.mem_of_getElem? (i := 12) rfl) rfl
  | 1, _ => exact in2 (List.mem_of_getElem? (i := 14) rfl) rfl
  | 2, _ => exact in2 (List.mem_of_getElem? (i := 16) rfl) rfl
  | 3, _ => exact in2 (List.mem_of_getElem? (i := 18) rfl) rfl
  | 4, _ => exact in2 (List.mem_of_getElem? (i := 20) rfl) rfl
  | 5, _ => exact in2 (List.mem_of_getElem? (i := 22) rfl) rfl
  | k + 6, hk => exact absurd hk (by omega)
theorem i_X6 : ∀ w ∈ u_ws RX6 TX6 3, w ∈ TBL := by
  intro w hw
  obtain ⟨k, hk, rfl⟩ := List.mem_map.mp hw
  have hk := List.mem_range.mp hk
  match k, hk with
  | 0, _ => exact in1 (List.mem_of_getElem? (i := 231) rfl) rfl
  | 1, _ => exact in1 (List.mem_of_getElem? (i := 233) rfl) rfl
  | 2, _ => exact in1 (List.mem_of_getElem? (i := 235) rfl) rfl
  | k + 3, hk => exact absurd hk (by omega)
theorem i_X7 : ∀ w ∈ u_ws RX7 TX7 4, w ∈ TBL := by
  intro w hw
  obtain ⟨k, hk, rfl⟩ := List.mem_map.mp hw
  have hk := List.mem_range.mp hk
  match k, hk with
  | 0, _ => exact in1 (List.mem_of_getElem? (i := 139) rfl) rfl
  | 1, _ => exact in1 (List.mem_of_getElem? (i := 141) rfl) rfl
  | 2, _ => exact in1 (List.mem_of_getElem? (i := 143) rfl) rfl
  | 3, _ => exact in1 (List.mem_of_getElem? (i := 145) rfl) rfl
  | k + 4, hk => exact absurd hk (by omega)
theorem i_X8 : ∀ w ∈ u_ws RX8 TX8 4, w ∈ TBL := by
  intro w hw
  obtain ⟨k, hk, rfl⟩ := List.mem_map.mp hw
  have hk := List.mem_range.mp hk
  match k, hk with
  | 0, _ => exact in1 (List.mem_of_getElem? (i := 49) rfl) rfl
  | 1, _ => exact in1 (List.mem_of_getElem? (i := 51) rfl) rfl
  | 2, _ => exact in1 (List.mem_of_getElem? (i := 53) rfl) rfl
  | 3, _ => exact in1 (List.mem_of_getElem? (i := 55) rfl) rfl
  | k + 4, hk => exact absurd hk (by omega)
theorem i_X9 : ∀ w ∈ u_ws RX9 TX9 5, w ∈ TBL := by
  intro w hw
  obtain ⟨k, hk, rfl⟩ := List.mem_map.mp hw
  have hk := List.mem_range.mp hk
  match k, hk with
  | 0, _ => exact in1 (List.mem_of_getElem? (i := 210) rfl) rfl
  | 1, _ => exact in1 (List.mem_of_getElem? (i := 212) rfl) rfl
  | 2, _ => exact in1 (List.mem_of_getElem? (i := 214) rfl) rfl
  | 3, _ => exact in1 (List.mem_of_getElem? (i := 216) rfl) rfl
  | 4, _ => exact in1 (List.mem_of_getElem? (i := 218) rfl) rfl
  | k + 5, hk => exact absurd hk (by omega)
theorem i_X10 : ∀ w ∈ u_ws RX10 TX10 14, w ∈ TBL := by
  intro w hw
  obtain ⟨k, hk, rfl⟩ := List.mem_map.mp hw
  have hk := List.mem_range.mp hk
  match k, hk with
  | 0, _ => exact in2 (List.mem_of_getElem? (i := 79) rfl) rfl
  | 1, _ => exact in2 (List.mem_of_getElem? (i := 81) rfl) rfl
  | 2, _ => exact in2 (List.mem_of_getElem? (i := 83) rfl) rfl
  | 3, _ => exact in2 (List.mem_of_getElem? (i := 85) rfl) rfl
  | 4, _ => exact in2 (List.mem_of_getElem? (i := 87) rfl) rfl
  | 5, _ => exact in2 (List.mem_of_getElem? (i := 89) rfl) rfl
  | 6, _ => exact in2 (List.mem_of_getElem? (i := 91) rfl) rfl
  | 7, _ => exact in2 (List.mem_of_getElem? (i := 93) rfl) rfl
  | 8, _ => exact in2 (List.mem_of_getElem? (i := 95) rfl) rfl
  | 9, _ => exact in2 (List.mem_of_getElem? (i := 97) rfl) rfl
  | 10, _ => exact in2 (List.mem_of_getElem? (i := 99) rfl) rfl
  | 11, _ => exact in2 (List.mem_of_getElem? (i := 101) rfl) rfl
  | 12, _ => exact in2 (List.mem_of_getElem? (i := 103) rfl) rfl
  | 13, _ => exact in2 (List.mem_of_getElem? (i := 105) rfl) rfl
  | k + 14, hk => exact absurd hk (by omega)
theorem i_X11 : ∀ w ∈ u_ws RX11 TX11 33, w ∈ TBL := by
  intro w hw
  obtain ⟨k, hk, rfl⟩ := List.mem_map.mp hw
  have hk := List.mem_range.mp hk
  match k, hk with
  | 0, _ => exact in5 (List.mem_of_getElem? (i := 238) rfl) rfl
  | 1, _ => exact in6 (List.mem_of_getElem? (i := 0) rfl) rfl
  | 2, _ => exact in6 (List.mem_of_getElem? (i := 2) rfl) rfl
  | 3, _ => exact in6 (List.mem_of_getElem? (i := 4) rfl) rfl
  | 4, _ => exact in6 (List.mem_of_getElem? (i := 6) rfl) rfl
  | 5, _ => exact in6 (List.mem_of_getElem? (i := 8) rfl) rfl
  | 6, _ => exact in6 (List.mem_of_getElem? (i := 10) rfl) rfl
  | 7, _ => exact in6 (List.mem_of_getElem? (i := 12) rfl) rfl
  | 8, _ => exact in6 (List.mem_of_getElem? (i := 14) rfl) rfl
  | 9, _ => exact in6 (List.mem_of_getElem? (i := 16) rfl) rfl
  | 10, _ => exact in6 (List.mem_of_getElem? (i := 18) rfl) rfl
  | 11, _ => exact in6 (List.mem_of_getElem? (i := 20) rfl) rfl
  | 12, _ => exact in6 (List.mem_of_getElem? (i := 22) rfl) rfl
  | 13, _ => exact in6 (List.mem_of_getElem? (i := 24) rfl) rfl
  | 14, _ => exact in6 (List.mem_of_getElem? (i := 26) rfl) rfl
  | 15, _ => exact in6 (List.mem_of_getElem? (i := 28) rfl) rfl
  | 16, _ => exact in6 (List.mem_of_getElem? (i := 30) rfl) rfl
  | 17, _ => exact in6 (List.mem_of_getElem? (i := 32) rfl) rfl
  | 18, _ => exact in6 (List.mem_of_getElem? (i := 34) rfl) rfl
  | 19, _ => exact in6 (List.mem_of_getElem? (i := 36) rfl) rfl
  | 20, _ => exact in6 (List.mem_of_getElem? (i := 38) rfl) rfl
  | 21, _ => exact in6 (List.mem_of_getElem? (i := 40) rfl) rfl
  | 22, _ => exact in6 (List.mem_of_getElem? (i := 42) rfl) rfl
  | 23, _ => exact in6 (List.mem_of_getElem? (i := 44) rfl) rfl
  | 24, _ => exact in6 (List.mem_of_getElem? (i := 46) rfl) rfl
  | 25, _ => exact in6 (List.mem_of_getElem? (i := 48) rfl) rfl
  | 26, _ => exact in6 (List.mem_of_getElem? (i := 50) rfl) rfl
  | 27, _ => exact in6 (List.mem_of_getElem? (i := 52) rfl) rfl
  | 28, _ => exact in6 (List.mem_of_getElem? (i := 54) rfl) rfl
  | 29, _ => exact in6 (List.mem_of_getElem? (i := 56) rfl) rfl
  | 30, _ => exact in6 (List.mem_of_getElem? (i := 58) rfl) rfl
  | 31, _ => exact in6 (List.mem_of_getElem? (i := 60) rfl) rfl
  | 32, _ => exact in6 (List.mem_of_getElem? (i := 62) rfl) rfl
  | k + 33, hk => exact absurd hk (by omega)
theorem ik_3 : isI 1003 3 := ⟨by decide, fun _ _ _ _ => rfl⟩
theorem ik_5 : isI 1005 5 := ⟨by decide, fun _ _ _ _ => rfl⟩
theorem ik_6 : isI 1006 6 := ⟨by decide, fun _ _ _ _ => rfl⟩
theorem ik_8 : isI 1008 8 := ⟨by decide, fun _ _ _ _ => rfl⟩
theorem ik_16 : isI 1016 16 := ⟨by decide, fun _ _ _ _ => rfl⟩
theorem ik_17 : isI 1017 17 := ⟨by decide, fun _ _ _ _ => rfl⟩
theorem ik_26 : isI 1026 26 := ⟨by decide, fun _ _ _ _ => rfl⟩
theorem ik_32 : isI 1032 32 := ⟨by decide, fun _ _ _ _ => rfl⟩
theorem ik_80 : isI 1080 80 := ⟨by decide, fun _ _ _ _ => rfl⟩
theorem ik_120 : isI 1120 120 := ⟨by decide, fun _ _ _ _ => rfl⟩
theorem ik_240 : isI 1240 240 := ⟨by decide, fun _ _ _ _ => rfl⟩
theorem ik_289 : isI 1289 289 := ⟨by decide, fun _ _ _ _ => rfl⟩
theorem ik_300 : isI 1300 300 := ⟨by decide, fun _ _ _ _ => rfl⟩
theorem ik_1072 : isI 2072 1072 := ⟨by decide, fun _ _ _ _ => rfl⟩
theorem ik_1253 : isI 2253 1253 := ⟨by decide, fun _ _ _ _ => rfl⟩
theorem ik_2440 : isI 3440 2440 := ⟨by decide, fun _ _ _ _ => rfl⟩
theorem ik_50120 : isI 51120 50120 := ⟨by decide, fun _ _ _ _ => rfl⟩
theorem il_1 : isL 1000001 1 := ⟨by decide, fun _ _ _ _ => rfl⟩
theorem il_289 : isL 1000289 289 := ⟨by decide, fun _ _ _ _ => rfl⟩
theorem il_306 : isL 1000306 306 := ⟨by decide, fun _ _ _ _ => rfl⟩
theorem kk_0 : kd 0 = 10 := rfl
theorem kk_1 : kd 1 = 8 := rfl
theorem kk_2 : kd 2 = 1240 := rfl
theorem kk_3 : kd 3 = 1 := rfl
theorem kk_4 : kd 4 = 1008 := rfl
theorem kk_5 : kd 5 = 1003 := rfl
theorem kk_6 : kd 6 = 1080 := rfl
theorem kk_7 : kd 7 = 0 := rfl
theorem kk_8 : kd 8 = 13 := rfl
theorem kk_9 : kd 9 = 7 := rfl
theorem kk_10 : kd 10 = 1289 := rfl
theorem kk_11 : kd 11 = 12 := rfl
theorem kk_12 : kd 12 = 4 := rfl
theorem kk_13 : kd 13 = 1016 := rfl
theorem kk_14 : kd 14 = 1026 := rfl
theorem kk_15 : kd 15 = 4 := rfl
theorem kk_16 : kd 16 = 1016 := rfl
theorem kk_17 : kd 17 = 1026 := rfl
theorem kk_18 : kd 18 = 7 := rfl
theorem kk_19 : kd 19 = 1289 := rfl
theorem kk_20 : kd 20 = 12 := rfl
theorem kk_21 : kd 21 = 4 := rfl
theorem kk_22 : kd 22 = 1016 := rfl
theorem kk_23 : kd 23 = 1026 := rfl
theorem kk_24 : kd 24 = 4 := rfl
theorem kk_25 : kd 25 = 1016 := rfl
theorem kk_26 : kd 26 = 1026 := rfl
theorem kk_27 : kd 27 = 7 := rfl
theorem kk_28 : kd 28 = 1289 := rfl
theorem kk_29 : kd 29 = 12 := rfl
theorem kk_30 : kd 30 = 4 := rfl
theorem kk_31 : kd 31 = 1016 := rfl
theorem kk_32 : kd 32 = 1026 := rfl
theorem kk_33 : kd 33 = 4 := rfl
theorem kk_34 : kd 34 = 1016 := rfl
theorem kk_35 : kd 35 = 1026 := rfl
theorem kk_36 : kd 36 = 3 := rfl
theorem kk_37 : kd 37 = 1300 := rfl
theorem kk_38 : kd 38 = 14 := rfl
theorem kk_39 : kd 39 = 9 := rfl
theorem kk_40 : kd 40 = 1006 := rfl
theorem kk_41 : kd 41 = 1006 := rfl
theorem kk_42 : kd 42 = 1006 := rfl
theorem kk_43 : kd 43 = 1006 := rfl
theorem kk_44 : kd 44 = 9 := rfl
theorem kk_45 : kd 45 = 1006 := rfl
theorem kk_46 : kd 46 = 1006 := rfl
theorem kk_47 : kd 47 = 1006 := rfl
theorem kk_48 : kd 48 = 1006 := rfl
theorem kk_49 : kd 49 = 9 := rfl
theorem kk_50 : kd 50 = 1006 := rfl
theorem kk_51 : kd 51 = 1006 := rfl
theorem kk_52 : kd 52 = 1006 := rfl
theorem kk_53 : kd 53 = 1006 := rfl
theorem kk_54 : kd 54 = 9 := rfl
theorem kk_55 : kd 55 = 1006 := rfl
theorem kk_56 : kd 56 = 1006 := rfl
theorem kk_57 : kd 57 = 1006 := rfl
theorem kk_58 : kd 58 = 1006 := rfl
theorem kk_59 : kd 59 = 9 := rfl
theorem kk_60 : kd 60 = 1006 := rfl
theorem kk_61 : kd 61 = 1006 := rfl
theorem kk_62 : kd 62 = 1006 := rfl
theorem kk_63 : kd 63 = 1006 := rfl
theorem kk_64 : kd 64 = 1005 := rfl
theorem kk_65 : kd 65 = 6 := rfl
theorem kk_66 : kd 66 = 3440 := rfl
theorem kk_67 : kd 67 = 0 := rfl
theorem kk_68 : kd 68 = 13 := rfl
theorem kk_69 : kd 69 = 7 := rfl
theorem kk_70 : kd 70 = 1289 := rfl
theorem kk_71 : kd 71 = 12 := rfl
theorem kk_72 : kd 72 = 4 := rfl
theorem kk_73 : kd 73 = 1016 := rfl
theorem kk_74 : kd 74 = 1026 := rfl
theorem kk_75 : kd 75 = 4 := rfl
theorem kk_76 : kd 76 = 1016 := rfl
theorem kk_77 : kd 77 = 1026 := rfl
theorem kk_78 : kd 78 = 7 := rfl
theorem kk_79 : kd 79 = 1289 := rfl
theorem kk_80 : kd 80 = 12 := rfl
theorem kk_81 : kd 81 = 4 := rfl
theorem kk_82 : kd 82 = 1016 := rfl
theorem kk_83 : kd 83 = 1026 := rfl
theorem kk_84 : kd 84 = 4 := rfl
theorem kk_85 : kd 85 = 1016 := rfl
theorem kk_86 : kd 86 = 1026 := rfl
theorem kk_87 : kd 87 = 7 := rfl
theorem kk_88 : kd 88 = 1289 := rfl
theorem kk_89 : kd 89 = 12 := rfl
theorem kk_90 : kd 90 = 4 := rfl
theorem kk_91 : kd 91 = 1016 := rfl
theorem kk_92 : kd 92 = 1026 := rfl
theorem kk_93 : kd 93 = 4 := rfl
theorem kk_94 : kd 94 = 1016 := rfl
theorem kk_95 : kd 95 = 1026 := rfl
theorem kk_96 : kd 96 = 3 := rfl
theorem kk_97 : kd 97 = 1300 := rfl
theorem kk_98 : kd 98 = 1006 := rfl
theorem kk_99 : kd 99 = 5 := rfl
theorem kk_100 : kd 100 = 1000289 := rfl
theorem kk_101 : kd 101 = 1000289 := rfl
theorem kk_102 : kd 102 = 1289 := rfl
theorem kk_103 : kd 103 = 2 := rfl
theorem kk_104 : kd 104 = 4 := rfl
theorem kk_105 : kd 105 = 1016 := rfl
theorem kk_106 : kd 106 = 1026 := rfl
theorem kk_107 : kd 107 = 11 := rfl
theorem kk_108 : kd 108 = 1240 := rfl
theorem kk_109 : kd 109 = 1003 := rfl
theorem kk_110 : kd 110 = 1003 := rfl
theorem kk_111 : kd 111 = 1080 := rfl
theorem kk_112 : kd 112 = 1003 := rfl
theorem kk_113 : kd 113 = 1003 := rfl
theorem kk_114 : kd 114 = 1120 := rfl
theorem kk_115 : kd 115 = 1005 := rfl
theorem kk_116 : kd 116 = 2253 := rfl
theorem kk_117 : kd 117 = 1005 := rfl
theorem kk_118 : kd 118 = 1016 := rfl
theorem kk_119 : kd 119 = 1000306 := rfl
theorem kk_120 : kd 120 = 1017 := rfl
theorem kk_121 : kd 121 = 51120 := rfl
theorem kk_122 : kd 122 = 1006 := rfl
theorem kk_123 : kd 123 = 1032 := rfl
theorem kk_124 : kd 124 = 2072 := rfl
theorem kk_125 : kd 125 = 2253 := rfl
theorem kk_126 : kd 126 = 1000001 := rfl
theorem kf_X0_sheets {p : Nat} (hp : kd p = 0) : kd (p + 1) = 13 := by
  have h := kd_allB (fun p => !(kd p == 0) || kd (p + 1) == 13) (by decide +kernel) hp (by decide)
  simpa [hp] using h
theorem kf_X0_diary {p : Nat} (hp : kd p = 0) : kd (p + 29) = 3 := by
  have h := kd_allB (fun p => !(kd p == 0) || kd (p + 29) == 3) (by decide +kernel) hp (by decide)
  simpa [hp] using h
theorem kf_X3_entries {p : Nat} (hp : kd p = 3) : kd (p + 1) = 1300 := by
  have h := kd_allB (fun p => !(kd p == 3) || kd (p + 1) == 1300) (by decide +kernel) hp (by decide)
  simpa [hp] using h
theorem kf_X4_counts {p : Nat} (hp : kd p = 4) : kd (p + 1) = 1016 := by
  have h := kd_allB (fun p => !(kd p == 4) || kd (p + 1) == 1016) (by decide +kernel) hp (by decide)
  simpa [hp] using h
theorem kf_X4_state {p : Nat} (hp : kd p = 4) : kd (p + 2) = 1026 := by
  have h := kd_allB (fun p => !(kd p == 4) || kd (p + 2) == 1026) (by decide +kernel) hp (by decide)
  simpa [hp] using h
theorem kf_X7_cells {p : Nat} (hp : kd p = 7) : kd (p + 1) = 1289 := by
  have h := kd_allB (fun p => !(kd p == 7) || kd (p + 1) == 1289) (by decide +kernel) hp (by decide)
  simpa [hp] using h
theorem kf_X7_lanes {p : Nat} (hp : kd p = 7) : kd (p + 2) = 12 := by
  have h := kd_allB (fun p => !(kd p == 7) || kd (p + 2) == 12) (by decide +kernel) hp (by decide)
  simpa [hp] using h
theorem kf_X9_terms {p : Nat} (hp : kd p = 9) : kd (p + 1) = 1006 := by
  have h := kd_allB (fun p => !(kd p == 9) || kd (p + 1) == 1006) (by decide +kernel) hp (by decide)
  simpa [hp] using h
theorem kf_X9_columns {p : Nat} (hp : kd p = 9) : kd (p + 2) = 1006 := by
  have h := kd_allB (fun p => !(kd p == 9) || kd (p + 2) == 1006) (by decide +kernel) hp (by decide)
  simpa [hp] using h
theorem kf_X9_signs {p : Nat} (hp : kd p = 9) : kd (p + 3) = 1006 := by
  have h := kd_allB (fun p => !(kd p == 9) || kd (p + 3) == 1006) (by decide +kernel) hp (by decide)
  simpa [hp] using h
theorem kf_X9_numbers {p : Nat} (hp : kd p = 9) : kd (p + 4) = 1006 := by
  have h := kd_allB (fun p => !(kd p == 9) || kd (p + 4) == 1006) (by decide +kernel) hp (by decide)
  simpa [hp] using h
section FR
variable {ρ : Type} {C : Cx} {K : ρ → State → Prop} {μ : Mem} {pc pc' tgt : Nat} {ls : List (Nat × Value)} {st : List Value} {Z : Option ρ} {cc : ByteArray} {nL : Nat} {rm : Room}
theorem gf_X8_9 {q : Nat} {p : Nat} (hC : Ok C cc nL RX8 rm) (d : DD cc pc (.getfield 9) 3 pc') (hp : kd p = 8) (hq : p + 1 = q) (kk : J C K μ pc' ls (.ref (xad (cX C) q) :: st) Z) : J C K μ pc ls (.ref (xad (cX C) p) :: st) Z := by
  subst hq
  exact J.get hC d hp (by decide) rfl i_X8 (k := 0) (by decide) (in1 (List.mem_of_getElem? (i := 39) rfl) rfl) rfl rfl rfl kk
theorem gf_X10_90 {p : Nat} (hC : Ok C cc nL RX10 rm) (d : DD cc pc (.getfield 90) 3 pc') (hp : kd p = 8) (kk : J C K μ pc' ls (.int (rI μ p 1) :: st) Z) : J C K μ pc ls (.ref (xad (cX C) p) :: st) Z :=
  J.get hC d hp (by decide) rfl i_X8 (k := 1) (by decide) (in1 (List.mem_of_getElem? (i := 40) rfl) rfl) rfl rfl rfl kk
theorem pf_X10_90 {p : Nat} {v : Int32} {F : Mem → Option ρ} (hC : Ok C cc nL RX10 rm) (d : DD cc pc (.putfield 90) 3 pc') (hp : kd p = 8) (kk : ∀ μ' : Mem, J C K μ' pc' ls st (F μ')) : J C K μ pc ls (.int v :: .ref (xad (cX C) p) :: st) (lb (wI μ p 1 v) F) :=
  J.put tyX8 hC d hp (by decide) rfl i_X8 tyX8_ok nmX8 (k := 1) (ty := .int) (by decide) (in1 (List.mem_of_getElem? (i := 40) rfl) rfl) rfl rfl rfl rfl rfl rfl (by show 1 < 4; decide) (wd_setR (f := upd (μ.1 p) 1 v) hp (by decide) rfl) (kk _)
theorem gf_X1_59 {p : Nat} (hC : Ok C cc nL RX1 rm) (d : DD cc pc (.getfield 59) 3 pc') (hp : kd p = 8) (kk : J C K μ pc' ls (.int (rI μ p 1) :: st) Z) : J C K μ pc ls (.ref (xad (cX C) p) :: st) Z :=
  J.get hC d hp (by decide) rfl i_X8 (k := 1) (by decide) (in1 (List.mem_of_getElem? (i := 41) rfl) rfl) rfl rfl rfl kk
theorem pf_X1_59 {p : Nat} {v : Int32} {F : Mem → Option ρ} (hC : Ok C cc nL RX1 rm) (d : DD cc pc (.putfield 59) 3 pc') (hp : kd p = 8) (kk : ∀ μ' : Mem, J C K μ' pc' ls st (F μ')) : J C K μ pc ls (.int v :: .ref (xad (cX C) p) :: st) (lb (wI μ p 1 v) F) :=
  J.put tyX8 hC d hp (by decide) rfl i_X8 tyX8_ok nmX8 (k := 1) (ty := .int) (by decide) (in1 (List.mem_of_getElem? (i := 41) rfl) rfl) rfl rfl rfl rfl rfl rfl (by show 1 < 4; decide) (wd_setR (f := upd (μ.1 p) 1 v) hp (by decide) rfl) (kk _)
theorem gf_X8_15 {p : Nat} (hC : Ok C cc nL RX8 rm) (d : DD cc pc (.getfield 15) 3 pc') (hp : kd p = 8) (kk : J C K μ pc' ls (.int (rI μ p 1) :: st) Z) : J C K μ pc ls (.ref (xad (cX C) p) :: st) Z :=
  J.get hC d hp (by decide) rfl i_X8 (k := 1) (by decide) (in1 (List.mem_of_getElem? (i := 42) rfl) rfl) rfl rfl rfl kk
theorem pf_X8_15 {p : Nat} {v : Int32} {F : Mem → Option ρ} (hC : Ok C cc nL RX8 rm) (d : DD cc pc (.putfield 15) 3 pc') (hp : kd p = 8) (kk : ∀ μ' : Mem, J C K μ' pc' ls st (F μ')) : J C K μ pc ls (.int v :: .ref (xad (cX C) p) :: st) (lb (wI μ p 1 v) F) :=
  J.put tyX8 hC d hp (by decide) rfl i_X8 tyX8_ok nmX8 (k := 1) (ty := .int) (by decide) (in1 (List.mem_of_getElem? (i := 42) rfl) rfl) rfl rfl rfl rfl rfl rfl (by show 1 < 4; decide) (wd_setR (f := upd (μ.1 p) 1 v) hp (by decide) rfl) (kk _)
theorem gf_X1_52 {p : Nat} (hC : Ok C cc nL RX1 rm) (d : DD cc pc (.getfield 52) 3 pc') (hp : kd p = 8) (kk : J C K μ pc' ls (.int (rI μ p 2) :: st) Z) : J C K μ pc ls (.ref (xad (cX C) p) :: st) Z :=
  J.get hC d hp (by decide) rfl i_X8 (k := 2) (by decide) (in1 (List.mem_of_getElem? (i := 43) rfl) rfl) rfl rfl rfl kk
theorem pf_X1_52 {p : Nat} {v : Int32} {F : Mem → Option ρ} (hC : Ok C cc nL RX1 rm) (d : DD cc pc (.putfield 52) 3 pc') (hp : kd p = 8) (kk : ∀ μ' : Mem, J C K μ' pc' ls st (F μ')) : J C K μ pc ls (.int v :: .ref (xad (cX C) p) :: st) (lb (wI μ p 2 v) F) :=
  J.put tyX8 hC d hp (by decide) rfl i_X8 tyX8_ok nmX8 (k := 2) (ty := .int) (by decide) (in1 (List.mem_of_getElem? (i := 43) rfl) rfl) rfl rfl rfl rfl rfl rfl (by show 2 < 4; decide) (wd_setR (f := upd (μ.1 p) 2 v) hp (by decide) rfl) (kk _)
theorem gf_X9_44 {p : Nat} (hC : Ok C cc nL RX9 rm) (d : DD cc pc (.getfield 44) 3 pc') (hp : kd p = 8) (kk : J C K μ pc' ls (.int (rI μ p 2) :: st) Z) : J C K μ pc ls (.ref (xad (cX C) p) :: st) Z :=
  J.get hC d hp (by decide) rfl i_X8 (k := 2) (by decide) (in1 (List.mem_of_getElem? (i := 44) rfl) rfl) rfl rfl rfl kk
theorem pf_X9_44 {p : Nat} {v : Int32} {F : Mem → Option ρ} (hC : Ok C cc nL RX9 rm) (d : DD cc pc (.putfield 44) 3 pc') (hp : kd p = 8) (kk : ∀ μ' : Mem, J C K μ' pc' ls st (F μ')) : J C K μ pc ls (.int v :: .ref (xad (cX C) p) :: st) (lb (wI μ p 2 v) F) :=
  J.put tyX8 hC d hp (by decide) rfl i_X8 tyX8_ok nmX8 (k := 2) (ty := .int) (by decide) (in1 (List.mem_of_getElem? (i := 44) rfl) rfl) rfl rfl rfl rfl rfl rfl (by show 2 < 4; decide) (wd_setR (f := upd (μ.1 p) 2 v) hp (by decide) rfl) (kk _)
theorem gf_X8_19 {p : Nat} (hC : Ok C cc nL RX8 rm) (d : DD cc pc (.getfield 19) 3 pc') (hp : kd p = 8) (kk : J C K μ pc' ls (.int (rI μ p 2) :: st) Z) : J C K μ pc ls (.ref (xad (cX C) p) :: st) Z :=
  J.get hC d hp (by decide) rfl i_X8 (k := 2) (by decide) (in1 (List.mem_of_getElem? (i := 45) rfl) rfl) rfl rfl rfl kk
theorem pf_X8_19 {p : Nat} {v : Int32} {F : Mem → Option ρ} (hC : Ok C cc nL RX8 rm) (d : DD cc pc (.putfield 19) 3 pc') (hp : kd p = 8) (kk : ∀ μ' : Mem, J C K μ' pc' ls st (F μ')) : J C K μ pc ls (.int v :: .ref (xad (cX C) p) :: st) (lb (wI μ p 2 v) F) :=
  J.put tyX8 hC d hp (by decide) rfl i_X8 tyX8_ok nmX8 (k := 2) (ty := .int) (by decide) (in1 (List.mem_of_getElem? (i := 45) rfl) rfl) rfl rfl rfl rfl rfl rfl (by show 2 < 4; decide) (wd_setR (f := upd (μ.1 p) 2 v) hp (by decide) rfl) (kk _)
theorem gf_X9_37 {p : Nat} (hC : Ok C cc nL RX9 rm) (d : DD cc pc (.getfield 37) 3 pc') (hp : kd p = 8) (kk : J C K μ pc' ls (.int (rI μ p 3) :: st) Z) : J C K μ pc ls (.ref (xad (cX C) p) :: st) Z :=
  J.get hC d hp (by decide) rfl i_X8 (k := 3) (by decide) (in1 (List.mem_of_getElem? (i := 46) rfl) rfl) rfl rfl rfl kk
theorem pf_X9_37 {p : Nat} {v : Int32} {F : Mem → Option ρ} (hC : Ok C cc nL RX9 rm) (d : DD cc pc (.putfield 37) 3 pc') (hp : kd p = 8) (kk : ∀ μ' : Mem, J C K μ' pc' ls st (F μ')) : J C K μ pc ls (.int v :: .ref (xad (cX C) p) :: st) (lb (wI μ p 3 v) F) :=
  J.put tyX8 hC d hp (by decide) rfl i_X8 tyX8_ok nmX8 (k := 3) (ty := .int) (by decide) (in1 (List.mem_of_getElem? (i := 46) rfl) rfl) rfl rfl rfl rfl rfl rfl (by show 3 < 4; decide) (wd_setR (f := upd (μ.1 p) 3 v) hp (by decide) rfl) (kk _)
theorem gf_X1_45 {p : Nat} (hC : Ok C cc nL RX1 rm) (d : DD cc pc (.getfield 45) 3 pc') (hp : kd p = 8) (kk : J C K μ pc' ls (.int (rI μ p 3) :: st) Z) : J C K μ pc ls (.ref (xad (cX C) p) :: st) Z :=
  J.get hC d hp (by decide) rfl i_X8 (k := 3) (by decide) (in1 (List.mem_of_getElem? (i := 47) rfl) rfl) rfl rfl rfl kk
theorem pf_X1_45 {p : Nat} {v : Int32} {F : Mem → Option ρ} (hC : Ok C cc nL RX1 rm) (d : DD cc pc (.putfield 45) 3 pc') (hp : kd p = 8) (kk : ∀ μ' : Mem, J C K μ' pc' ls st (F μ')) : J C K μ pc ls (.int v :: .ref (xad (cX C) p) :: st) (lb (wI μ p 3 v) F) :=
  J.put tyX8 hC d hp (by decide) rfl i_X8 tyX8_ok nmX8 (k := 3) (ty := .int) (by decide) (in1 (List.mem_of_getElem? (i := 47) rfl) rfl) rfl rfl rfl rfl rfl rfl (by show 3 < 4; decide) (wd_setR (f := upd (μ.1 p) 3 v) hp (by decide) rfl) (kk _)
theorem gf_X8_22 {p : Nat} (hC : Ok C cc nL RX8 rm) (d : DD cc pc (.getfield 22) 3 pc') (hp : kd p = 8) (kk : J C K μ pc' ls (.int (rI μ p 3) :: st) Z) : J C K μ pc ls (.ref (xad (cX C) p) :: st) Z :=
  J.get hC d hp (by decide) rfl i_X8 (k := 3) (by decide) (in1 (List.mem_of_getElem? (i := 48) rfl) rfl) rfl rfl rfl kk
theorem pf_X8_22 {p : Nat} {v : Int32} {F : Mem → Option ρ} (hC : Ok C cc nL RX8 rm) (d : DD cc pc (.putfield 22) 3 pc') (hp : kd p = 8) (kk : ∀ μ' : Mem, J C K μ' pc' ls st (F μ')) : J C K μ pc ls (.int v :: .ref (xad (cX C) p) :: st) (lb (wI μ p 3 v) F) :=
  J.put tyX8 hC d hp (by decide) rfl i_X8 tyX8_ok nmX8 (k := 3) (ty := .int) (by decide) (in1 (List.mem_of_getElem? (i := 48) rfl) rfl) rfl rfl rfl rfl rfl rfl (by show 3 < 4; decide) (wd_setR (f := upd (μ.1 p) 3 v) hp (by decide) rfl) (kk _)
theorem gf_X1_11 {q : Nat} {p : Nat} (hC : Ok C cc nL RX1 rm) (d : DD cc pc (.getfield 11) 3 pc') (hp : kd p = 1) (hq : p + 1 = q) (kk : J C K μ pc' ls (.ref (xad (cX C) q) :: st) Z) : J C K μ pc ls (.ref (xad (cX C) p) :: st) Z := by
  subst hq
  exact J.get hC d hp (by decide) rfl i_X1 (k := 0) (by decide) (in1 (List.mem_of_getElem? (i := 65) rfl) rfl) rfl rfl rfl kk
theorem gf_X0_32 {q : Nat} {p : Nat} (hC : Ok C cc nL RX0 rm) (d : DD cc pc (.getfield 32) 3 pc') (hp : kd p = 1) (hq : p + 1 = q) (kk : J C K μ pc' ls (.ref (xad (cX C) q) :: st) Z) : J C K μ pc ls (.ref (xad (cX C) p) :: st) Z := by
  subst hq
  exact J.get hC d hp (by decide) rfl i_X1 (k := 0) (by decide) (in1 (List.mem_of_getElem? (i := 66) rfl) rfl) rfl rfl rfl kk
theorem gf_X1_15 {q : Nat} {p : Nat} (hC : Ok C cc nL RX1 rm) (d : DD cc pc (.getfield 15) 3 pc') (hp : kd p = 1) (hq : p + 2 = q) (kk : J C K μ pc' ls (.ref (xad (cX C) q) :: st) Z) : J C K μ pc ls (.ref (xad (cX C) p) :: st) Z := by
  subst hq
  exact J.get hC d hp (by decide) rfl i_X1 (k := 1) (by decide) (in1 (List.mem_of_getElem? (i := 67) rfl) rfl) rfl rfl rfl kk
theorem gf_X0_48 {q : Nat} {p : Nat} (hC : Ok C cc nL RX0 rm) (d : DD cc pc (.getfield 48) 3 pc') (hp : kd p = 1) (hq : p + 2 = q) (kk : J C K μ pc' ls (.ref (xad (cX C) q) :: st) Z) : J C K μ pc ls (.ref (xad (cX C) p) :: st) Z := by
  subst hq
  exact J.get hC d hp (by decide) rfl i_X1 (k := 1) (by decide) (in1 (List.mem_of_getElem? (i := 68) rfl) rfl) rfl rfl rfl kk
theorem gf_X1_18 {q : Nat} {p : Nat} (hC : Ok C cc nL RX1 rm) (d : DD cc pc (.getfield 18) 3 pc') (hp : kd p = 1) (hq : p + 3 = q) (kk : J C K μ pc' ls (.ref (xad (cX C) q) :: st) Z) : J C K μ pc ls (.ref (xad (cX C) p) :: st) Z := by
  subst hq
  exact J.get hC d hp (by decide) rfl i_X1 (k := 2) (by decide) (in1 (List.mem_of_getElem? (i := 69) rfl) rfl) rfl rfl rfl kk
theorem gf_X1_26 {p : Nat} (hC : Ok C cc nL RX1 rm) (d : DD cc pc (.getfield 26) 3 pc') (hp : kd p = 1) (kk : J C K μ pc' ls (.int (rI μ p 3) :: st) Z) : J C K μ pc ls (.ref (xad (cX C) p) :: st) Z :=
  J.get hC d hp (by decide) rfl i_X1 (k := 3) (by decide) (in1 (List.mem_of_getElem? (i := 70) rfl) rfl) rfl rfl rfl kk
theorem pf_X1_26 {p : Nat} {v : Int32} {F : Mem → Option ρ} (hC : Ok C cc nL RX1 rm) (d : DD cc pc (.putfield 26) 3 pc') (hp : kd p = 1) (hb : bB v = true) (kk : ∀ μ' : Mem, J C K μ' pc' ls st (F μ')) : J C K μ pc ls (.int v :: .ref (xad (cX C) p) :: st) (lb (wI μ p 3 v) F) :=
  J.put tyX1 hC d hp (by decide) rfl i_X1 tyX1_ok nmX1 (k := 3) (ty := .boolean) (by decide) (in1 (List.mem_of_getElem? (i := 70) rfl) rfl) rfl rfl rfl (by rcases (of_decide_eq_true hb : v = 0 ∨ v = 1) with h | h <;> rw [h] <;> rfl) (by rcases (of_decide_eq_true hb : v = 0 ∨ v = 1) with h | h <;> rw [h] <;> rfl) rfl (by show 3 < 6; decide) (wd_setR (f := upd (μ.1 p) 3 v) hp (by decide) rfl) (kk _)
theorem gf_X0_25 {p : Nat} (hC : Ok C cc nL RX0 rm) (d : DD cc pc (.getfield 25) 3 pc') (hp : kd p = 1) (kk : J C K μ pc' ls (.int (rI μ p 4) :: st) Z) : J C K μ pc ls (.ref (xad (cX C) p) :: st) Z :=
  J.get hC d hp (by decide) rfl i_X1 (k := 4) (by decide) (in1 (List.mem_of_getElem? (i := 71) rfl) rfl) rfl rfl rfl kk
theorem pf_X0_25 {p : Nat} {v : Int32} {F : Mem → Option ρ} (hC : Ok C cc nL RX0 rm) (d : DD cc pc (.putfield 25) 3 pc') (hp : kd p = 1) (kk : ∀ μ' : Mem, J C K μ' pc' ls st (F μ')) : J C K μ pc ls (.int v :: .ref (xad (cX C) p) :: st) (lb (wI μ p 4 v) F) :=
  J.put tyX1 hC d hp (by decide) rfl i_X1 tyX1_ok nmX1 (k := 4) (ty := .int) (by decide) (in1 (List.mem_of_getElem? (i := 71) rfl) rfl) rfl rfl rfl rfl rfl rfl (by show 4 < 6; decide) (wd_setR (f := upd (μ.1 p) 4 v) hp (by decide) rfl) (kk _)
theorem gf_X1_30 {p : Nat} (hC : Ok C cc nL RX1 rm) (d : DD cc pc (.getfield 30) 3 pc') (hp : kd p = 1) (kk : J C K μ pc' ls (.int (rI μ p 4) :: st) Z) : J C K μ pc ls (.ref (xad (cX C) p) :: st) Z :=
  J.get hC d hp (by decide) rfl i_X1 (k := 4) (by decide) (in1 (List.mem_of_getElem? (i := 72) rfl) rfl) rfl rfl rfl kk
theorem pf_X1_30 {p : Nat} {v : Int32} {F : Mem → Option ρ} (hC : Ok C cc nL RX1 rm) (d : DD cc pc (.putfield 30) 3 pc') (hp : kd p = 1) (kk : ∀ μ' : Mem, J C K μ' pc' ls st (F μ')) : J C K μ pc ls (.int v :: .ref (xad (cX C) p) :: st) (lb (wI μ p 4 v) F) :=
  J.put tyX1 hC d hp (by decide) rfl i_X1 tyX1_ok nmX1 (k := 4) (ty := .int) (by decide) (in1 (List.mem_of_getElem? (i := 72) rfl) rfl) rfl rfl rfl rfl rfl rfl (by show 4 < 6; decide) (wd_setR (f := upd (μ.1 p) 4 v) hp (by decide) rfl) (kk _)
theorem gf_X1_34 {p : Nat} (hC : Ok C cc nL RX1 rm) (d : DD cc pc (.getfield 34) 3 pc') (hp : kd p = 1) (kk : J C K μ pc' ls (.int (rI μ p 5) :: st) Z) : J C K μ pc ls (.ref (xad (cX C) p) :: st) Z :=
  J.get hC d hp (by decide) rfl i_X1 (k := 5) (by decide) (in1 (List.mem_of_getElem? (i := 73) rfl) rfl) rfl rfl rfl kk
theorem pf_X1_34 {p : Nat} {v : Int32} {F : Mem → Option ρ} (hC : Ok C cc nL RX1 rm) (d : DD cc pc (.putfield 34) 3 pc') (hp : kd p = 1) (kk : ∀ μ' : Mem, J C K μ' pc' ls st (F μ')) : J C K μ pc ls (.int v :: .ref (xad (cX C) p) :: st) (lb (wI μ p 5 v) F) :=
  J.put tyX1 hC d hp (by decide) rfl i_X1 tyX1_ok nmX1 (k := 5) (ty := .int) (by decide) (in1 (List.mem_of_getElem? (i := 73) rfl) rfl) rfl rfl rfl rfl rfl rfl (by show 5 < 6; decide) (wd_setR (f := upd (μ.1 p) 5 v) hp (by decide) rfl) (kk _)
theorem gf_X0_55 {p : Nat} (hC : Ok C cc nL RX0 rm) (d : DD cc pc (.getfield 55) 3 pc') (hp : kd p = 1) (kk : J C K μ pc' ls (.int (rI μ p 5) :: st) Z) : J C K μ pc ls (.ref (xad (cX C) p) :: st) Z :=
  J.get hC d hp (by decide) rfl i_X1 (k := 5) (by decide) (in1 (List.mem_of_getElem? (i := 74) rfl) rfl) rfl rfl rfl kk
theorem pf_X0_55 {p : Nat} {v : Int32} {F : Mem → Option ρ} (hC : Ok C cc nL RX0 rm) (d : DD cc pc (.putfield 55) 3 pc') (hp : kd p = 1) (kk : ∀ μ' : Mem, J C K μ' pc' ls st (F μ')) : J C K μ pc ls (.int v :: .ref (xad (cX C) p) :: st) (lb (wI μ p 5 v) F) :=
  J.put tyX1 hC d hp (by decide) rfl i_X1 tyX1_ok nmX1 (k := 5) (ty := .int) (by decide) (in1 (List.mem_of_getElem? (i := 74) rfl) rfl) rfl rfl rfl rfl rfl rfl (by show 5 < 6; decide) (wd_setR (f := upd (μ.1 p) 5 v) hp (by decide) rfl) (kk _)
theorem gf_X4_11 {q : Nat} {p : Nat} (hC : Ok C cc nL RX4 rm) (d : DD cc pc (.getfield 11) 3 pc') (hp : kd p = 4) (hq : p + 1 = q) (kk : J C K μ pc' ls (.ref (xad (cX C) q) :: st) Z) : J C K μ pc ls (.ref (xad (cX C) p) :: st) Z := by
  subst hq
  exact J.get hC d hp (by decide) rfl i_X4 (k := 0) (by decide) (in1 (List.mem_of_getElem? (i := 108) rfl) rfl) rfl rfl rfl kk
theorem gf_X5_43 {q : Nat} {p : Nat} (hC : Ok C cc nL RX5 rm) (d : DD cc pc (.getfield 43) 3 pc') (hp : kd p = 4) (hq : p + 1 = q) (kk : J C K μ pc' ls (.ref (xad (cX C) q) :: st) Z) : J C K μ pc ls (.ref (xad (cX C) p) :: st) Z := by
  subst hq
  exact J.get hC d hp (by decide) rfl i_X4 (k := 0) (by decide) (in1 (List.mem_of_getElem? (i := 109) rfl) rfl) rfl rfl rfl kk
theorem gf_X10_175 {q : Nat} {p : Nat} (hC : Ok C cc nL RX10 rm) (d : DD cc pc (.getfield 175) 3 pc') (hp : kd p = 4) (hq : p + 1 = q) (kk : J C K μ pc' ls (.ref (xad (cX C) q) :: st) Z) : J C K μ pc ls (.ref (xad (cX C) p) :: st) Z := by
  subst hq
  exact J.get hC d hp (by decide) rfl i_X4 (k := 0) (by decide) (in1 (List.mem_of_getElem? (i := 110) rfl) rfl) rfl rfl rfl kk
theorem gf_X4_15 {q : Nat} {p : Nat} (hC : Ok C cc nL RX4 rm) (d : DD cc pc (.getfield 15) 3 pc') (hp : kd p = 4) (hq : p + 2 = q) (kk : J C K μ pc' ls (.ref (xad (cX C) q) :: st) Z) : J C K μ pc ls (.ref (xad (cX C) p) :: st) Z := by
  subst hq
  exact J.get hC d hp (by decide) rfl i_X4 (k := 1) (by decide) (in1 (List.mem_of_getElem? (i := 111) rfl) rfl) rfl rfl rfl kk
theorem gf_X6_45 {q : Nat} {p : Nat} (hC : Ok C cc nL RX6 rm) (d : DD cc pc (.getfield 45) 3 pc') (hp : kd p = 4) (hq : p + 2 = q) (kk : J C K μ pc' ls (.ref (xad (cX C) q) :: st) Z) : J C K μ pc ls (.ref (xad (cX C) p) :: st) Z := by
  subst hq
  exact J.get hC d hp (by decide) rfl i_X4 (k := 1) (by decide) (in1 (List.mem_of_getElem? (i := 112) rfl) rfl) rfl rfl rfl kk
theorem gf_X5_40 {p : Nat} (hC : Ok C cc nL RX5 rm) (d : DD cc pc (.getfield 40) 3 pc') (hp : kd p = 4) (kk : J C K μ pc' ls (.int (rI μ p 2) :: st) Z) : J C K μ pc ls (.ref (xad (cX C) p) :: st) Z :=
  J.get hC d hp (by decide) rfl i_X4 (k := 2) (by decide) (in1 (List.mem_of_getElem? (i := 113) rfl) rfl) rfl rfl rfl kk
theorem pf_X5_40 {p : Nat} {v : Int32} {F : Mem → Option ρ} (hC : Ok C cc nL RX5 rm) (d : DD cc pc (.putfield 40) 3 pc') (hp : kd p = 4) (kk : ∀ μ' : Mem, J C K μ' pc' ls st (F μ')) : J C K μ pc ls (.int v :: .ref (xad (cX C) p) :: st) (lb (wI μ p 2 v) F) :=
  J.put tyX4 hC d hp (by decide) rfl i_X4 tyX4_ok nmX4 (k := 2) (ty := .int) (by decide) (in1 (List.mem_of_getElem? (i := 113) rfl) rfl) rfl rfl rfl rfl rfl rfl (by show 2 < 4; decide) (wd_setR (f := upd (μ.1 p) 2 v) hp (by decide) rfl) (kk _)
theorem gf_X4_18 {p : Nat} (hC : Ok C cc nL RX4 rm) (d : DD cc pc (.getfield 18) 3 pc') (hp : kd p = 4) (kk : J C K μ pc' ls (.int (rI μ p 2) :: st) Z) : J C K μ pc ls (.ref (xad (cX C) p) :: st) Z :=
  J.get hC d hp (by decide) rfl i_X4 (k := 2) (by decide) (in1 (List.mem_of_getElem? (i := 114) rfl) rfl) rfl rfl rfl kk
theorem pf_X4_18 {p : Nat} {v : Int32} {F : Mem → Option ρ} (hC : Ok C cc nL RX4 rm) (d : DD cc pc (.putfield 18) 3 pc') (hp : kd p = 4) (kk : ∀ μ' : Mem, J C K μ' pc' ls st (F μ')) : J C K μ pc ls (.int v :: .ref (xad (cX C) p) :: st) (lb (wI μ p 2 v) F) :=
  J.put tyX4 hC d hp (by decide) rfl i_X4 tyX4_ok nmX4 (k := 2) (ty := .int) (by decide) (in1 (List.mem_of_getElem? (i := 114) rfl) rfl) rfl rfl rfl rfl rfl rfl (by show 2 < 4; decide) (wd_setR (f := upd (μ.1 p) 2 v) hp (by decide) rfl) (kk _)
theorem gf_X10_174 {p : Nat} (hC : Ok C cc nL RX10 rm) (d : DD cc pc (.getfield 174) 3 pc') (hp : kd p = 4) (kk : J C K μ pc' ls (.int (rI μ p 2) :: st) Z) : J C K μ pc ls (.ref (xad (cX C) p) :: st) Z :=
  J.get hC d hp (by decide) rfl i_X4 (k := 2) (by decide) (in1 (List.mem_of_getElem? (i := 115) rfl) rfl) rfl rfl rfl kk
theorem pf_X10_174 {p : Nat} {v : Int32} {F : Mem → Option ρ} (hC : Ok C cc nL RX10 rm) (d : DD cc pc (.putfield 174) 3 pc') (hp : kd p = 4) (kk : ∀ μ' : Mem, J C K μ' pc' ls st (F μ')) : J C K μ pc ls (.int v :: .ref (xad (cX C) p) :: st) (lb (wI μ p 2 v) F) :=
  J.put tyX4 hC d hp (by decide) rfl i_X4 tyX4_ok nmX4 (k := 2) (ty := .int) (by decide) (in1 (List.mem_of_getElem? (i := 115) rfl) rfl) rfl rfl rfl rfl rfl rfl (by show 2 < 4; decide) (wd_setR (f := upd (μ.1 p) 2 v) hp (by decide) rfl) (kk _)
theorem gf_X2_75 {p : Nat} (hC : Ok C cc nL RX2 rm) (d : DD cc pc (.getfield 75) 3 pc') (hp : kd p = 4) (kk : J C K μ pc' ls (.int (rI μ p 3) :: st) Z) : J C K μ pc ls (.ref (xad (cX C) p) :: st) Z :=
  J.get hC d hp (by decide) rfl i_X4 (k := 3) (by decide) (in1 (List.mem_of_getElem? (i := 116) rfl) rfl) rfl rfl rfl kk
theorem pf_X2_75 {p : Nat} {v : Int32} {F : Mem → Option ρ} (hC : Ok C cc nL RX2 rm) (d : DD cc pc (.putfield 75) 3 pc') (hp : kd p = 4) (kk : ∀ μ' : Mem, J C K μ' pc' ls st (F μ')) : J C K μ pc ls (.int v :: .ref (xad (cX C) p) :: st) (lb (wI μ p 3 v) F) :=
  J.put tyX4 hC d hp (by decide) rfl i_X4 tyX4_ok nmX4 (k := 3) (ty := .int) (by decide) (in1 (List.mem_of_getElem? (i := 116) rfl) rfl) rfl rfl rfl rfl rfl rfl (by show 3 < 4; decide) (wd_setR (f := upd (μ.1 p) 3 v) hp (by decide) rfl) (kk _)
theorem gf_X4_29 {p : Nat} (hC : Ok C cc nL RX4 rm) (d : DD cc pc (.getfield 29) 3 pc') (hp : kd p = 4) (kk : J C K μ pc' ls (.int (rI μ p 3) :: st) Z) : J C K μ pc ls (.ref (xad (cX C) p) :: st) Z :=
  J.get hC d hp (by decide) rfl i_X4 (k := 3) (by decide) (in1 (List.mem_of_getElem? (i := 117) rfl) rfl) rfl rfl rfl kk
theorem pf_X4_29 {p : Nat} {v : Int32} {F : Mem → Option ρ} (hC : Ok C cc nL RX4 rm) (d : DD cc pc (.putfield 29) 3 pc') (hp : kd p = 4) (kk : ∀ μ' : Mem, J C K μ' pc' ls st (F μ')) : J C K μ pc ls (.int v :: .ref (xad (cX C) p) :: st) (lb (wI μ p 3 v) F) :=
  J.put tyX4 hC d hp (by decide) rfl i_X4 tyX4_ok nmX4 (k := 3) (ty := .int) (by decide) (in1 (List.mem_of_getElem? (i := 117) rfl) rfl) rfl rfl rfl rfl rfl rfl (by show 3 < 4; decide) (wd_setR (f := upd (μ.1 p) 3 v) hp (by decide) rfl) (kk _)
theorem gf_X10_159 {p : Nat} (hC : Ok C cc nL RX10 rm) (d : DD cc pc (.getfield 159) 3 pc') (hp : kd p = 4) (kk : J C K μ pc' ls (.int (rI μ p 3) :: st) Z) : J C K μ pc ls (.ref (xad (cX C) p) :: st) Z :=
  J.get hC d hp (by decide) rfl i_X4 (k := 3) (by decide) (in1 (List.mem_of_getElem? (i := 118) rfl) rfl) rfl rfl rfl kk
theorem pf_X10_159 {p : Nat} {v : Int32} {F : Mem → Option ρ} (hC : Ok C cc nL RX10 rm) (d : DD cc pc (.putfield 159) 3 pc') (hp : kd p = 4) (kk : ∀ μ' : Mem, J C K μ' pc' ls st (F μ')) : J C K μ pc ls (.int v :: .ref (xad (cX C) p) :: st) (lb (wI μ p 3 v) F) :=
  J.put tyX4 hC d hp (by decide) rfl i_X4 tyX4_ok nmX4 (k := 3) (ty := .int) (by decide) (in1 (List.mem_of_getElem? (i := 118) rfl) rfl) rfl rfl rfl rfl rfl rfl (by show 3 < 4; decide) (wd_setR (f := upd (μ.1 p) 3 v) hp (by decide) rfl) (kk _)
theorem gf_X7_9 {q : Nat} {p : Nat} (hC : Ok C cc nL RX7 rm) (d : DD cc pc (.getfield 9) 3 pc') (hp : kd p = 7) (hq : p + 1 = q) (kk : J C K μ pc' ls (.ref (xad (cX C) q) :: st) Z) : J C K μ pc ls (.ref (xad (cX C) p) :: st) Z := by
  subst hq
  exact J.get hC d hp (by decide) rfl i_X7 (k := 0) (by decide) (in1 (List.mem_of_getElem? (i := 128) rfl) rfl) rfl rfl rfl kk
theorem gf_X7_18 {q : Nat} {p : Nat} (hC : Ok C cc nL RX7 rm) (d : DD cc pc (.getfield 18) 3 pc') (hp : kd p = 7) (hq : p + 2 = q) (kk : J C K μ pc' ls (.ref (xad (cX C) q) :: st) Z) : J C K μ pc ls (.ref (xad (cX C) p) :: st) Z := by
  subst hq
  exact J.get hC d hp (by decide) rfl i_X7 (k := 1) (by decide) (in1 (List.mem_of_getElem? (i := 129) rfl) rfl) rfl rfl rfl kk
theorem gf_X0_66 {q : Nat} {p : Nat} (hC : Ok C cc nL RX0 rm) (d : DD cc pc (.getfield 66) 3 pc') (hp : kd p = 7) (hq : p + 2 = q) (kk : J C K μ pc' ls (.ref (xad (cX C) q) :: st) Z) : J C K μ pc ls (.ref (xad (cX C) p) :: st) Z := by
  subst hq
  exact J.get hC d hp (by decide) rfl i_X7 (k := 1) (by decide) (in1 (List.mem_of_getElem? (i := 130) rfl) rfl) rfl rfl rfl kk
theorem gf_X6_39 {q : Nat} {p : Nat} (hC : Ok C cc nL RX6 rm) (d : DD cc pc (.getfield 39) 3 pc') (hp : kd p = 7) (hq : p + 2 = q) (kk : J C K μ pc' ls (.ref (xad (cX C) q) :: st) Z) : J C K μ pc ls (.ref (xad (cX C) p) :: st) Z := by
  subst hq
  exact J.get hC d hp (by decide) rfl i_X7 (k := 1) (by decide) (in1 (List.mem_of_getElem? (i := 131) rfl) rfl) rfl rfl rfl kk
theorem gf_X10_155 {q : Nat} {p : Nat} (hC : Ok C cc nL RX10 rm) (d : DD cc pc (.getfield 155) 3 pc') (hp : kd p = 7) (hq : p + 2 = q) (kk : J C K μ pc' ls (.ref (xad (cX C) q) :: st) Z) : J C K μ pc ls (.ref (xad (cX C) p) :: st) Z := by
  subst hq
  exact J.get hC d hp (by decide) rfl i_X7 (k := 1) (by decide) (in1 (List.mem_of_getElem? (i := 132) rfl) rfl) rfl rfl rfl kk
theorem gf_X7_22 {p : Nat} (hC : Ok C cc nL RX7 rm) (d : DD cc pc (.getfield 22) 3 pc') (hp : kd p = 7) (kk : J C K μ pc' ls (.int (rI μ p 2) :: st) Z) : J C K μ pc ls (.ref (xad (cX C) p) :: st) Z :=
  J.get hC d hp (by decide) rfl i_X7 (k := 2) (by decide) (in1 (List.mem_of_getElem? (i := 133) rfl) rfl) rfl rfl rfl kk
theorem pf_X7_22 {p : Nat} {v : Int32} {F : Mem → Option ρ} (hC : Ok C cc nL RX7 rm) (d : DD cc pc (.putfield 22) 3 pc') (hp : kd p = 7) (kk : ∀ μ' : Mem, J C K μ' pc' ls st (F μ')) : J C K μ pc ls (.int v :: .ref (xad (cX C) p) :: st) (lb (wI μ p 2 v) F) :=
  J.put tyX7 hC d hp (by decide) rfl i_X7 tyX7_ok nmX7 (k := 2) (ty := .int) (by decide) (in1 (List.mem_of_getElem? (i := 133) rfl) rfl) rfl rfl rfl rfl rfl rfl (by show 2 < 4; decide) (wd_setR (f := upd (μ.1 p) 2 v) hp (by decide) rfl) (kk _)
theorem gf_X10_147 {p : Nat} (hC : Ok C cc nL RX10 rm) (d : DD cc pc (.getfield 147) 3 pc') (hp : kd p = 7) (kk : J C K μ pc' ls (.int (rI μ p 2) :: st) Z) : J C K μ pc ls (.ref (xad (cX C) p) :: st) Z :=
  J.get hC d hp (by decide) rfl i_X7 (k := 2) (by decide) (in1 (List.mem_of_getElem? (i := 134) rfl) rfl) rfl rfl rfl kk
theorem pf_X10_147 {p : Nat} {v : Int32} {F : Mem → Option ρ} (hC : Ok C cc nL RX10 rm) (d : DD cc pc (.putfield 147) 3 pc') (hp : kd p = 7) (kk : ∀ μ' : Mem, J C K μ' pc' ls st (F μ')) : J C K μ pc ls (.int v :: .ref (xad (cX C) p) :: st) (lb (wI μ p 2 v) F) :=
  J.put tyX7 hC d hp (by decide) rfl i_X7 tyX7_ok nmX7 (k := 2) (ty := .int) (by decide) (in1 (List.mem_of_getElem? (i := 134) rfl) rfl) rfl rfl rfl rfl rfl rfl (by show 2 < 4; decide) (wd_setR (f := upd (μ.1 p) 2 v) hp (by decide) rfl) (kk _)
theorem gf_X2_58 {p : Nat} (hC : Ok C cc nL RX2 rm) (d : DD cc pc (.getfield 58) 3 pc') (hp : kd p = 7) (kk : J C K μ pc' ls (.int (rI μ p 3) :: st) Z) : J C K μ pc ls (.ref (xad (cX C) p) :: st) Z :=
  J.get hC d hp (by decide) rfl i_X7 (k := 3) (by decide) (in1 (List.mem_of_getElem? (i := 135) rfl) rfl) rfl rfl rfl kk
theorem pf_X2_58 {p : Nat} {v : Int32} {F : Mem → Option ρ} (hC : Ok C cc nL RX2 rm) (d : DD cc pc (.putfield 58) 3 pc') (hp : kd p = 7) (kk : ∀ μ' : Mem, J C K μ' pc' ls st (F μ')) : J C K μ pc ls (.int v :: .ref (xad (cX C) p) :: st) (lb (wI μ p 3 v) F) :=
  J.put tyX7 hC d hp (by decide) rfl i_X7 tyX7_ok nmX7 (k := 3) (ty := .int) (by decide) (in1 (List.mem_of_getElem? (i := 135) rfl) rfl) rfl rfl rfl rfl rfl rfl (by show 3 < 4; decide) (wd_setR (f := upd (μ.1 p) 3 v) hp (by decide) rfl) (kk _)
theorem gf_X7_30 {p : Nat} (hC : Ok C cc nL RX7 rm) (d : DD cc pc (.getfield 30) 3 pc') (hp : kd p = 7) (kk : J C K μ pc' ls (.int (rI μ p 3) :: st) Z) : J C K μ pc ls (.ref (xad (cX C) p) :: st) Z :=
  J.get hC d hp (by decide) rfl i_X7 (k := 3) (by decide) (in1 (List.mem_of_getElem? (i := 136) rfl) rfl) rfl rfl rfl kk
theorem pf_X7_30 {p : Nat} {v : Int32} {F : Mem → Option ρ} (hC : Ok C cc nL RX7 rm) (d : DD cc pc (.putfield 30) 3 pc') (hp : kd p = 7) (kk : ∀ μ' : Mem, J C K μ' pc' ls st (F μ')) : J C K μ pc ls (.int v :: .ref (xad (cX C) p) :: st) (lb (wI μ p 3 v) F) :=
  J.put tyX7 hC d hp (by decide) rfl i_X7 tyX7_ok nmX7 (k := 3) (ty := .int) (by decide) (in1 (List.mem_of_getElem? (i := 136) rfl) rfl) rfl rfl rfl rfl rfl rfl (by show 3 < 4; decide) (wd_setR (f := upd (μ.1 p) 3 v) hp (by decide) rfl) (kk _)
theorem gf_X0_90 {p : Nat} (hC : Ok C cc nL RX0 rm) (d : DD cc pc (.getfield 90) 3 pc') (hp : kd p = 7) (kk : J C K μ pc' ls (.int (rI μ p 3) :: st) Z) : J C K μ pc ls (.ref (xad (cX C) p) :: st) Z :=
  J.get hC d hp (by decide) rfl i_X7 (k := 3) (by decide) (in1 (List.mem_of_getElem? (i := 137) rfl) rfl) rfl rfl rfl kk
theorem pf_X0_90 {p : Nat} {v : Int32} {F : Mem → Option ρ} (hC : Ok C cc nL RX0 rm) (d : DD cc pc (.putfield 90) 3 pc') (hp : kd p = 7) (kk : ∀ μ' : Mem, J C K μ' pc' ls st (F μ')) : J C K μ pc ls (.int v :: .ref (xad (cX C) p) :: st) (lb (wI μ p 3 v) F) :=
  J.put tyX7 hC d hp (by decide) rfl i_X7 tyX7_ok nmX7 (k := 3) (ty := .int) (by decide) (in1 (List.mem_of_getElem? (i := 137) rfl) rfl) rfl rfl rfl rfl rfl rfl (by show 3 < 4; decide) (wd_setR (f := upd (μ.1 p) 3 v) hp (by decide) rfl) (kk _)
theorem gf_X10_152 {p : Nat} (hC : Ok C cc nL RX10 rm) (d : DD cc pc (.getfield 152) 3 pc') (hp : kd p = 7) (kk : J C K μ pc' ls (.int (rI μ p 3) :: st) Z) : J C K μ pc ls (.ref (xad (cX C) p) :: st) Z :=
  J.get hC d hp (by decide) rfl i_X7 (k := 3) (by decide) (in1 (List.mem_of_getElem? (i := 138) rfl) rfl) rfl rfl rfl kk
theorem pf_X10_152 {p : Nat} {v : Int32} {F : Mem → Option ρ} (hC : Ok C cc nL RX10 rm) (d : DD cc pc (.putfield 152) 3 pc') (hp : kd p = 7) (kk : ∀ μ' : Mem, J C K μ' pc' ls st (F μ')) : J C K μ pc ls (.int v :: .ref (xad (cX C) p) :: st) (lb (wI μ p 3 v) F) :=
  J.put tyX7 hC d hp (by decide) rfl i_X7 tyX7_ok nmX7 (k := 3) (ty := .int) (by decide) (in1 (List.mem_of_getElem? (i := 138) rfl) rfl) rfl rfl rfl rfl rfl rfl (by show 3 < 4; decide) (wd_setR (f := upd (μ.1 p) 3 v) hp (by decide) rfl) (kk _)
theorem gf_X3_11 {q : Nat} {p : Nat} (hC : Ok C cc nL RX3 rm) (d : DD cc pc (.getfield 11) 3 pc') (hp : kd p = 3) (hq : p + 1 = q) (kk : J C K μ pc' ls (.ref (xad (cX C) q) :: st) Z) : J C K μ pc ls (.ref (xad (cX C) p) :: st) Z := by
  subst hq
  exact J.get hC d hp (by decide) rfl i_X3 (k := 0) (by decide) (in1 (List.mem_of_getElem? (i := 154) rfl) rfl) rfl rfl rfl kk
theorem gf_X3_15 {p : Nat} (hC : Ok C cc nL RX3 rm) (d : DD cc pc (.getfield 15) 3 pc') (hp : kd p = 3) (kk : J C K μ pc' ls (.int (rI μ p 1) :: st) Z) : J C K μ pc ls (.ref (xad (cX C) p) :: st) Z :=
  J.get hC d hp (by decide) rfl i_X3 (k := 1) (by decide) (in1 (List.mem_of_getElem? (i := 155) rfl) rfl) rfl rfl rfl kk
theorem pf_X3_15 {p : Nat} {v : Int32} {F : Mem → Option ρ} (hC : Ok C cc nL RX3 rm) (d : DD cc pc (.putfield 15) 3 pc') (hp : kd p = 3) (kk : ∀ μ' : Mem, J C K μ' pc' ls st (F μ')) : J C K μ pc ls (.int v :: .ref (xad (cX C) p) :: st) (lb (wI μ p 1 v) F) :=
  J.put tyX3 hC d hp (by decide) rfl i_X3 tyX3_ok nmX3 (k := 1) (ty := .int) (by decide) (in1 (List.mem_of_getElem? (i := 155) rfl) rfl) rfl rfl rfl rfl rfl rfl (by show 1 < 2; decide) (wd_setR (f := upd (μ.1 p) 1 v) hp (by decide) rfl) (kk _)
theorem gf_X0_45 {p : Nat} (hC : Ok C cc nL RX0 rm) (d : DD cc pc (.getfield 45) 3 pc') (hp : kd p = 3) (kk : J C K μ pc' ls (.int (rI μ p 1) :: st) Z) : J C K μ pc ls (.ref (xad (cX C) p) :: st) Z :=
  J.get hC d hp (by decide) rfl i_X3 (k := 1) (by decide) (in1 (List.mem_of_getElem? (i := 156) rfl) rfl) rfl rfl rfl kk
theorem pf_X0_45 {p : Nat} {v : Int32} {F : Mem → Option ρ} (hC : Ok C cc nL RX0 rm) (d : DD cc pc (.putfield 45) 3 pc') (hp : kd p = 3) (kk : ∀ μ' : Mem, J C K μ' pc' ls st (F μ')) : J C K μ pc ls (.int v :: .ref (xad (cX C) p) :: st) (lb (wI μ p 1 v) F) :=
  J.put tyX3 hC d hp (by decide) rfl i_X3 tyX3_ok nmX3 (k := 1) (ty := .int) (by decide) (in1 (List.mem_of_getElem? (i := 156) rfl) rfl) rfl rfl rfl rfl rfl rfl (by show 1 < 2; decide) (wd_setR (f := upd (μ.1 p) 1 v) hp (by decide) rfl) (kk _)
theorem gf_X0_12 {q : Nat} {p : Nat} (hC : Ok C cc nL RX0 rm) (d : DD cc pc (.getfield 12) 3 pc') (hp : kd p = 0) (hq : p + 1 = q) (kk : J C K μ pc' ls (.ref (xad (cX C) q) :: st) Z) : J C K μ pc ls (.ref (xad (cX C) p) :: st) Z := by
  subst hq
  exact J.get hC d hp (by decide) rfl i_X0 (k := 0) (by decide) (in1 (List.mem_of_getElem? (i := 162) rfl) rfl) rfl rfl rfl kk
theorem gf_X6_35 {q : Nat} {p : Nat} (hC : Ok C cc nL RX6 rm) (d : DD cc pc (.getfield 35) 3 pc') (hp : kd p = 0) (hq : p + 1 = q) (kk : J C K μ pc' ls (.ref (xad (cX C) q) :: st) Z) : J C K μ pc ls (.ref (xad (cX C) p) :: st) Z := by
  subst hq
  exact J.get hC d hp (by decide) rfl i_X0 (k := 0) (by decide) (in1 (List.mem_of_getElem? (i := 163) rfl) rfl) rfl rfl rfl kk
theorem gf_X10_143 {q : Nat} {p : Nat} (hC : Ok C cc nL RX10 rm) (d : DD cc pc (.getfield 143) 3 pc') (hp : kd p = 0) (hq : p + 1 = q) (kk : J C K μ pc' ls (.ref (xad (cX C) q) :: st) Z) : J C K μ pc ls (.ref (xad (cX C) p) :: st) Z := by
  subst hq
  exact J.get hC d hp (by decide) rfl i_X0 (k := 0) (by decide) (in1 (List.mem_of_getElem? (i := 164) rfl) rfl) rfl rfl rfl kk
theorem gf_X0_21 {q : Nat} {p : Nat} (hC : Ok C cc nL RX0 rm) (d : DD cc pc (.getfield 21) 3 pc') (hp : kd p = 0) (hq : p + 29 = q) (kk : J C K μ pc' ls (.ref (xad (cX C) q) :: st) Z) : J C K μ pc ls (.ref (xad (cX C) p) :: st) Z := by
  subst hq
  exact J.get hC d hp (by decide) rfl i_X0 (k := 1) (by decide) (in1 (List.mem_of_getElem? (i := 165) rfl) rfl) rfl rfl rfl kk
theorem gf_X6_54 {q : Nat} {p : Nat} (hC : Ok C cc nL RX6 rm) (d : DD cc pc (.getfield 54) 3 pc') (hp : kd p = 0) (hq : p + 29 = q) (kk : J C K μ pc' ls (.ref (xad (cX C) q) :: st) Z) : J C K μ pc ls (.ref (xad (cX C) p) :: st) Z := by
  subst hq
  exact J.get hC d hp (by decide) rfl i_X0 (k := 1) (by decide) (in1 (List.mem_of_getElem? (i := 166) rfl) rfl) rfl rfl rfl kk
theorem gf_X10_247 {q : Nat} {p : Nat} (hC : Ok C cc nL RX10 rm) (d : DD cc pc (.getfield 247) 3 pc') (hp : kd p = 0) (hq : p + 29 = q) (kk : J C K μ pc' ls (.ref (xad (cX C) q) :: st) Z) : J C K μ pc ls (.ref (xad (cX C) p) :: st) Z := by
  subst hq
  exact J.get hC d hp (by decide) rfl i_X0 (k := 1) (by decide) (in1 (List.mem_of_getElem? (i := 167) rfl) rfl) rfl rfl rfl kk
theorem gf_X0_31 {p : Nat} (hC : Ok C cc nL RX0 rm) (d : DD cc pc (.getfield 31) 3 pc') (hp : kd p = 0) (kk : J C K μ pc' ls (.int (rI μ p 2) :: st) Z) : J C K μ pc ls (.ref (xad (cX C) p) :: st) Z :=
  J.get hC d hp (by decide) rfl i_X0 (k := 2) (by decide) (in1 (List.mem_of_getElem? (i := 168) rfl) rfl) rfl rfl rfl kk
theorem pf_X0_31 {p : Nat} {v : Int32} {F : Mem → Option ρ} (hC : Ok C cc nL RX0 rm) (d : DD cc pc (.putfield 31) 3 pc') (hp : kd p = 0) (kk : ∀ μ' : Mem, J C K μ' pc' ls st (F μ')) : J C K μ pc ls (.int v :: .ref (xad (cX C) p) :: st) (lb (wI μ p 2 v) F) :=
  J.put tyX0 hC d hp (by decide) rfl i_X0 tyX0_ok nmX0 (k := 2) (ty := .int) (by decide) (in1 (List.mem_of_getElem? (i := 168) rfl) rfl) rfl rfl rfl rfl rfl rfl (by show 2 < 6; decide) (wd_setR (f := upd (μ.1 p) 2 v) hp (by decide) rfl) (kk _)
theorem gf_X10_116 {p : Nat} (hC : Ok C cc nL RX10 rm) (d : DD cc pc (.getfield 116) 3 pc') (hp : kd p = 0) (kk : J C K μ pc' ls (.int (rI μ p 2) :: st) Z) : J C K μ pc ls (.ref (xad (cX C) p) :: st) Z :=
  J.get hC d hp (by decide) rfl i_X0 (k := 2) (by decide) (in1 (List.mem_of_getElem? (i := 169) rfl) rfl) rfl rfl rfl kk
theorem pf_X10_116 {p : Nat} {v : Int32} {F : Mem → Option ρ} (hC : Ok C cc nL RX10 rm) (d : DD cc pc (.putfield 116) 3 pc') (hp : kd p = 0) (kk : ∀ μ' : Mem, J C K μ' pc' ls st (F μ')) : J C K μ pc ls (.int v :: .ref (xad (cX C) p) :: st) (lb (wI μ p 2 v) F) :=
  J.put tyX0 hC d hp (by decide) rfl i_X0 tyX0_ok nmX0 (k := 2) (ty := .int) (by decide) (in1 (List.mem_of_getElem? (i := 169) rfl) rfl) rfl rfl rfl rfl rfl rfl (by show 2 < 6; decide) (wd_setR (f := upd (μ.1 p) 2 v) hp (by decide) rfl) (kk _)
theorem gf_X0_36 {p : Nat} (hC : Ok C cc nL RX0 rm) (d : DD cc pc (.getfield 36) 3 pc') (hp : kd p = 0) (kk : J C K μ pc' ls (.int (rI μ p 3) :: st) Z) : J C K μ pc ls (.ref (xad (cX C) p) :: st) Z :=
  J.get hC d hp (by decide) rfl i_X0 (k := 3) (by decide) (in1 (List.mem_of_getElem? (i := 170) rfl) rfl) rfl rfl rfl kk
theorem pf_X0_36 {p : Nat} {v : Int32} {F : Mem → Option ρ} (hC : Ok C cc nL RX0 rm) (d : DD cc pc (.putfield 36) 3 pc') (hp : kd p = 0) (kk : ∀ μ' : Mem, J C K μ' pc' ls st (F μ')) : J C K μ pc ls (.int v :: .ref (xad (cX C) p) :: st) (lb (wI μ p 3 v) F) :=
  J.put tyX0 hC d hp (by decide) rfl i_X0 tyX0_ok nmX0 (k := 3) (ty := .int) (by decide) (in1 (List.mem_of_getElem? (i := 170) rfl) rfl) rfl rfl rfl rfl rfl rfl (by show 3 < 6; decide) (wd_setR (f := upd (μ.1 p) 3 v) hp (by decide) rfl) (kk _)
theorem gf_X10_123 {p : Nat} (hC : Ok C cc nL RX10 rm) (d : DD cc pc (.getfield 123) 3 pc') (hp : kd p = 0) (kk : J C K μ pc' ls (.int (rI μ p 3) :: st) Z) : J C K μ pc ls (.ref (xad (cX C) p) :: st) Z :=
  J.get hC d hp (by decide) rfl i_X0 (k := 3) (by decide) (in1 (List.mem_of_getElem? (i := 171) rfl) rfl) rfl rfl rfl kk
theorem pf_X10_123 {p : Nat} {v : Int32} {F : Mem → Option ρ} (hC : Ok C cc nL RX10 rm) (d : DD cc pc (.putfield 123) 3 pc') (hp : kd p = 0) (kk : ∀ μ' : Mem, J C K μ' pc' ls st (F μ')) : J C K μ pc ls (.int v :: .ref (xad (cX C) p) :: st) (lb (wI μ p 3 v) F) :=
  J.put tyX0 hC d hp (by decide) rfl i_X0 tyX0_ok nmX0 (k := 3) (ty := .int) (by decide) (in1 (List.mem_of_getElem? (i := 171) rfl) rfl) rfl rfl rfl rfl rfl rfl (by show 3 < 6; decide) (wd_setR (f := upd (μ.1 p) 3 v) hp (by decide) rfl) (kk _)
theorem gf_X0_39 {p : Nat} (hC : Ok C cc nL RX0 rm) (d : DD cc pc (.getfield 39) 3 pc') (hp : kd p = 0) (kk : J C K μ pc' ls (.int (rI μ p 4) :: st) Z) : J C K μ pc ls (.ref (xad (cX C) p) :: st) Z :=
  J.get hC d hp (by decide) rfl i_X0 (k := 4) (by decide) (in1 (List.mem_of_getElem? (i := 172) rfl) rfl) rfl rfl rfl kk
theorem pf_X0_39 {p : Nat} {v : Int32} {F : Mem → Option ρ} (hC : Ok C cc nL RX0 rm) (d : DD cc pc (.putfield 39) 3 pc') (hp : kd p = 0) (kk : ∀ μ' : Mem, J C K μ' pc' ls st (F μ')) : J C K μ pc ls (.int v :: .ref (xad (cX C) p) :: st) (lb (wI μ p 4 v) F) :=
  J.put tyX0 hC d hp (by decide) rfl i_X0 tyX0_ok nmX0 (k := 4) (ty := .int) (by decide) (in1 (List.mem_of_getElem? (i := 172) rfl) rfl) rfl rfl rfl rfl rfl rfl (by show 4 < 6; decide) (wd_setR (f := upd (μ.1 p) 4 v) hp (by decide) rfl) (kk _)
theorem gf_X10_126 {p : Nat} (hC : Ok C cc nL RX10 rm) (d : DD cc pc (.getfield 126) 3 pc') (hp : kd p = 0) (kk : J C K μ pc' ls (.int (rI μ p 4) :: st) Z) : J C K μ pc ls (.ref (xad (cX C) p) :: st) Z :=
  J.get hC d hp (by decide) rfl i_X0 (k := 4) (by decide) (in1 (List.mem_of_getElem? (i := 173) rfl) rfl) rfl rfl rfl kk
theorem pf_X10_126 {p : Nat} {v : Int32} {F : Mem → Option ρ} (hC : Ok C cc nL RX10 rm) (d : DD cc pc (.putfield 126) 3 pc') (hp : kd p = 0) (kk : ∀ μ' : Mem, J C K μ' pc' ls st (F μ')) : J C K μ pc ls (.int v :: .ref (xad (cX C) p) :: st) (lb (wI μ p 4 v) F) :=
  J.put tyX0 hC d hp (by decide) rfl i_X0 tyX0_ok nmX0 (k := 4) (ty := .int) (by decide) (in1 (List.mem_of_getElem? (i := 173) rfl) rfl) rfl rfl rfl rfl rfl rfl (by show 4 < 6; decide) (wd_setR (f := upd (μ.1 p) 4 v) hp (by decide) rfl) (kk _)
theorem gf_X0_42 {p : Nat} (hC : Ok C cc nL RX0 rm) (d : DD cc pc (.getfield 42) 3 pc') (hp : kd p = 0) (kk : J C K μ pc' ls (.int (rI μ p 5) :: st) Z) : J C K μ pc ls (.ref (xad (cX C) p) :: st) Z :=
  J.get hC d hp (by decide) rfl i_X0 (k := 5) (by decide) (in1 (List.mem_of_getElem? (i := 174) rfl) rfl) rfl rfl rfl kk
theorem pf_X0_42 {p : Nat} {v : Int32} {F : Mem → Option ρ} (hC : Ok C cc nL RX0 rm) (d : DD cc pc (.putfield 42) 3 pc') (hp : kd p = 0) (kk : ∀ μ' : Mem, J C K μ' pc' ls st (F μ')) : J C K μ pc ls (.int v :: .ref (xad (cX C) p) :: st) (lb (wI μ p 5 v) F) :=
  J.put tyX0 hC d hp (by decide) rfl i_X0 tyX0_ok nmX0 (k := 5) (ty := .int) (by decide) (in1 (List.mem_of_getElem? (i := 174) rfl) rfl) rfl rfl rfl rfl rfl rfl (by show 5 < 6; decide) (wd_setR (f := upd (μ.1 p) 5 v) hp (by decide) rfl) (kk _)
theorem gf_X6_30 {p : Nat} (hC : Ok C cc nL RX6 rm) (d : DD cc pc (.getfield 30) 3 pc') (hp : kd p = 0) (kk : J C K μ pc' ls (.int (rI μ p 5) :: st) Z) : J C K μ pc ls (.ref (xad (cX C) p) :: st) Z :=
  J.get hC d hp (by decide) rfl i_X0 (k := 5) (by decide) (in1 (List.mem_of_getElem? (i := 175) rfl) rfl) rfl rfl rfl kk
theorem pf_X6_30 {p : Nat} {v : Int32} {F : Mem → Option ρ} (hC : Ok C cc nL RX6 rm) (d : DD cc pc (.putfield 30) 3 pc') (hp : kd p = 0) (kk : ∀ μ' : Mem, J C K μ' pc' ls st (F μ')) : J C K μ pc ls (.int v :: .ref (xad (cX C) p) :: st) (lb (wI μ p 5 v) F) :=
  J.put tyX0 hC d hp (by decide) rfl i_X0 tyX0_ok nmX0 (k := 5) (ty := .int) (by decide) (in1 (List.mem_of_getElem? (i := 175) rfl) rfl) rfl rfl rfl rfl rfl rfl (by show 5 < 6; decide) (wd_setR (f := upd (μ.1 p) 5 v) hp (by decide) rfl) (kk _)
theorem gf_X10_129 {p : Nat} (hC : Ok C cc nL RX10 rm) (d : DD cc pc (.getfield 129) 3 pc') (hp : kd p = 0) (kk : J C K μ pc' ls (.int (rI μ p 5) :: st) Z) : J C K μ pc ls (.ref (xad (cX C) p) :: st) Z :=
  J.get hC d hp (by decide) rfl i_X0 (k := 5) (by decide) (in1 (List.mem_of_getElem? (i := 176) rfl) rfl) rfl rfl rfl kk
theorem pf_X10_129 {p : Nat} {v : Int32} {F : Mem → Option ρ} (hC : Ok C cc nL RX10 rm) (d : DD cc pc (.putfield 129) 3 pc') (hp : kd p = 0) (kk : ∀ μ' : Mem, J C K μ' pc' ls st (F μ')) : J C K μ pc ls (.int v :: .ref (xad (cX C) p) :: st) (lb (wI μ p 5 v) F) :=
  J.put tyX0 hC d hp (by decide) rfl i_X0 tyX0_ok nmX0 (k := 5) (ty := .int) (by decide) (in1 (List.mem_of_getElem? (i := 176) rfl) rfl) rfl rfl rfl rfl rfl rfl (by show 5 < 6; decide) (wd_setR (f := upd (μ.1 p) 5 v) hp (by decide) rfl) (kk _)
theorem gf_X9_9 {q : Nat} {p : Nat} (hC : Ok C cc nL RX9 rm) (d : DD cc pc (.getfield 9) 3 pc') (hp : kd p = 9) (hq : p + 1 = q) (kk : J C K μ pc' ls (.ref (xad (cX C) q) :: st) Z) : J C K μ pc ls (.ref (xad (cX C) p) :: st) Z := by
  subst hq
  exact J.get hC d hp (by decide) rfl i_X9 (k := 0) (by decide) (in1 (List.mem_of_getElem? (i := 197) rfl) rfl) rfl rfl rfl kk
theorem gf_X10_373 {q : Nat} {p : Nat} (hC : Ok C cc nL RX10 rm) (d : DD cc pc (.getfield 373) 3 pc') (hp : kd p = 9) (hq : p + 1 = q) (kk : J C K μ pc' ls (.ref (xad (cX C) q) :: st) Z) : J C K μ pc ls (.ref (xad (cX C) p) :: st) Z := by
  subst hq
  exact J.get hC d hp (by decide) rfl i_X9 (k := 0) (by decide) (in1 (List.mem_of_getElem? (i := 198) rfl) rfl) rfl rfl rfl kk
theorem gf_X9_15 {q : Nat} {p : Nat} (hC : Ok C cc nL RX9 rm) (d : DD cc pc (.getfield 15) 3 pc') (hp : kd p = 9) (hq : p + 2 = q) (kk : J C K μ pc' ls (.ref (xad (cX C) q) :: st) Z) : J C K μ pc ls (.ref (xad (cX C) p) :: st) Z := by
  subst hq
  exact J.get hC d hp (by decide) rfl i_X9 (k := 1) (by decide) (in1 (List.mem_of_getElem? (i := 199) rfl) rfl) rfl rfl rfl kk
theorem gf_X2_28 {q : Nat} {p : Nat} (hC : Ok C cc nL RX2 rm) (d : DD cc pc (.getfield 28) 3 pc') (hp : kd p = 9) (hq : p + 2 = q) (kk : J C K μ pc' ls (.ref (xad (cX C) q) :: st) Z) : J C K μ pc ls (.ref (xad (cX C) p) :: st) Z := by
  subst hq
  exact J.get hC d hp (by decide) rfl i_X9 (k := 1) (by decide) (in1 (List.mem_of_getElem? (i := 200) rfl) rfl) rfl rfl rfl kk
theorem gf_X10_376 {q : Nat} {p : Nat} (hC : Ok C cc nL RX10 rm) (d : DD cc pc (.getfield 376) 3 pc') (hp : kd p = 9) (hq : p + 2 = q) (kk : J C K μ pc' ls (.ref (xad (cX C) q) :: st) Z) : J C K μ pc ls (.ref (xad (cX C) p) :: st) Z := by
  subst hq
  exact J.get hC d hp (by decide) rfl i_X9 (k := 1) (by decide) (in1 (List.mem_of_getElem? (i := 201) rfl) rfl) rfl rfl rfl kk
theorem gf_X9_18 {q : Nat} {p : Nat} (hC : Ok C cc nL RX9 rm) (d : DD cc pc (.getfield 18) 3 pc') (hp : kd p = 9) (hq : p + 3 = q) (kk : J C K μ pc' ls (.ref (xad (cX C) q) :: st) Z) : J C K μ pc ls (.ref (xad (cX C) p) :: st) Z := by
  subst hq
  exact J.get hC d hp (by decide) rfl i_X9 (k := 2) (by decide) (in1 (List.mem_of_getElem? (i := 202) rfl) rfl) rfl rfl rfl kk
theorem gf_X2_72 {q : Nat} {p : Nat} (hC : Ok C cc nL RX2 rm) (d : DD cc pc (.getfield 72) 3 pc') (hp : kd p = 9) (hq : p + 3 = q) (kk : J C K μ pc' ls (.ref (xad (cX C) q) :: st) Z) : J C K μ pc ls (.ref (xad (cX C) p) :: st) Z := by
  subst hq
  exact J.get hC d hp (by decide) rfl i_X9 (k := 2) (by decide) (in1 (List.mem_of_getElem? (i := 203) rfl) rfl) rfl rfl rfl kk
theorem gf_X10_379 {q : Nat} {p : Nat} (hC : Ok C cc nL RX10 rm) (d : DD cc pc (.getfield 379) 3 pc') (hp : kd p = 9) (hq : p + 3 = q) (kk : J C K μ pc' ls (.ref (xad (cX C) q) :: st) Z) : J C K μ pc ls (.ref (xad (cX C) p) :: st) Z := by
  subst hq
  exact J.get hC d hp (by decide) rfl i_X9 (k := 2) (by decide) (in1 (List.mem_of_getElem? (i := 204) rfl) rfl) rfl rfl rfl kk
theorem gf_X9_21 {q : Nat} {p : Nat} (hC : Ok C cc nL RX9 rm) (d : DD cc pc (.getfield 21) 3 pc') (hp : kd p = 9) (hq : p + 4 = q) (kk : J C K μ pc' ls (.ref (xad (cX C) q) :: st) Z) : J C K μ pc ls (.ref (xad (cX C) p) :: st) Z := by
  subst hq
  exact J.get hC d hp (by decide) rfl i_X9 (k := 3) (by decide) (in1 (List.mem_of_getElem? (i := 205) rfl) rfl) rfl rfl rfl kk
theorem gf_X10_382 {q : Nat} {p : Nat} (hC : Ok C cc nL RX10 rm) (d : DD cc pc (.getfield 382) 3 pc') (hp : kd p = 9) (hq : p + 4 = q) (kk : J C K μ pc' ls (.ref (xad (cX C) q) :: st) Z) : J C K μ pc ls (.ref (xad (cX C) p) :: st) Z := by
  subst hq
  exact J.get hC d hp (by decide) rfl i_X9 (k := 3) (by decide) (in1 (List.mem_of_getElem? (i := 206) rfl) rfl) rfl rfl rfl kk
theorem gf_X9_29 {p : Nat} (hC : Ok C cc nL RX9 rm) (d : DD cc pc (.getfield 29) 3 pc') (hp : kd p = 9) (kk : J C K μ pc' ls (.int (rI μ p 4) :: st) Z) : J C K μ pc ls (.ref (xad (cX C) p) :: st) Z :=
  J.get hC d hp (by decide) rfl i_X9 (k := 4) (by decide) (in1 (List.mem_of_getElem? (i := 207) rfl) rfl) rfl rfl rfl kk
theorem pf_X9_29 {p : Nat} {v : Int32} {F : Mem → Option ρ} (hC : Ok C cc nL RX9 rm) (d : DD cc pc (.putfield 29) 3 pc') (hp : kd p = 9) (kk : ∀ μ' : Mem, J C K μ' pc' ls st (F μ')) : J C K μ pc ls (.int v :: .ref (xad (cX C) p) :: st) (lb (wI μ p 4 v) F) :=
  J.put tyX9 hC d hp (by decide) rfl i_X9 tyX9_ok nmX9 (k := 4) (ty := .int) (by decide) (in1 (List.mem_of_getElem? (i := 207) rfl) rfl) rfl rfl rfl rfl rfl rfl (by show 4 < 5; decide) (wd_setR (f := upd (μ.1 p) 4 v) hp (by decide) rfl) (kk _)
theorem gf_X2_23 {p : Nat} (hC : Ok C cc nL RX2 rm) (d : DD cc pc (.getfield 23) 3 pc') (hp : kd p = 9) (kk : J C K μ pc' ls (.int (rI μ p 4) :: st) Z) : J C K μ pc ls (.ref (xad (cX C) p) :: st) Z :=
  J.get hC d hp (by decide) rfl i_X9 (k := 4) (by decide) (in1 (List.mem_of_getElem? (i := 208) rfl) rfl) rfl rfl rfl kk
theorem pf_X2_23 {p : Nat} {v : Int32} {F : Mem → Option ρ} (hC : Ok C cc nL RX2 rm) (d : DD cc pc (.putfield 23) 3 pc') (hp : kd p = 9) (kk : ∀ μ' : Mem, J C K μ' pc' ls st (F μ')) : J C K μ pc ls (.int v :: .ref (xad (cX C) p) :: st) (lb (wI μ p 4 v) F) :=
  J.put tyX9 hC d hp (by decide) rfl i_X9 tyX9_ok nmX9 (k := 4) (ty := .int) (by decide) (in1 (List.mem_of_getElem? (i := 208) rfl) rfl) rfl rfl rfl rfl rfl rfl (by show 4 < 5; decide) (wd_setR (f := upd (μ.1 p) 4 v) hp (by decide) rfl) (kk _)
theorem gf_X10_372 {p : Nat} (hC : Ok C cc nL RX10 rm) (d : DD cc pc (.getfield 372) 3 pc') (hp : kd p = 9) (kk : J C K μ pc' ls (.int (rI μ p 4) :: st) Z) : J C K μ pc ls (.ref (xad (cX C) p) :: st) Z :=
  J.get hC d hp (by decide) rfl i_X9 (k := 4) (by decide) (in1 (List.mem_of_getElem? (i := 209) rfl) rfl) rfl rfl rfl kk
theorem pf_X10_372 {p : Nat} {v : Int32} {F : Mem → Option ρ} (hC : Ok C cc nL RX10 rm) (d : DD cc pc (.putfield 372) 3 pc') (hp : kd p = 9) (kk : ∀ μ' : Mem, J C K μ' pc' ls st (F μ')) : J C K μ pc ls (.int v :: .ref (xad (cX C) p) :: st) (lb (wI μ p 4 v) F) :=
  J.put tyX9 hC d hp (by decide) rfl i_X9 tyX9_ok nmX9 (k := 4) (ty := .int) (by decide) (in1 (List.mem_of_getElem? (i := 209) rfl) rfl) rfl rfl rfl rfl rfl rfl (by show 4 < 5; decide) (wd_setR (f := upd (μ.1 p) 4 v) hp (by decide) rfl) (kk _)
theorem gf_X6_13 {q : Nat} {p : Nat} (hC : Ok C cc nL RX6 rm) (d : DD cc pc (.getfield 13) 3 pc') (hp : kd p = 6) (hq : p + 1 = q) (kk : J C K μ pc' ls (.ref (xad (cX C) q) :: st) Z) : J C K μ pc ls (.ref (xad (cX C) p) :: st) Z := by
  subst hq
  exact J.get hC d hp (by decide) rfl i_X6 (k := 0) (by decide) (in1 (List.mem_of_getElem? (i := 227) rfl) rfl) rfl rfl rfl kk
theorem gf_X6_17 {p : Nat} (hC : Ok C cc nL RX6 rm) (d : DD cc pc (.getfield 17) 3 pc') (hp : kd p = 6) (kk : J C K μ pc' ls (.int (rI μ p 1) :: st) Z) : J C K μ pc ls (.ref (xad (cX C) p) :: st) Z :=
  J.get hC d hp (by decide) rfl i_X6 (k := 1) (by decide) (in1 (List.mem_of_getElem? (i := 228) rfl) rfl) rfl rfl rfl kk
theorem pf_X6_17 {p : Nat} {v : Int32} {F : Mem → Option ρ} (hC : Ok C cc nL RX6 rm) (d : DD cc pc (.putfield 17) 3 pc') (hp : kd p = 6) (kk : ∀ μ' : Mem, J C K μ' pc' ls st (F μ')) : J C K μ pc ls (.int v :: .ref (xad (cX C) p) :: st) (lb (wI μ p 1 v) F) :=
  J.put tyX6 hC d hp (by decide) rfl i_X6 tyX6_ok nmX6 (k := 1) (ty := .int) (by decide) (in1 (List.mem_of_getElem? (i := 228) rfl) rfl) rfl rfl rfl rfl rfl rfl (by show 1 < 3; decide) (wd_setR (f := upd (μ.1 p) 1 v) hp (by decide) rfl) (kk _)
theorem gf_X10_291 {p : Nat} (hC : Ok C cc nL RX10 rm) (d : DD cc pc (.getfield 291) 3 pc') (hp : kd p = 6) (kk : J C K μ pc' ls (.int (rI μ p 1) :: st) Z) : J C K μ pc ls (.ref (xad (cX C) p) :: st) Z :=
  J.get hC d hp (by decide) rfl i_X6 (k := 1) (by decide) (in1 (List.mem_of_getElem? (i := 229) rfl) rfl) rfl rfl rfl kk
theorem pf_X10_291 {p : Nat} {v : Int32} {F : Mem → Option ρ} (hC : Ok C cc nL RX10 rm) (d : DD cc pc (.putfield 291) 3 pc') (hp : kd p = 6) (kk : ∀ μ' : Mem, J C K μ' pc' ls st (F μ')) : J C K μ pc ls (.int v :: .ref (xad (cX C) p) :: st) (lb (wI μ p 1 v) F) :=
  J.put tyX6 hC d hp (by decide) rfl i_X6 tyX6_ok nmX6 (k := 1) (ty := .int) (by decide) (in1 (List.mem_of_getElem? (i := 229) rfl) rfl) rfl rfl rfl rfl rfl rfl (by show 1 < 3; decide) (wd_setR (f := upd (μ.1 p) 1 v) hp (by decide) rfl) (kk _)
theorem gf_X6_21 {p : Nat} (hC : Ok C cc nL RX6 rm) (d : DD cc pc (.getfield 21) 3 pc') (hp : kd p = 6) (kk : J C K μ pc' ls (.int (rI μ p 2) :: st) Z) : J C K μ pc ls (.ref (xad (cX C) p) :: st) Z :=
  J.get hC d hp (by decide) rfl i_X6 (k := 2) (by decide) (in1 (List.mem_of_getElem? (i := 230) rfl) rfl) rfl rfl rfl kk
theorem pf_X6_21 {p : Nat} {v : Int32} {F : Mem → Option ρ} (hC : Ok C cc nL RX6 rm) (d : DD cc pc (.putfield 21) 3 pc') (hp : kd p = 6) (kk : ∀ μ' : Mem, J C K μ' pc' ls st (F μ')) : J C K μ pc ls (.int v :: .ref (xad (cX C) p) :: st) (lb (wI μ p 2 v) F) :=
  J.put tyX6 hC d hp (by decide) rfl i_X6 tyX6_ok nmX6 (k := 2) (ty := .int) (by decide) (in1 (List.mem_of_getElem? (i := 230) rfl) rfl) rfl rfl rfl rfl rfl rfl (by show 2 < 3; decide) (wd_setR (f := upd (μ.1 p) 2 v) hp (by decide) rfl) (kk _)
theorem gf_X5_9 {q : Nat} {p : Nat} (hC : Ok C cc nL RX5 rm) (d : DD cc pc (.getfield 9) 3 pc') (hp : kd p = 5) (hq : p + 1 = q) (kk : J C K μ pc' ls (.ref (xad (cX C) q) :: st) Z) : J C K μ pc ls (.ref (xad (cX C) p) :: st) Z := by
  subst hq
  exact J.get hC d hp (by decide) rfl i_X5 (k := 0) (by decide) (in2 (List.mem_of_getElem? (i := 4) rfl) rfl) rfl rfl rfl kk
theorem gf_X5_15 {q : Nat} {p : Nat} (hC : Ok C cc nL RX5 rm) (d : DD cc pc (.getfield 15) 3 pc') (hp : kd p = 5) (hq : p + 2 = q) (kk : J C K μ pc' ls (.ref (xad (cX C) q) :: st) Z) : J C K μ pc ls (.ref (xad (cX C) p) :: st) Z := by
  subst hq
  exact J.get hC d hp (by decide) rfl i_X5 (k := 1) (by decide) (in2 (List.mem_of_getElem? (i := 5) rfl) rfl) rfl rfl rfl kk
theorem gf_X5_18 {q : Nat} {p : Nat} (hC : Ok C cc nL RX5 rm) (d : DD cc pc (.getfield 18) 3 pc') (hp : kd p = 5) (hq : p + 3 = q) (kk : J C K μ pc' ls (.ref (xad (cX C) q) :: st) Z) : J C K μ pc ls (.ref (xad (cX C) p) :: st) Z := by
  subst hq
  exact J.get hC d hp (by decide) rfl i_X5 (k := 2) (by decide) (in2 (List.mem_of_getElem? (i := 6) rfl) rfl) rfl rfl rfl kk
theorem gf_X5_33 {p : Nat} (hC : Ok C cc nL RX5 rm) (d : DD cc pc (.getfield 33) 3 pc') (hp : kd p = 5) (kk : J C K μ pc' ls (.int (rI μ p 3) :: st) Z) : J C K μ pc ls (.ref (xad (cX C) p) :: st) Z :=
  J.get hC d hp (by decide) rfl i_X5 (k := 3) (by decide) (in2 (List.mem_of_getElem? (i := 7) rfl) rfl) rfl rfl rfl kk
theorem pf_X5_33 {p : Nat} {v : Int32} {F : Mem → Option ρ} (hC : Ok C cc nL RX5 rm) (d : DD cc pc (.putfield 33) 3 pc') (hp : kd p = 5) (kk : ∀ μ' : Mem, J C K μ' pc' ls st (F μ')) : J C K μ pc ls (.int v :: .ref (xad (cX C) p) :: st) (lb (wI μ p 3 v) F) :=
  J.put tyX5 hC d hp (by decide) rfl i_X5 tyX5_ok nmX5 (k := 3) (ty := .int) (by decide) (in2 (List.mem_of_getElem? (i := 7) rfl) rfl) rfl rfl rfl rfl rfl rfl (by show 3 < 6; decide) (wd_setR (f := upd (μ.1 p) 3 v) hp (by decide) rfl) (kk _)
theorem gf_X5_26 {p : Nat} (hC : Ok C cc nL RX5 rm) (d : DD cc pc (.getfield 26) 3 pc') (hp : kd p = 5) (kk : J C K μ pc' ls (.int (rI μ p 4) :: st) Z) : J C K μ pc ls (.ref (xad (cX C) p) :: st) Z :=
  J.get hC d hp (by decide) rfl i_X5 (k := 4) (by decide) (in2 (List.mem_of_getElem? (i := 8) rfl) rfl) rfl rfl rfl kk
theorem pf_X5_26 {p : Nat} {v : Int32} {F : Mem → Option ρ} (hC : Ok C cc nL RX5 rm) (d : DD cc pc (.putfield 26) 3 pc') (hp : kd p = 5) (kk : ∀ μ' : Mem, J C K μ' pc' ls st (F μ')) : J C K μ pc ls (.int v :: .ref (xad (cX C) p) :: st) (lb (wI μ p 4 v) F) :=
  J.put tyX5 hC d hp (by decide) rfl i_X5 tyX5_ok nmX5 (k := 4) (ty := .int) (by decide) (in2 (List.mem_of_getElem? (i := 8) rfl) rfl) rfl rfl rfl rfl rfl rfl (by show 4 < 6; decide) (wd_setR (f := upd (μ.1 p) 4 v) hp (by decide) rfl) (kk _)
theorem gf_X10_212 {p : Nat} (hC : Ok C cc nL RX10 rm) (d : DD cc pc (.getfield 212) 3 pc') (hp : kd p = 5) (kk : J C K μ pc' ls (.int (rI μ p 4) :: st) Z) : J C K μ pc ls (.ref (xad (cX C) p) :: st) Z :=
  J.get hC d hp (by decide) rfl i_X5 (k := 4) (by decide) (in2 (List.mem_of_getElem? (i := 9) rfl) rfl) rfl rfl rfl kk
theorem pf_X10_212 {p : Nat} {v : Int32} {F : Mem → Option ρ} (hC : Ok C cc nL RX10 rm) (d : DD cc pc (.putfield 212) 3 pc') (hp : kd p = 5) (kk : ∀ μ' : Mem, J C K μ' pc' ls st (F μ')) : J C K μ pc ls (.int v :: .ref (xad (cX C) p) :: st) (lb (wI μ p 4 v) F) :=
  J.put tyX5 hC d hp (by decide) rfl i_X5 tyX5_ok nmX5 (k := 4) (ty := .int) (by decide) (in2 (List.mem_of_getElem? (i := 9) rfl) rfl) rfl rfl rfl rfl rfl rfl (by show 4 < 6; decide) (wd_setR (f := upd (μ.1 p) 4 v) hp (by decide) rfl) (kk _)
theorem gf_X5_30 {p : Nat} (hC : Ok C cc nL RX5 rm) (d : DD cc pc (.getfield 30) 3 pc') (hp : kd p = 5) (kk : J C K μ pc' ls (.int (rI μ p 5) :: st) Z) : J C K μ pc ls (.ref (xad (cX C) p) :: st) Z :=
  J.get hC d hp (by decide) rfl i_X5 (k := 5) (by decide) (in2 (List.mem_of_getElem? (i := 10) rfl) rfl) rfl rfl rfl kk
theorem pf_X5_30 {p : Nat} {v : Int32} {F : Mem → Option ρ} (hC : Ok C cc nL RX5 rm) (d : DD cc pc (.putfield 30) 3 pc') (hp : kd p = 5) (kk : ∀ μ' : Mem, J C K μ' pc' ls st (F μ')) : J C K μ pc ls (.int v :: .ref (xad (cX C) p) :: st) (lb (wI μ p 5 v) F) :=
  J.put tyX5 hC d hp (by decide) rfl i_X5 tyX5_ok nmX5 (k := 5) (ty := .int) (by decide) (in2 (List.mem_of_getElem? (i := 10) rfl) rfl) rfl rfl rfl rfl rfl rfl (by show 5 < 6; decide) (wd_setR (f := upd (μ.1 p) 5 v) hp (by decide) rfl) (kk _)
theorem gf_X10_215 {p : Nat} (hC : Ok C cc nL RX10 rm) (d : DD cc pc (.getfield 215) 3 pc') (hp : kd p = 5) (kk : J C K μ pc' ls (.int (rI μ p 5) :: st) Z) : J C K μ pc ls (.ref (xad (cX C) p) :: st) Z :=
  J.get hC d hp (by decide) rfl i_X5 (k := 5) (by decide) (in2 (List.mem_of_getElem? (i := 11) rfl) rfl) rfl rfl rfl kk
theorem pf_X10_215 {p : Nat} {v : Int32} {F : Mem → Option ρ} (hC : Ok C cc nL RX10 rm) (d : DD cc pc (.putfield 215) 3 pc') (hp : kd p = 5) (kk : ∀ μ' : Mem, J C K μ' pc' ls st (F μ')) : J C K μ pc ls (.int v :: .ref (xad (cX C) p) :: st) (lb (wI μ p 5 v) F) :=
  J.put tyX5 hC d hp (by decide) rfl i_X5 tyX5_ok nmX5 (k := 5) (ty := .int) (by decide) (in2 (List.mem_of_getElem? (i := 11) rfl) rfl) rfl rfl rfl rfl rfl rfl (by show 5 < 6; decide) (wd_setR (f := upd (μ.1 p) 5 v) hp (by decide) rfl) (kk _)
theorem gf_X2_17 {p : Nat} (hC : Ok C cc nL RX2 rm) (d : DD cc pc (.getfield 17) 3 pc') (hp : kd p = 2) (kk : J C K μ pc' ls (.int (rI μ p 0) :: st) Z) : J C K μ pc ls (.ref (xad (cX C) p) :: st) Z :=
  J.get hC d hp (by decide) rfl i_X2 (k := 0) (by decide) (in2 (List.mem_of_getElem? (i := 32) rfl) rfl) rfl rfl rfl kk
theorem pf_X2_17 {p : Nat} {v : Int32} {F : Mem → Option ρ} (hC : Ok C cc nL RX2 rm) (d : DD cc pc (.putfield 17) 3 pc') (hp : kd p = 2) (kk : ∀ μ' : Mem, J C K μ' pc' ls st (F μ')) : J C K μ pc ls (.int v :: .ref (xad (cX C) p) :: st) (lb (wI μ p 0 v) F) :=
  J.put tyX2 hC d hp (by decide) rfl i_X2 tyX2_ok nmX2 (k := 0) (ty := .int) (by decide) (in2 (List.mem_of_getElem? (i := 32) rfl) rfl) rfl rfl rfl rfl rfl rfl (by show 0 < 9; decide) (wd_setR (f := upd (μ.1 p) 0 v) hp (by decide) rfl) (kk _)
theorem gf_X10_322 {p : Nat} (hC : Ok C cc nL RX10 rm) (d : DD cc pc (.getfield 322) 3 pc') (hp : kd p = 2) (kk : J C K μ pc' ls (.int (rI μ p 0) :: st) Z) : J C K μ pc ls (.ref (xad (cX C) p) :: st) Z :=
  J.get hC d hp (by decide) rfl i_X2 (k := 0) (by decide) (in2 (List.mem_of_getElem? (i := 33) rfl) rfl) rfl rfl rfl kk
theorem pf_X10_322 {p : Nat} {v : Int32} {F : Mem → Option ρ} (hC : Ok C cc nL RX10 rm) (d : DD cc pc (.putfield 322) 3 pc') (hp : kd p = 2) (kk : ∀ μ' : Mem, J C K μ' pc' ls st (F μ')) : J C K μ pc ls (.int v :: .ref (xad (cX C) p) :: st) (lb (wI μ p 0 v) F) :=
  J.put tyX2 hC d hp (by decide) rfl i_X2 tyX2_ok nmX2 (k := 0) (ty := .int) (by decide) (in2 (List.mem_of_getElem? (i := 33) rfl) rfl) rfl rfl rfl rfl rfl rfl (by show 0 < 9; decide) (wd_setR (f := upd (μ.1 p) 0 v) hp (by decide) rfl) (kk _)
theorem gf_X2_13 {p : Nat} (hC : Ok C cc nL RX2 rm) (d : DD cc pc (.getfield 13) 3 pc') (hp : kd p = 2) (kk : J C K μ pc' ls (.int (rI μ p 1) :: st) Z) : J C K μ pc ls (.ref (xad (cX C) p) :: st) Z :=
  J.get hC d hp (by decide) rfl i_X2 (k := 1) (by decide) (in2 (List.mem_of_getElem? (i := 34) rfl) rfl) rfl rfl rfl kk
theorem pf_X2_13 {p : Nat} {v : Int32} {F : Mem → Option ρ} (hC : Ok C cc nL RX2 rm) (d : DD cc pc (.putfield 13) 3 pc') (hp : kd p = 2) (kk : ∀ μ' : Mem, J C K μ' pc' ls st (F μ')) : J C K μ pc ls (.int v :: .ref (xad (cX C) p) :: st) (lb (wI μ p 1 v) F) :=
  J.put tyX2 hC d hp (by decide) rfl i_X2 tyX2_ok nmX2 (k := 1) (ty := .int) (by decide) (in2 (List.mem_of_getElem? (i := 34) rfl) rfl) rfl rfl rfl rfl rfl rfl (by show 1 < 9; decide) (wd_setR (f := upd (μ.1 p) 1 v) hp (by decide) rfl) (kk _)
theorem gf_X10_325 {p : Nat} (hC : Ok C cc nL RX10 rm) (d : DD cc pc (.getfield 325) 3 pc') (hp : kd p = 2) (kk : J C K μ pc' ls (.int (rI μ p 1) :: st) Z) : J C K μ pc ls (.ref (xad (cX C) p) :: st) Z :=
  J.get hC d hp (by decide) rfl i_X2 (k := 1) (by decide) (in2 (List.mem_of_getElem? (i := 35) rfl) rfl) rfl rfl rfl kk
theorem pf_X10_325 {p : Nat} {v : Int32} {F : Mem → Option ρ} (hC : Ok C cc nL RX10 rm) (d : DD cc pc (.putfield 325) 3 pc') (hp : kd p = 2) (kk : ∀ μ' : Mem, J C K μ' pc' ls st (F μ')) : J C K μ pc ls (.int v :: .ref (xad (cX C) p) :: st) (lb (wI μ p 1 v) F) :=
  J.put tyX2 hC d hp (by decide) rfl i_X2 tyX2_ok nmX2 (k := 1) (ty := .int) (by decide) (in2 (List.mem_of_getElem? (i := 35) rfl) rfl) rfl rfl rfl rfl rfl rfl (by show 1 < 9; decide) (wd_setR (f := upd (μ.1 p) 1 v) hp (by decide) rfl) (kk _)
theorem gf_X2_20 {p : Nat} (hC : Ok C cc nL RX2 rm) (d : DD cc pc (.getfield 20) 3 pc') (hp : kd p = 2) (kk : J C K μ pc' ls (.int (rI μ p 2) :: st) Z) : J C K μ pc ls (.ref (xad (cX C) p) :: st) Z :=
  J.get hC d hp (by decide) rfl i_X2 (k := 2) (by decide) (in2 (List.mem_of_getElem? (i := 36) rfl) rfl) rfl rfl rfl kk
theorem pf_X2_20 {p : Nat} {v : Int32} {F : Mem → Option ρ} (hC : Ok C cc nL RX2 rm) (d : DD cc pc (.putfield 20) 3 pc') (hp : kd p = 2) (kk : ∀ μ' : Mem, J C K μ' pc' ls st (F μ')) : J C K μ pc ls (.int v :: .ref (xad (cX C) p) :: st) (lb (wI μ p 2 v) F) :=
  J.put tyX2 hC d hp (by decide) rfl i_X2 tyX2_ok nmX2 (k := 2) (ty := .int) (by decide) (in2 (List.mem_of_getElem? (i := 36) rfl) rfl) rfl rfl rfl rfl rfl rfl (by show 2 < 9; decide) (wd_setR (f := upd (μ.1 p) 2 v) hp (by decide) rfl) (kk _)
theorem gf_X10_328 {p : Nat} (hC : Ok C cc nL RX10 rm) (d : DD cc pc (.getfield 328) 3 pc') (hp : kd p = 2) (kk : J C K μ pc' ls (.int (rI μ p 2) :: st) Z) : J C K μ pc ls (.ref (xad (cX C) p) :: st) Z :=
  J.get hC d hp (by decide) rfl i_X2 (k := 2) (by decide) (in2 (List.mem_of_getElem? (i := 37) rfl) rfl) rfl rfl rfl kk
theorem pf_X10_328 {p : Nat} {v : Int32} {F : Mem → Option ρ} (hC : Ok C cc nL RX10 rm) (d : DD cc pc (.putfield 328) 3 pc') (hp : kd p = 2) (kk : ∀ μ' : Mem, J C K μ' pc' ls st (F μ')) : J C K μ pc ls (.int v :: .ref (xad (cX C) p) :: st) (lb (wI μ p 2 v) F) :=
  J.put tyX2 hC d hp (by decide) rfl i_X2 tyX2_ok nmX2 (k := 2) (ty := .int) (by decide) (in2 (List.mem_of_getElem? (i := 37) rfl) rfl) rfl rfl rfl rfl rfl rfl (by show 2 < 9; decide) (wd_setR (f := upd (μ.1 p) 2 v) hp (by decide) rfl) (kk _)
theorem gf_X2_40 {p : Nat} (hC : Ok C cc nL RX2 rm) (d : DD cc pc (.getfield 40) 3 pc') (hp : kd p = 2) (kk : J C K μ pc' ls (.int (rI μ p 3) :: st) Z) : J C K μ pc ls (.ref (xad (cX C) p) :: st) Z :=
  J.get hC d hp (by decide) rfl i_X2 (k := 3) (by decide) (in2 (List.mem_of_getElem? (i := 38) rfl) rfl) rfl rfl rfl kk
theorem pf_X2_40 {p : Nat} {v : Int32} {F : Mem → Option ρ} (hC : Ok C cc nL RX2 rm) (d : DD cc pc (.putfield 40) 3 pc') (hp : kd p = 2) (kk : ∀ μ' : Mem, J C K μ' pc' ls st (F μ')) : J C K μ pc ls (.int v :: .ref (xad (cX C) p) :: st) (lb (wI μ p 3 v) F) :=
  J.put tyX2 hC d hp (by decide) rfl i_X2 tyX2_ok nmX2 (k := 3) (ty := .int) (by decide) (in2 (List.mem_of_getElem? (i := 38) rfl) rfl) rfl rfl rfl rfl rfl rfl (by show 3 < 9; decide) (wd_setR (f := upd (μ.1 p) 3 v) hp (by decide) rfl) (kk _)
theorem gf_X2_46 {p : Nat} (hC : Ok C cc nL RX2 rm) (d : DD cc pc (.getfield 46) 3 pc') (hp : kd p = 2) (kk : J C K μ pc' ls (.int (rI μ p 4) :: st) Z) : J C K μ pc ls (.ref (xad (cX C) p) :: st) Z :=
  J.get hC d hp (by decide) rfl i_X2 (k := 4) (by decide) (in2 (List.mem_of_getElem? (i := 39) rfl) rfl) rfl rfl rfl kk
theorem pf_X2_46 {p : Nat} {v : Int32} {F : Mem → Option ρ} (hC : Ok C cc nL RX2 rm) (d : DD cc pc (.putfield 46) 3 pc') (hp : kd p = 2) (kk : ∀ μ' : Mem, J C K μ' pc' ls st (F μ')) : J C K μ pc ls (.int v :: .ref (xad (cX C) p) :: st) (lb (wI μ p 4 v) F) :=
  J.put tyX2 hC d hp (by decide) rfl i_X2 tyX2_ok nmX2 (k := 4) (ty := .int) (by decide) (in2 (List.mem_of_getElem? (i := 39) rfl) rfl) rfl rfl rfl rfl rfl rfl (by show 4 < 9; decide) (wd_setR (f := upd (μ.1 p) 4 v) hp (by decide) rfl) (kk _)
theorem gf_X2_52 {p : Nat} (hC : Ok C cc nL RX2 rm) (d : DD cc pc (.getfield 52) 3 pc') (hp : kd p = 2) (kk : J C K μ pc' ls (.int (rI μ p 5) :: st) Z) : J C K μ pc ls (.ref (xad (cX C) p) :: st) Z :=
  J.get hC d hp (by decide) rfl i_X2 (k := 5) (by decide) (in2 (List.mem_of_getElem? (i := 40) rfl) rfl) rfl rfl rfl kk
theorem pf_X2_52 {p : Nat} {v : Int32} {F : Mem → Option ρ} (hC : Ok C cc nL RX2 rm) (d : DD cc pc (.putfield 52) 3 pc') (hp : kd p = 2) (kk : ∀ μ' : Mem, J C K μ' pc' ls st (F μ')) : J C K μ pc ls (.int v :: .ref (xad (cX C) p) :: st) (lb (wI μ p 5 v) F) :=
  J.put tyX2 hC d hp (by decide) rfl i_X2 tyX2_ok nmX2 (k := 5) (ty := .int) (by decide) (in2 (List.mem_of_getElem? (i := 40) rfl) rfl) rfl rfl rfl rfl rfl rfl (by show 5 < 9; decide) (wd_setR (f := upd (μ.1 p) 5 v) hp (by decide) rfl) (kk _)
theorem gf_X2_43 {p : Nat} (hC : Ok C cc nL RX2 rm) (d : DD cc pc (.getfield 43) 3 pc') (hp : kd p = 2) (kk : J C K μ pc' ls (.int (rI μ p 6) :: st) Z) : J C K μ pc ls (.ref (xad (cX C) p) :: st) Z :=
  J.get hC d hp (by decide) rfl i_X2 (k := 6) (by decide) (in2 (List.mem_of_getElem? (i := 41) rfl) rfl) rfl rfl rfl kk
theorem pf_X2_43 {p : Nat} {v : Int32} {F : Mem → Option ρ} (hC : Ok C cc nL RX2 rm) (d : DD cc pc (.putfield 43) 3 pc') (hp : kd p = 2) (kk : ∀ μ' : Mem, J C K μ' pc' ls st (F μ')) : J C K μ pc ls (.int v :: .ref (xad (cX C) p) :: st) (lb (wI μ p 6 v) F) :=
  J.put tyX2 hC d hp (by decide) rfl i_X2 tyX2_ok nmX2 (k := 6) (ty := .int) (by decide) (in2 (List.mem_of_getElem? (i := 41) rfl) rfl) rfl rfl rfl rfl rfl rfl (by show 6 < 9; decide) (wd_setR (f := upd (μ.1 p) 6 v) hp (by decide) rfl) (kk _)
theorem gf_X2_49 {p : Nat} (hC : Ok C cc nL RX2 rm) (d : DD cc pc (.getfield 49) 3 pc') (hp : kd p = 2) (kk : J C K μ pc' ls (.int (rI μ p 7) :: st) Z) : J C K μ pc ls (.ref (xad (cX C) p) :: st) Z :=
  J.get hC d hp (by decide) rfl i_X2 (k := 7) (by decide) (in2 (List.mem_of_getElem? (i := 42) rfl) rfl) rfl rfl rfl kk
theorem pf_X2_49 {p : Nat} {v : Int32} {F : Mem → Option ρ} (hC : Ok C cc nL RX2 rm) (d : DD cc pc (.putfield 49) 3 pc') (hp : kd p = 2) (kk : ∀ μ' : Mem, J C K μ' pc' ls st (F μ')) : J C K μ pc ls (.int v :: .ref (xad (cX C) p) :: st) (lb (wI μ p 7 v) F) :=
  J.put tyX2 hC d hp (by decide) rfl i_X2 tyX2_ok nmX2 (k := 7) (ty := .int) (by decide) (in2 (List.mem_of_getElem? (i := 42) rfl) rfl) rfl rfl rfl rfl rfl rfl (by show 7 < 9; decide) (wd_setR (f := upd (μ.1 p) 7 v) hp (by decide) rfl) (kk _)
theorem gf_X2_55 {p : Nat} (hC : Ok C cc nL RX2 rm) (d : DD cc pc (.getfield 55) 3 pc') (hp : kd p = 2) (kk : J C K μ pc' ls (.int (rI μ p 8) :: st) Z) : J C K μ pc ls (.ref (xad (cX C) p) :: st) Z :=
  J.get hC d hp (by decide) rfl i_X2 (k := 8) (by decide) (in2 (List.mem_of_getElem? (i := 43) rfl) rfl) rfl rfl rfl kk
theorem pf_X2_55 {p : Nat} {v : Int32} {F : Mem → Option ρ} (hC : Ok C cc nL RX2 rm) (d : DD cc pc (.putfield 55) 3 pc') (hp : kd p = 2) (kk : ∀ μ' : Mem, J C K μ' pc' ls st (F μ')) : J C K μ pc ls (.int v :: .ref (xad (cX C) p) :: st) (lb (wI μ p 8 v) F) :=
  J.put tyX2 hC d hp (by decide) rfl i_X2 tyX2_ok nmX2 (k := 8) (ty := .int) (by decide) (in2 (List.mem_of_getElem? (i := 43) rfl) rfl) rfl rfl rfl rfl rfl rfl (by show 8 < 9; decide) (wd_setR (f := upd (μ.1 p) 8 v) hp (by decide) rfl) (kk _)
theorem gf_X10_12 {q : Nat} {p : Nat} (hC : Ok C cc nL RX10 rm) (d : DD cc pc (.getfield 12) 3 pc') (hp : kd p = 10) (hq : p + 1 = q) (kk : J C K μ pc' ls (.ref (xad (cX C) q) :: st) Z) : J C K μ pc ls (.ref (xad (cX C) p) :: st) Z := by
  subst hq
  exact J.get hC d hp (by decide) rfl i_X10 (k := 0) (by decide) (in2 (List.mem_of_getElem? (i := 65) rfl) rfl) rfl rfl rfl kk
theorem gf_X10_19 {q : Nat} {p : Nat} (hC : Ok C cc nL RX10 rm) (d : DD cc pc (.getfield 19) 3 pc') (hp : kd p = 10) (hq : p + 3 = q) (kk : J C K μ pc' ls (.ref (xad (cX C) q) :: st) Z) : J C K μ pc ls (.ref (xad (cX C) p) :: st) Z := by
  subst hq
  exact J.get hC d hp (by decide) rfl i_X10 (k := 1) (by decide) (in2 (List.mem_of_getElem? (i := 66) rfl) rfl) rfl rfl rfl kk
theorem gf_X10_26 {q : Nat} {p : Nat} (hC : Ok C cc nL RX10 rm) (d : DD cc pc (.getfield 26) 3 pc') (hp : kd p = 10) (hq : p + 7 = q) (kk : J C K μ pc' ls (.ref (xad (cX C) q) :: st) Z) : J C K μ pc ls (.ref (xad (cX C) p) :: st) Z := by
  subst hq
  exact J.get hC d hp (by decide) rfl i_X10 (k := 2) (by decide) (in2 (List.mem_of_getElem? (i := 67) rfl) rfl) rfl rfl rfl kk
theorem gf_X10_32 {q : Nat} {p : Nat} (hC : Ok C cc nL RX10 rm) (d : DD cc pc (.getfield 32) 3 pc') (hp : kd p = 10) (hq : p + 38 = q) (kk : J C K μ pc' ls (.ref (xad (cX C) q) :: st) Z) : J C K μ pc ls (.ref (xad (cX C) p) :: st) Z := by
  subst hq
  exact J.get hC d hp (by decide) rfl i_X10 (k := 3) (by decide) (in2 (List.mem_of_getElem? (i := 68) rfl) rfl) rfl rfl rfl kk
theorem gf_X10_37 {q : Nat} {p : Nat} (hC : Ok C cc nL RX10 rm) (d : DD cc pc (.getfield 37) 3 pc') (hp : kd p = 10) (hq : p + 64 = q) (kk : J C K μ pc' ls (.ref (xad (cX C) q) :: st) Z) : J C K μ pc ls (.ref (xad (cX C) p) :: st) Z := by
  subst hq
  exact J.get hC d hp (by decide) rfl i_X10 (k := 4) (by decide) (in2 (List.mem_of_getElem? (i := 69) rfl) rfl) rfl rfl rfl kk
theorem gf_X10_44 {q : Nat} {p : Nat} (hC : Ok C cc nL RX10 rm) (d : DD cc pc (.getfield 44) 3 pc') (hp : kd p = 10) (hq : p + 65 = q) (kk : J C K μ pc' ls (.ref (xad (cX C) q) :: st) Z) : J C K μ pc ls (.ref (xad (cX C) p) :: st) Z := by
  subst hq
  exact J.get hC d hp (by decide) rfl i_X10 (k := 5) (by decide) (in2 (List.mem_of_getElem? (i := 70) rfl) rfl) rfl rfl rfl kk
theorem gf_X10_48 {q : Nat} {p : Nat} (hC : Ok C cc nL RX10 rm) (d : DD cc pc (.getfield 48) 3 pc') (hp : kd p = 10) (hq : p + 67 = q) (kk : J C K μ pc' ls (.ref (xad (cX C) q) :: st) Z) : J C K μ pc ls (.ref (xad (cX C) p) :: st) Z := by
  subst hq
  exact J.get hC d hp (by decide) rfl i_X10 (k := 6) (by decide) (in2 (List.mem_of_getElem? (i := 71) rfl) rfl) rfl rfl rfl kk
theorem gf_X10_51 {q : Nat} {p : Nat} (hC : Ok C cc nL RX10 rm) (d : DD cc pc (.getfield 51) 3 pc') (hp : kd p = 10) (hq : p + 98 = q) (kk : J C K μ pc' ls (.ref (xad (cX C) q) :: st) Z) : J C K μ pc ls (.ref (xad (cX C) p) :: st) Z := by
  subst hq
  exact J.get hC d hp (by decide) rfl i_X10 (k := 7) (by decide) (in2 (List.mem_of_getElem? (i := 72) rfl) rfl) rfl rfl rfl kk
theorem gf_X10_57 {q : Nat} {p : Nat} (hC : Ok C cc nL RX10 rm) (d : DD cc pc (.getfield 57) 3 pc') (hp : kd p = 10) (hq : p + 99 = q) (kk : J C K μ pc' ls (.ref (xad (cX C) q) :: st) Z) : J C K μ pc ls (.ref (xad (cX C) p) :: st) Z := by
  subst hq
  exact J.get hC d hp (by decide) rfl i_X10 (k := 8) (by decide) (in2 (List.mem_of_getElem? (i := 73) rfl) rfl) rfl rfl rfl kk
theorem gf_X10_64 {q : Nat} {p : Nat} (hC : Ok C cc nL RX10 rm) (d : DD cc pc (.getfield 64) 3 pc') (hp : kd p = 10) (hq : p + 103 = q) (kk : J C K μ pc' ls (.ref (xad (cX C) q) :: st) Z) : J C K μ pc ls (.ref (xad (cX C) p) :: st) Z := by
  subst hq
  exact J.get hC d hp (by decide) rfl i_X10 (k := 9) (by decide) (in2 (List.mem_of_getElem? (i := 74) rfl) rfl) rfl rfl rfl kk
theorem gf_X10_71 {q : Nat} {p : Nat} (hC : Ok C cc nL RX10 rm) (d : DD cc pc (.getfield 71) 3 pc') (hp : kd p = 10) (hq : p + 104 = q) (kk : J C K μ pc' ls (.ref (xad (cX C) q) :: st) Z) : J C K μ pc ls (.ref (xad (cX C) p) :: st) Z := by
  subst hq
  exact J.get hC d hp (by decide) rfl i_X10 (k := 10) (by decide) (in2 (List.mem_of_getElem? (i := 75) rfl) rfl) rfl rfl rfl kk
theorem gf_X10_75 {p : Nat} (hC : Ok C cc nL RX10 rm) (d : DD cc pc (.getfield 75) 3 pc') (hp : kd p = 10) (kk : J C K μ pc' ls (.int (rI μ p 11) :: st) Z) : J C K μ pc ls (.ref (xad (cX C) p) :: st) Z :=
  J.get hC d hp (by decide) rfl i_X10 (k := 11) (by decide) (in2 (List.mem_of_getElem? (i := 76) rfl) rfl) rfl rfl rfl kk
theorem pf_X10_75 {p : Nat} {v : Int32} {F : Mem → Option ρ} (hC : Ok C cc nL RX10 rm) (d : DD cc pc (.putfield 75) 3 pc') (hp : kd p = 10) (kk : ∀ μ' : Mem, J C K μ' pc' ls st (F μ')) : J C K μ pc ls (.int v :: .ref (xad (cX C) p) :: st) (lb (wI μ p 11 v) F) :=
  J.put tyX10 hC d hp (by decide) rfl i_X10 tyX10_ok nmX10 (k := 11) (ty := .int) (by decide) (in2 (List.mem_of_getElem? (i := 76) rfl) rfl) rfl rfl rfl rfl rfl rfl (by show 11 < 14; decide) (wd_setR (f := upd (μ.1 p) 11 v) hp (by decide) rfl) (kk _)
theorem gf_X10_79 {p : Nat} (hC : Ok C cc nL RX10 rm) (d : DD cc pc (.getfield 79) 3 pc') (hp : kd p = 10) (kk : J C K μ pc' ls (.int (rI μ p 12) :: st) Z) : J C K μ pc ls (.ref (xad (cX C) p) :: st) Z :=
  J.get hC d hp (by decide) rfl i_X10 (k := 12) (by decide) (in2 (List.mem_of_getElem? (i := 77) rfl) rfl) rfl rfl rfl kk
theorem pf_X10_79 {p : Nat} {v : Int32} {F : Mem → Option ρ} (hC : Ok C cc nL RX10 rm) (d : DD cc pc (.putfield 79) 3 pc') (hp : kd p = 10) (kk : ∀ μ' : Mem, J C K μ' pc' ls st (F μ')) : J C K μ pc ls (.int v :: .ref (xad (cX C) p) :: st) (lb (wI μ p 12 v) F) :=
  J.put tyX10 hC d hp (by decide) rfl i_X10 tyX10_ok nmX10 (k := 12) (ty := .int) (by decide) (in2 (List.mem_of_getElem? (i := 77) rfl) rfl) rfl rfl rfl rfl rfl rfl (by show 12 < 14; decide) (wd_setR (f := upd (μ.1 p) 12 v) hp (by decide) rfl) (kk _)
theorem gf_X10_82 {p : Nat} (hC : Ok C cc nL RX10 rm) (d : DD cc pc (.getfield 82) 3 pc') (hp : kd p = 10) (kk : J C K μ pc' ls (.long (rL μ p 13) :: st) Z) : J C K μ pc ls (.ref (xad (cX C) p) :: st) Z :=
  J.get hC d hp (by decide) rfl i_X10 (k := 13) (by decide) (in2 (List.mem_of_getElem? (i := 78) rfl) rfl) rfl rfl rfl kk
theorem pf_X10_82 {p : Nat} {v : Int64} {F : Mem → Option ρ} (hC : Ok C cc nL RX10 rm) (d : DD cc pc (.putfield 82) 3 pc') (hp : kd p = 10) (kk : ∀ μ' : Mem, J C K μ' pc' ls st (F μ')) : J C K μ pc ls (.long v :: .ref (xad (cX C) p) :: st) (lb (wL μ p 13 v) F) :=
  J.put tyX10 hC d hp (by decide) rfl i_X10 tyX10_ok nmX10 (k := 13) (ty := .long) (by decide) (in2 (List.mem_of_getElem? (i := 78) rfl) rfl) rfl rfl rfl rfl rfl rfl (by show 13 < 14; decide) (wd_setQ (g := vp_updL (μ.2 p) 13 v) hp (by decide) rfl) (kk _)
theorem fl_X1_89 : Cond.fieldLink RX1 89 "SafeBuckets$BookReader" "USUAL" "[I" ∈ TBL := in2 (List.mem_of_getElem? (i := 139) rfl) rfl
theorem fl_X1_80 : Cond.fieldLink RX1 80 "SafeBuckets$BookReader" "LOW" "[I" ∈ TBL := in2 (List.mem_of_getElem? (i := 204) rfl) rfl
theorem fl_X1_83 : Cond.fieldLink RX1 83 "SafeBuckets$BookReader" "HIGH" "[I" ∈ TBL := in2 (List.mem_of_getElem? (i := 206) rfl) rfl
theorem gf_X11_66 {p : Nat} (hC : Ok C cc nL RX11 rm) (d : DD cc pc (.getfield 66) 3 pc') (hp : kd p = 11) (kk : J C K μ pc' ls (.int (rI μ p 0) :: st) Z) : J C K μ pc ls (.ref (xad (cX C) p) :: st) Z :=
  J.get hC d hp (by decide) rfl i_X11 (k := 0) (by decide) (in5 (List.mem_of_getElem? (i := 205) rfl) rfl) rfl rfl rfl kk
theorem pf_X11_66 {p : Nat} {v : Int32} {F : Mem → Option ρ} (hC : Ok C cc nL RX11 rm) (d : DD cc pc (.putfield 66) 3 pc') (hp : kd p = 11) (kk : ∀ μ' : Mem, J C K μ' pc' ls st (F μ')) : J C K μ pc ls (.int v :: .ref (xad (cX C) p) :: st) (lb (wI μ p 0 v) F) :=
  J.put tyX11 hC d hp (by decide) rfl i_X11 tyX11_ok nmX11 (k := 0) (ty := .int) (by decide) (in5 (List.mem_of_getElem? (i := 205) rfl) rfl) rfl rfl rfl rfl rfl rfl (by show 0 < 33; decide) (wd_setR (f := upd (μ.1 p) 0 v) hp (by decide) rfl) (kk _)
theorem gf_X11_9 {q : Nat} {p : Nat} (hC : Ok C cc nL RX11 rm) (d : DD cc pc (.getfield 9) 3 pc') (hp : kd p = 11) (hq : p + 1 = q) (kk : J C K μ pc' ls (.ref (xad (cX C) q) :: st) Z) : J C K μ pc ls (.ref (xad (cX C) p) :: st) Z := by
  subst hq
  exact J.get hC d hp (by decide) rfl i_X11 (k := 1) (by decide) (in5 (List.mem_of_getElem? (i := 206) rfl) rfl) rfl rfl rfl kk
theorem gf_X11_74 {p : Nat} (hC : Ok C cc nL RX11 rm) (d : DD cc pc (.getfield 74) 3 pc') (hp : kd p = 11) (kk : J C K μ pc' ls (.int (rI μ p 2) :: st) Z) : J C K μ pc ls (.ref (xad (cX C) p) :: st) Z :=
  J.get hC d hp (by decide) rfl i_X11 (k := 2) (by decide) (in5 (List.mem_of_getElem? (i := 207) rfl) rfl) rfl rfl rfl kk
theorem pf_X11_74 {p : Nat} {v : Int32} {F : Mem → Option ρ} (hC : Ok C cc nL RX11 rm) (d : DD cc pc (.putfield 74) 3 pc') (hp : kd p = 11) (kk : ∀ μ' : Mem, J C K μ' pc' ls st (F μ')) : J C K μ pc ls (.int v :: .ref (xad (cX C) p) :: st) (lb (wI μ p 2 v) F) :=
  J.put tyX11 hC d hp (by decide) rfl i_X11 tyX11_ok nmX11 (k := 2) (ty := .int) (by decide) (in5 (List.mem_of_getElem? (i := 207) rfl) rfl) rfl rfl rfl rfl rfl rfl (by show 2 < 33; decide) (wd_setR (f := upd (μ.1 p) 2 v) hp (by decide) rfl) (kk _)
theorem gf_X11_81 {p : Nat} (hC : Ok C cc nL RX11 rm) (d : DD cc pc (.getfield 81) 3 pc') (hp : kd p = 11) (kk : J C K μ pc' ls (.int (rI μ p 3) :: st) Z) : J C K μ pc ls (.ref (xad (cX C) p) :: st) Z :=
  J.get hC d hp (by decide) rfl i_X11 (k := 3) (by decide) (in5 (List.mem_of_getElem? (i := 208) rfl) rfl) rfl rfl rfl kk
theorem pf_X11_81 {p : Nat} {v : Int32} {F : Mem → Option ρ} (hC : Ok C cc nL RX11 rm) (d : DD cc pc (.putfield 81) 3 pc') (hp : kd p = 11) (kk : ∀ μ' : Mem, J C K μ' pc' ls st (F μ')) : J C K μ pc ls (.int v :: .ref (xad (cX C) p) :: st) (lb (wI μ p 3 v) F) :=
  J.put tyX11 hC d hp (by decide) rfl i_X11 tyX11_ok nmX11 (k := 3) (ty := .int) (by decide) (in5 (List.mem_of_getElem? (i := 208) rfl) rfl) rfl rfl rfl rfl rfl rfl (by show 3 < 33; decide) (wd_setR (f := upd (μ.1 p) 3 v) hp (by decide) rfl) (kk _)
theorem gf_X11_88 {p : Nat} (hC : Ok C cc nL RX11 rm) (d : DD cc pc (.getfield 88) 3 pc') (hp : kd p = 11) (kk : J C K μ pc' ls (.int (rI μ p 4) :: st) Z) : J C K μ pc ls (.ref (xad (cX C) p) :: st) Z :=
  J.get hC d hp (by decide) rfl i_X11 (k := 4) (by decide) (in5 (List.mem_of_getElem? (i := 209) rfl) rfl) rfl rfl rfl kk
theorem pf_X11_88 {p : Nat} {v : Int32} {F : Mem → Option ρ} (hC : Ok C cc nL RX11 rm) (d : DD cc pc (.putfield 88) 3 pc') (hp : kd p = 11) (kk : ∀ μ' : Mem, J C K μ' pc' ls st (F μ')) : J C K μ pc ls (.int v :: .ref (xad (cX C) p) :: st) (lb (wI μ p 4 v) F) :=
  J.put tyX11 hC d hp (by decide) rfl i_X11 tyX11_ok nmX11 (k := 4) (ty := .int) (by decide) (in5 (List.mem_of_getElem? (i := 209) rfl) rfl) rfl rfl rfl rfl rfl rfl (by show 4 < 33; decide) (wd_setR (f := upd (μ.1 p) 4 v) hp (by decide) rfl) (kk _)
theorem gf_X11_13 {q : Nat} {p : Nat} (hC : Ok C cc nL RX11 rm) (d : DD cc pc (.getfield 13) 3 pc') (hp : kd p = 11) (hq : p + 2 = q) (kk : J C K μ pc' ls (.ref (xad (cX C) q) :: st) Z) : J C K μ pc ls (.ref (xad (cX C) p) :: st) Z := by
  subst hq
  exact J.get hC d hp (by decide) rfl i_X11 (k := 5) (by decide) (in5 (List.mem_of_getElem? (i := 210) rfl) rfl) rfl rfl rfl kk
theorem gf_X11_16 {q : Nat} {p : Nat} (hC : Ok C cc nL RX11 rm) (d : DD cc pc (.getfield 16) 3 pc') (hp : kd p = 11) (hq : p + 3 = q) (kk : J C K μ pc' ls (.ref (xad (cX C) q) :: st) Z) : J C K μ pc ls (.ref (xad (cX C) p) :: st) Z := by
  subst hq
  exact J.get hC d hp (by decide) rfl i_X11 (k := 6) (by decide) (in5 (List.mem_of_getElem? (i := 211) rfl) rfl) rfl rfl rfl kk
theorem gf_X11_19 {q : Nat} {p : Nat} (hC : Ok C cc nL RX11 rm) (d : DD cc pc (.getfield 19) 3 pc') (hp : kd p = 11) (hq : p + 4 = q) (kk : J C K μ pc' ls (.ref (xad (cX C) q) :: st) Z) : J C K μ pc ls (.ref (xad (cX C) p) :: st) Z := by
  subst hq
  exact J.get hC d hp (by decide) rfl i_X11 (k := 7) (by decide) (in5 (List.mem_of_getElem? (i := 212) rfl) rfl) rfl rfl rfl kk
theorem gf_X11_122 {p : Nat} (hC : Ok C cc nL RX11 rm) (d : DD cc pc (.getfield 122) 3 pc') (hp : kd p = 11) (kk : J C K μ pc' ls (.int (rI μ p 8) :: st) Z) : J C K μ pc ls (.ref (xad (cX C) p) :: st) Z :=
  J.get hC d hp (by decide) rfl i_X11 (k := 8) (by decide) (in5 (List.mem_of_getElem? (i := 213) rfl) rfl) rfl rfl rfl kk
theorem pf_X11_122 {p : Nat} {v : Int32} {F : Mem → Option ρ} (hC : Ok C cc nL RX11 rm) (d : DD cc pc (.putfield 122) 3 pc') (hp : kd p = 11) (kk : ∀ μ' : Mem, J C K μ' pc' ls st (F μ')) : J C K μ pc ls (.int v :: .ref (xad (cX C) p) :: st) (lb (wI μ p 8 v) F) :=
  J.put tyX11 hC d hp (by decide) rfl i_X11 tyX11_ok nmX11 (k := 8) (ty := .int) (by decide) (in5 (List.mem_of_getElem? (i := 213) rfl) rfl) rfl rfl rfl rfl rfl rfl (by show 8 < 33; decide) (wd_setR (f := upd (μ.1 p) 8 v) hp (by decide) rfl) (kk _)
theorem gf_X11_125 {p : Nat} (hC : Ok C cc nL RX11 rm) (d : DD cc pc (.getfield 125) 3 pc') (hp : kd p = 11) (kk : J C K μ pc' ls (.int (rI μ p 9) :: st) Z) : J C K μ pc ls (.ref (xad (cX C) p) :: st) Z :=
  J.get hC d hp (by decide) rfl i_X11 (k := 9) (by decide) (in5 (List.mem_of_getElem? (i := 214) rfl) rfl) rfl rfl rfl kk
theorem pf_X11_125 {p : Nat} {v : Int32} {F : Mem → Option ρ} (hC : Ok C cc nL RX11 rm) (d : DD cc pc (.putfield 125) 3 pc') (hp : kd p = 11) (kk : ∀ μ' : Mem, J C K μ' pc' ls st (F μ')) : J C K μ pc ls (.int v :: .ref (xad (cX C) p) :: st) (lb (wI μ p 9 v) F) :=
  J.put tyX11 hC d hp (by decide) rfl i_X11 tyX11_ok nmX11 (k := 9) (ty := .int) (by decide) (in5 (List.mem_of_getElem? (i := 214) rfl) rfl) rfl rfl rfl rfl rfl rfl (by show 9 < 33; decide) (wd_setR (f := upd (μ.1 p) 9 v) hp (by decide) rfl) (kk _)
theorem gf_X11_22 {q : Nat} {p : Nat} (hC : Ok C cc nL RX11 rm) (d : DD cc pc (.getfield 22) 3 pc') (hp : kd p = 11) (hq : p + 5 = q) (kk : J C K μ pc' ls (.ref (xad (cX C) q) :: st) Z) : J C K μ pc ls (.ref (xad (cX C) p) :: st) Z := by
  subst hq
  exact J.get hC d hp (by decide) rfl i_X11 (k := 10) (by decide) (in5 (List.mem_of_getElem? (i := 215) rfl) rfl) rfl rfl rfl kk
theorem gf_X11_25 {q : Nat} {p : Nat} (hC : Ok C cc nL RX11 rm) (d : DD cc pc (.getfield 25) 3 pc') (hp : kd p = 11) (hq : p + 6 = q) (kk : J C K μ pc' ls (.ref (xad (cX C) q) :: st) Z) : J C K μ pc ls (.ref (xad (cX C) p) :: st) Z := by
  subst hq
  exact J.get hC d hp (by decide) rfl i_X11 (k := 11) (by decide) (in5 (List.mem_of_getElem? (i := 216) rfl) rfl) rfl rfl rfl kk
theorem gf_X11_150 {p : Nat} (hC : Ok C cc nL RX11 rm) (d : DD cc pc (.getfield 150) 3 pc') (hp : kd p = 11) (kk : J C K μ pc' ls (.int (rI μ p 12) :: st) Z) : J C K μ pc ls (.ref (xad (cX C) p) :: st) Z :=
  J.get hC d hp (by decide) rfl i_X11 (k := 12) (by decide) (in5 (List.mem_of_getElem? (i := 217) rfl) rfl) rfl rfl rfl kk
theorem pf_X11_150 {p : Nat} {v : Int32} {F : Mem → Option ρ} (hC : Ok C cc nL RX11 rm) (d : DD cc pc (.putfield 150) 3 pc') (hp : kd p = 11) (kk : ∀ μ' : Mem, J C K μ' pc' ls st (F μ')) : J C K μ pc ls (.int v :: .ref (xad (cX C) p) :: st) (lb (wI μ p 12 v) F) :=
  J.put tyX11 hC d hp (by decide) rfl i_X11 tyX11_ok nmX11 (k := 12) (ty := .int) (by decide) (in5 (List.mem_of_getElem? (i := 217) rfl) rfl) rfl rfl rfl rfl rfl rfl (by show 12 < 33; decide) (wd_setR (f := upd (μ.1 p) 12 v) hp (by decide) rfl) (kk _)
theorem gf_X11_28 {q : Nat} {p : Nat} (hC : Ok C cc nL RX11 rm) (d : DD cc pc (.getfield 28) 3 pc') (hp : kd p = 11) (hq : p + 7 = q) (kk : J C K μ pc' ls (.ref (xad (cX C) q) :: st) Z) : J C K μ pc ls (.ref (xad (cX C) p) :: st) Z := by
  subst hq
  exact J.get hC d hp (by decide) rfl i_X11 (k := 13) (by decide) (in5 (List.mem_of_getElem? (i := 218) rfl) rfl) rfl rfl rfl kk
theorem gf_X11_31 {q : Nat} {p : Nat} (hC : Ok C cc nL RX11 rm) (d : DD cc pc (.getfield 31) 3 pc') (hp : kd p = 11) (hq : p + 8 = q) (kk : J C K μ pc' ls (.ref (xad (cX C) q) :: st) Z) : J C K μ pc ls (.ref (xad (cX C) p) :: st) Z := by
  subst hq
  exact J.get hC d hp (by decide) rfl i_X11 (k := 14) (by decide) (in5 (List.mem_of_getElem? (i := 219) rfl) rfl) rfl rfl rfl kk
theorem gf_X11_222 {p : Nat} (hC : Ok C cc nL RX11 rm) (d : DD cc pc (.getfield 222) 3 pc') (hp : kd p = 11) (kk : J C K μ pc' ls (.int (rI μ p 15) :: st) Z) : J C K μ pc ls (.ref (xad (cX C) p) :: st) Z :=
  J.get hC d hp (by decide) rfl i_X11 (k := 15) (by decide) (in5 (List.mem_of_getElem? (i := 220) rfl) rfl) rfl rfl rfl kk
theorem pf_X11_222 {p : Nat} {v : Int32} {F : Mem → Option ρ} (hC : Ok C cc nL RX11 rm) (d : DD cc pc (.putfield 222) 3 pc') (hp : kd p = 11) (kk : ∀ μ' : Mem, J C K μ' pc' ls st (F μ')) : J C K μ pc ls (.int v :: .ref (xad (cX C) p) :: st) (lb (wI μ p 15 v) F) :=
  J.put tyX11 hC d hp (by decide) rfl i_X11 tyX11_ok nmX11 (k := 15) (ty := .int) (by decide) (in5 (List.mem_of_getElem? (i := 220) rfl) rfl) rfl rfl rfl rfl rfl rfl (by show 15 < 33; decide) (wd_setR (f := upd (μ.1 p) 15 v) hp (by decide) rfl) (kk _)
theorem gf_X11_34 {q : Nat} {p : Nat} (hC : Ok C cc nL RX11 rm) (d : DD cc pc (.getfield 34) 3 pc') (hp : kd p = 11) (hq : p + 9 = q) (kk : J C K μ pc' ls (.ref (xad (cX C) q) :: st) Z) : J C K μ pc ls (.ref (xad (cX C) p) :: st) Z := by
  subst hq
  exact J.get hC d hp (by decide) rfl i_X11 (k := 16) (by decide) (in5 (List.mem_of_getElem? (i := 221) rfl) rfl) rfl rfl rfl kk
theorem gf_X11_37 {q : Nat} {p : Nat} (hC : Ok C cc nL RX11 rm) (d : DD cc pc (.getfield 37) 3 pc') (hp : kd p = 11) (hq : p + 10 = q) (kk : J C K μ pc' ls (.ref (xad (cX C) q) :: st) Z) : J C K μ pc ls (.ref (xad (cX C) p) :: st) Z := by
  subst hq
  exact J.get hC d hp (by decide) rfl i_X11 (k := 17) (by decide) (in5 (List.mem_of_getElem? (i := 222) rfl) rfl) rfl rfl rfl kk
theorem gf_X11_40 {q : Nat} {p : Nat} (hC : Ok C cc nL RX11 rm) (d : DD cc pc (.getfield 40) 3 pc') (hp : kd p = 11) (hq : p + 11 = q) (kk : J C K μ pc' ls (.ref (xad (cX C) q) :: st) Z) : J C K μ pc ls (.ref (xad (cX C) p) :: st) Z := by
  subst hq
  exact J.get hC d hp (by decide) rfl i_X11 (k := 18) (by decide) (in5 (List.mem_of_getElem? (i := 223) rfl) rfl) rfl rfl rfl kk
theorem gf_X11_164 {p : Nat} (hC : Ok C cc nL RX11 rm) (d : DD cc pc (.getfield 164) 3 pc') (hp : kd p = 11) (kk : J C K μ pc' ls (.int (rI μ p 19) :: st) Z) : J C K μ pc ls (.ref (xad (cX C) p) :: st) Z :=
  J.get hC d hp (by decide) rfl i_X11 (k := 19) (by decide) (in5 (List.mem_of_getElem? (i := 224) rfl) rfl) rfl rfl rfl kk
theorem pf_X11_164 {p : Nat} {v : Int32} {F : Mem → Option ρ} (hC : Ok C cc nL RX11 rm) (d : DD cc pc (.putfield 164) 3 pc') (hp : kd p = 11) (kk : ∀ μ' : Mem, J C K μ' pc' ls st (F μ')) : J C K μ pc ls (.int v :: .ref (xad (cX C) p) :: st) (lb (wI μ p 19 v) F) :=
  J.put tyX11 hC d hp (by decide) rfl i_X11 tyX11_ok nmX11 (k := 19) (ty := .int) (by decide) (in5 (List.mem_of_getElem? (i := 224) rfl) rfl) rfl rfl rfl rfl rfl rfl (by show 19 < 33; decide) (wd_setR (f := upd (μ.1 p) 19 v) hp (by decide) rfl) (kk _)
theorem gf_X11_43 {q : Nat} {p : Nat} (hC : Ok C cc nL RX11 rm) (d : DD cc pc (.getfield 43) 3 pc') (hp : kd p = 11) (hq : p + 12 = q) (kk : J C K μ pc' ls (.ref (xad (cX C) q) :: st) Z) : J C K μ pc ls (.ref (xad (cX C) p) :: st) Z := by
  subst hq
  exact J.get hC d hp (by decide) rfl i_X11 (k := 20) (by decide) (in5 (List.mem_of_getElem? (i := 225) rfl) rfl) rfl rfl rfl kk
theorem gf_X11_47 {q : Nat} {p : Nat} (hC : Ok C cc nL RX11 rm) (d : DD cc pc (.getfield 47) 3 pc') (hp : kd p = 11) (hq : p + 13 = q) (kk : J C K μ pc' ls (.ref (xad (cX C) q) :: st) Z) : J C K μ pc ls (.ref (xad (cX C) p) :: st) Z := by
  subst hq
  exact J.get hC d hp (by decide) rfl i_X11 (k := 21) (by decide) (in5 (List.mem_of_getElem? (i := 226) rfl) rfl) rfl rfl rfl kk
theorem gf_X11_51 {q : Nat} {p : Nat} (hC : Ok C cc nL RX11 rm) (d : DD cc pc (.getfield 51) 3 pc') (hp : kd p = 11) (hq : p + 14 = q) (kk : J C K μ pc' ls (.ref (xad (cX C) q) :: st) Z) : J C K μ pc ls (.ref (xad (cX C) p) :: st) Z := by
  subst hq
  exact J.get hC d hp (by decide) rfl i_X11 (k := 22) (by decide) (in5 (List.mem_of_getElem? (i := 227) rfl) rfl) rfl rfl rfl kk
theorem gf_X11_212 {p : Nat} (hC : Ok C cc nL RX11 rm) (d : DD cc pc (.getfield 212) 3 pc') (hp : kd p = 11) (kk : J C K μ pc' ls (.int (rI μ p 23) :: st) Z) : J C K μ pc ls (.ref (xad (cX C) p) :: st) Z :=
  J.get hC d hp (by decide) rfl i_X11 (k := 23) (by decide) (in5 (List.mem_of_getElem? (i := 228) rfl) rfl) rfl rfl rfl kk
theorem pf_X11_212 {p : Nat} {v : Int32} {F : Mem → Option ρ} (hC : Ok C cc nL RX11 rm) (d : DD cc pc (.putfield 212) 3 pc') (hp : kd p = 11) (kk : ∀ μ' : Mem, J C K μ' pc' ls st (F μ')) : J C K μ pc ls (.int v :: .ref (xad (cX C) p) :: st) (lb (wI μ p 23 v) F) :=
  J.put tyX11 hC d hp (by decide) rfl i_X11 tyX11_ok nmX11 (k := 23) (ty := .int) (by decide) (in5 (List.mem_of_getElem? (i := 228) rfl) rfl) rfl rfl rfl rfl rfl rfl (by show 23 < 33; decide) (wd_setR (f := upd (μ.1 p) 23 v) hp (by decide) rfl) (kk _)
theorem gf_X11_290 {p : Nat} (hC : Ok C cc nL RX11 rm) (d : DD cc pc (.getfield 290) 3 pc') (hp : kd p = 11) (kk : J C K μ pc' ls (.long (rL μ p 24) :: st) Z) : J C K μ pc ls (.ref (xad (cX C) p) :: st) Z :=
  J.get hC d hp (by decide) rfl i_X11 (k := 24) (by decide) (in5 (List.mem_of_getElem? (i := 229) rfl) rfl) rfl rfl rfl kk
theorem pf_X11_290 {p : Nat} {v : Int64} {F : Mem → Option ρ} (hC : Ok C cc nL RX11 rm) (d : DD cc pc (.putfield 290) 3 pc') (hp : kd p = 11) (kk : ∀ μ' : Mem, J C K μ' pc' ls st (F μ')) : J C K μ pc ls (.long v :: .ref (xad (cX C) p) :: st) (lb (wL μ p 24 v) F) :=
  J.put tyX11 hC d hp (by decide) rfl i_X11 tyX11_ok nmX11 (k := 24) (ty := .long) (by decide) (in5 (List.mem_of_getElem? (i := 229) rfl) rfl) rfl rfl rfl rfl rfl rfl (by show 24 < 33; decide) (wd_setQ (g := vp_updL (μ.2 p) 24 v) hp (by decide) rfl) (kk _)
theorem gf_X11_54 {q : Nat} {p : Nat} (hC : Ok C cc nL RX11 rm) (d : DD cc pc (.getfield 54) 3 pc') (hp : kd p = 11) (hq : p + 15 = q) (kk : J C K μ pc' ls (.ref (xad (cX C) q) :: st) Z) : J C K μ pc ls (.ref (xad (cX C) p) :: st) Z := by
  subst hq
  exact J.get hC d hp (by decide) rfl i_X11 (k := 25) (by decide) (in5 (List.mem_of_getElem? (i := 230) rfl) rfl) rfl rfl rfl kk
theorem gf_X11_323 {p : Nat} (hC : Ok C cc nL RX11 rm) (d : DD cc pc (.getfield 323) 3 pc') (hp : kd p = 11) (kk : J C K μ pc' ls (.int (rI μ p 26) :: st) Z) : J C K μ pc ls (.ref (xad (cX C) p) :: st) Z :=
  J.get hC d hp (by decide) rfl i_X11 (k := 26) (by decide) (in5 (List.mem_of_getElem? (i := 231) rfl) rfl) rfl rfl rfl kk
theorem pf_X11_323 {p : Nat} {v : Int32} {F : Mem → Option ρ} (hC : Ok C cc nL RX11 rm) (d : DD cc pc (.putfield 323) 3 pc') (hp : kd p = 11) (kk : ∀ μ' : Mem, J C K μ' pc' ls st (F μ')) : J C K μ pc ls (.int v :: .ref (xad (cX C) p) :: st) (lb (wI μ p 26 v) F) :=
  J.put tyX11 hC d hp (by decide) rfl i_X11 tyX11_ok nmX11 (k := 26) (ty := .int) (by decide) (in5 (List.mem_of_getElem? (i := 231) rfl) rfl) rfl rfl rfl rfl rfl rfl (by show 26 < 33; decide) (wd_setR (f := upd (μ.1 p) 26 v) hp (by decide) rfl) (kk _)
theorem gf_X11_326 {p : Nat} (hC : Ok C cc nL RX11 rm) (d : DD cc pc (.getfield 326) 3 pc') (hp : kd p = 11) (kk : J C K μ pc' ls (.int (rI μ p 27) :: st) Z) : J C K μ pc ls (.ref (xad (cX C) p) :: st) Z :=
  J.get hC d hp (by decide) rfl i_X11 (k := 27) (by decide) (in5 (List.mem_of_getElem? (i := 232) rfl) rfl) rfl rfl rfl kk
theorem pf_X11_326 {p : Nat} {v : Int32} {F : Mem → Option ρ} (hC : Ok C cc nL RX11 rm) (d : DD cc pc (.putfield 326) 3 pc') (hp : kd p = 11) (kk : ∀ μ' : Mem, J C K μ' pc' ls st (F μ')) : J C K μ pc ls (.int v :: .ref (xad (cX C) p) :: st) (lb (wI μ p 27 v) F) :=
  J.put tyX11 hC d hp (by decide) rfl i_X11 tyX11_ok nmX11 (k := 27) (ty := .int) (by decide) (in5 (List.mem_of_getElem? (i := 232) rfl) rfl) rfl rfl rfl rfl rfl rfl (by show 27 < 33; decide) (wd_setR (f := upd (μ.1 p) 27 v) hp (by decide) rfl) (kk _)
theorem gf_X11_329 {p : Nat} (hC : Ok C cc nL RX11 rm) (d : DD cc pc (.getfield 329) 3 pc') (hp : kd p = 11) (kk : J C K μ pc' ls (.int (rI μ p 28) :: st) Z) : J C K μ pc ls (.ref (xad (cX C) p) :: st) Z :=
  J.get hC d hp (by decide) rfl i_X11 (k := 28) (by decide) (in5 (List.mem_of_getElem? (i := 233) rfl) rfl) rfl rfl rfl kk
theorem pf_X11_329 {p : Nat} {v : Int32} {F : Mem → Option ρ} (hC : Ok C cc nL RX11 rm) (d : DD cc pc (.putfield 329) 3 pc') (hp : kd p = 11) (hb : bB v = true) (kk : ∀ μ' : Mem, J C K μ' pc' ls st (F μ')) : J C K μ pc ls (.int v :: .ref (xad (cX C) p) :: st) (lb (wI μ p 28 v) F) :=
  J.put tyX11 hC d hp (by decide) rfl i_X11 tyX11_ok nmX11 (k := 28) (ty := .boolean) (by decide) (in5 (List.mem_of_getElem? (i := 233) rfl) rfl) rfl rfl rfl (by rcases (of_decide_eq_true hb : v = 0 ∨ v = 1) with h | h <;> rw [h] <;> rfl) (by rcases (of_decide_eq_true hb : v = 0 ∨ v = 1) with h | h <;> rw [h] <;> rfl) rfl (by show 28 < 33; decide) (wd_setR (f := upd (μ.1 p) 28 v) hp (by decide) rfl) (kk _)
theorem gf_X11_57 {q : Nat} {p : Nat} (hC : Ok C cc nL RX11 rm) (d : DD cc pc (.getfield 57) 3 pc') (hp : kd p = 11) (hq : p + 16 = q) (kk : J C K μ pc' ls (.ref (xad (cX C) q) :: st) Z) : J C K μ pc ls (.ref (xad (cX C) p) :: st) Z := by
  subst hq
  exact J.get hC d hp (by decide) rfl i_X11 (k := 29) (by decide) (in5 (List.mem_of_getElem? (i := 234) rfl) rfl) rfl rfl rfl kk
theorem gf_X11_60 {q : Nat} {p : Nat} (hC : Ok C cc nL RX11 rm) (d : DD cc pc (.getfield 60) 3 pc') (hp : kd p = 11) (hq : p + 17 = q) (kk : J C K μ pc' ls (.ref (xad (cX C) q) :: st) Z) : J C K μ pc ls (.ref (xad (cX C) p) :: st) Z := by
  subst hq
  exact J.get hC d hp (by decide) rfl i_X11 (k := 30) (by decide) (in5 (List.mem_of_getElem? (i := 235) rfl) rfl) rfl rfl rfl kk
theorem gf_X11_63 {q : Nat} {p : Nat} (hC : Ok C cc nL RX11 rm) (d : DD cc pc (.getfield 63) 3 pc') (hp : kd p = 11) (hq : p + 18 = q) (kk : J C K μ pc' ls (.ref (xad (cX C) q) :: st) Z) : J C K μ pc ls (.ref (xad (cX C) p) :: st) Z := by
  subst hq
  exact J.get hC d hp (by decide) rfl i_X11 (k := 31) (by decide) (in5 (List.mem_of_getElem? (i := 236) rfl) rfl) rfl rfl rfl kk
theorem gf_X11_215 {p : Nat} (hC : Ok C cc nL RX11 rm) (d : DD cc pc (.getfield 215) 3 pc') (hp : kd p = 11) (kk : J C K μ pc' ls (.int (rI μ p 32) :: st) Z) : J C K μ pc ls (.ref (xad (cX C) p) :: st) Z :=
  J.get hC d hp (by decide) rfl i_X11 (k := 32) (by decide) (in5 (List.mem_of_getElem? (i := 237) rfl) rfl) rfl rfl rfl kk
theorem pf_X11_215 {p : Nat} {v : Int32} {F : Mem → Option ρ} (hC : Ok C cc nL RX11 rm) (d : DD cc pc (.putfield 215) 3 pc') (hp : kd p = 11) (hb : bB v = true) (kk : ∀ μ' : Mem, J C K μ' pc' ls st (F μ')) : J C K μ pc ls (.int v :: .ref (xad (cX C) p) :: st) (lb (wI μ p 32 v) F) :=
  J.put tyX11 hC d hp (by decide) rfl i_X11 tyX11_ok nmX11 (k := 32) (ty := .boolean) (by decide) (in5 (List.mem_of_getElem? (i := 237) rfl) rfl) rfl rfl rfl (by rcases (of_decide_eq_true hb : v = 0 ∨ v = 1) with h | h <;> rw [h] <;> rfl) (by rcases (of_decide_eq_true hb : v = 0 ∨ v = 1) with h | h <;> rw [h] <;> rfl) rfl (by show 32 < 33; decide) (wd_setR (f := upd (μ.1 p) 32 v) hp (by decide) rfl) (kk _)
end FR
