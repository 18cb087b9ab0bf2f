def hh_L_addRemand : List (Nat × Nat × Nat × Nat) := [(0, 12, 15, 44), (0, 12, 19, 13), (0, 12, 23, 35)]
theorem cw_L_addRemand : CalSW yL_addRemand cL_addRemand 6 (some .int) hh_L_addRemand 5 := ⟨big_in (List.mem_of_getElem? (i := 1038) (by decide +kernel)) (by decide +kernel), big_in (List.mem_of_getElem? (i := 59) (by decide +kernel)) (by decide +kernel), big_in (List.mem_of_getElem? (i := 1039) (by decide +kernel)) (by decide +kernel), by decide, by decide, by decide +kernel⟩
def hh_L_addedDays : List (Nat × Nat × Nat × Nat) := [(0, 9, 12, 44), (0, 9, 15, 35)]
theorem cw_L_addedDays : CalSW yL_addedDays cL_addedDays 4 (some .int) hh_L_addedDays 3 := ⟨big_in (List.mem_of_getElem? (i := 1207) (by decide +kernel)) (by decide +kernel), big_in (List.mem_of_getElem? (i := 59) (by decide +kernel)) (by decide +kernel), big_in (List.mem_of_getElem? (i := 1208) (by decide +kernel)) (by decide +kernel), by decide, by decide, by decide +kernel⟩
def hh_L_advance : List (Nat × Nat × Nat × Nat) := [(0, 9, 12, 13), (0, 9, 15, 35)]
theorem cw_L_advance : CalSW yL_advance cL_advance 4 (some .int) hh_L_advance 3 := ⟨big_in (List.mem_of_getElem? (i := 931) (by decide +kernel)) (by decide +kernel), big_in (List.mem_of_getElem? (i := 59) (by decide +kernel)) (by decide +kernel), big_in (List.mem_of_getElem? (i := 932) (by decide +kernel)) (by decide +kernel), by decide, by decide, by decide +kernel⟩
def hh_L_award : List (Nat × Nat × Nat × Nat) := [(0, 9, 12, 13), (0, 9, 15, 35)]
theorem cw_L_award : CalSW yL_award cL_award 4 (some .int) hh_L_award 3 := ⟨big_in (List.mem_of_getElem? (i := 1068) (by decide +kernel)) (by decide +kernel), big_in (List.mem_of_getElem? (i := 59) (by decide +kernel)) (by decide +kernel), big_in (List.mem_of_getElem? (i := 1069) (by decide +kernel)) (by decide +kernel), by decide, by decide, by decide +kernel⟩
def hh_L_awardDays : List (Nat × Nat × Nat × Nat) := [(0, 9, 12, 44)]
theorem cw_L_awardDays : CalSW yL_awardDays cL_awardDays 4 (some .int) hh_L_awardDays 3 := ⟨big_in (List.mem_of_getElem? (i := 1289) (by decide +kernel)) (by decide +kernel), big_in (List.mem_of_getElem? (i := 59) (by decide +kernel)) (by decide +kernel), big_in (List.mem_of_getElem? (i := 1290) (by decide +kernel)) (by decide +kernel), by decide, by decide, by decide +kernel⟩
def hh_L_chainLength : List (Nat × Nat × Nat × Nat) := [(0, 9, 12, 44), (0, 9, 15, 35)]
theorem cw_L_chainLength : CalSW yL_chainLength cL_chainLength 4 (some .int) hh_L_chainLength 3 := ⟨big_in (List.mem_of_getElem? (i := 1145) (by decide +kernel)) (by decide +kernel), big_in (List.mem_of_getElem? (i := 59) (by decide +kernel)) (by decide +kernel), big_in (List.mem_of_getElem? (i := 1146) (by decide +kernel)) (by decide +kernel), by decide, by decide, by decide +kernel⟩
def hh_L_concerns : List (Nat × Nat × Nat × Nat) := [(0, 17, 20, 44)]
theorem cw_L_concerns : CalSW yL_concerns cL_concerns 5 (some .int) hh_L_concerns 4 := ⟨big_in (List.mem_of_getElem? (i := 1296) (by decide +kernel)) (by decide +kernel), big_in (List.mem_of_getElem? (i := 59) (by decide +kernel)) (by decide +kernel), big_in (List.mem_of_getElem? (i := 1297) (by decide +kernel)) (by decide +kernel), by decide, by decide, by decide +kernel⟩
def hh_L_credit : List (Nat × Nat × Nat × Nat) := [(0, 9, 12, 44), (0, 9, 15, 35)]
theorem cw_L_credit : CalSW yL_credit cL_credit 4 (some .int) hh_L_credit 3 := ⟨big_in (List.mem_of_getElem? (i := 1193) (by decide +kernel)) (by decide +kernel), big_in (List.mem_of_getElem? (i := 59) (by decide +kernel)) (by decide +kernel), big_in (List.mem_of_getElem? (i := 1194) (by decide +kernel)) (by decide +kernel), by decide, by decide, by decide +kernel⟩
def hh_L_creditByMerging : List (Nat × Nat × Nat × Nat) := [(0, 9, 12, 44), (0, 9, 15, 35)]
theorem cw_L_creditByMerging : CalSW yL_creditByMerging cL_creditByMerging 4 (some .int) hh_L_creditByMerging 3 := ⟨big_in (List.mem_of_getElem? (i := 1200) (by decide +kernel)) (by decide +kernel), big_in (List.mem_of_getElem? (i := 59) (by decide +kernel)) (by decide +kernel), big_in (List.mem_of_getElem? (i := 1201) (by decide +kernel)) (by decide +kernel), by decide, by decide, by decide +kernel⟩
def hh_L_custodialPart : List (Nat × Nat × Nat × Nat) := [(0, 9, 12, 44), (0, 9, 15, 35)]
theorem cw_L_custodialPart : CalSW yL_custodialPart cL_custodialPart 4 (some .int) hh_L_custodialPart 3 := ⟨big_in (List.mem_of_getElem? (i := 1186) (by decide +kernel)) (by decide +kernel), big_in (List.mem_of_getElem? (i := 59) (by decide +kernel)) (by decide +kernel), big_in (List.mem_of_getElem? (i := 1187) (by decide +kernel)) (by decide +kernel), by decide, by decide, by decide +kernel⟩
def hh_L_dayNumber : List (Nat × Nat × Nat × Nat) := [(0, 12, 15, 13)]
theorem cw_L_dayNumber : CalSW yL_dayNumber cL_dayNumber 6 (some .int) hh_L_dayNumber 5 := ⟨big_in (List.mem_of_getElem? (i := 836) (by decide +kernel)) (by decide +kernel), big_in (List.mem_of_getElem? (i := 59) (by decide +kernel)) (by decide +kernel), big_in (List.mem_of_getElem? (i := 837) (by decide +kernel)) (by decide +kernel), by decide, by decide, by decide +kernel⟩
def hh_L_dayNumberByMonths : List (Nat × Nat × Nat × Nat) := [(0, 12, 15, 13)]
theorem cw_L_dayNumberByMonths : CalSW yL_dayNumberByMonths cL_dayNumberByMonths 6 (some .int) hh_L_dayNumberByMonths 5 := ⟨big_in (List.mem_of_getElem? (i := 873) (by decide +kernel)) (by decide +kernel), big_in (List.mem_of_getElem? (i := 59) (by decide +kernel)) (by decide +kernel), big_in (List.mem_of_getElem? (i := 874) (by decide +kernel)) (by decide +kernel), by decide, by decide, by decide +kernel⟩
def hh_L_dayOfMonth : List (Nat × Nat × Nat × Nat) := [(0, 9, 12, 13)]
theorem cw_L_dayOfMonth : CalSW yL_dayOfMonth cL_dayOfMonth 4 (some .int) hh_L_dayOfMonth 3 := ⟨big_in (List.mem_of_getElem? (i := 908) (by decide +kernel)) (by decide +kernel), big_in (List.mem_of_getElem? (i := 59) (by decide +kernel)) (by decide +kernel), big_in (List.mem_of_getElem? (i := 909) (by decide +kernel)) (by decide +kernel), by decide, by decide, by decide +kernel⟩
def hh_L_decidingTerm : List (Nat × Nat × Nat × Nat) := [(0, 8, 11, 71)]
theorem cw_L_decidingTerm : CalSW yL_decidingTerm cL_decidingTerm 3 (some .int) hh_L_decidingTerm 2 := ⟨big_in (List.mem_of_getElem? (i := 1257) (by decide +kernel)) (by decide +kernel), big_in (List.mem_of_getElem? (i := 59) (by decide +kernel)) (by decide +kernel), big_in (List.mem_of_getElem? (i := 1258) (by decide +kernel)) (by decide +kernel), by decide, by decide, by decide +kernel⟩
def hh_L_descendants : List (Nat × Nat × Nat × Nat) := [(0, 9, 12, 44), (0, 9, 15, 35)]
theorem cw_L_descendants : CalSW yL_descendants cL_descendants 4 (some .int) hh_L_descendants 3 := ⟨big_in (List.mem_of_getElem? (i := 1158) (by decide +kernel)) (by decide +kernel), big_in (List.mem_of_getElem? (i := 59) (by decide +kernel)) (by decide +kernel), big_in (List.mem_of_getElem? (i := 1159) (by decide +kernel)) (by decide +kernel), by decide, by decide, by decide +kernel⟩
def hh_L_endDay : List (Nat × Nat × Nat × Nat) := [(0, 9, 12, 44), (0, 9, 15, 35)]
theorem cw_L_endDay : CalSW yL_endDay cL_endDay 4 (some .int) hh_L_endDay 3 := ⟨big_in (List.mem_of_getElem? (i := 1228) (by decide +kernel)) (by decide +kernel), big_in (List.mem_of_getElem? (i := 59) (by decide +kernel)) (by decide +kernel), big_in (List.mem_of_getElem? (i := 1229) (by decide +kernel)) (by decide +kernel), by decide, by decide, by decide +kernel⟩
def hh_L_giveBack : List (Nat × Nat × Nat × Nat) := [(0, 10, 13, 44), (0, 10, 17, 13)]
theorem cw_L_giveBack : CalSW yL_giveBack cL_giveBack 5 (some .int) hh_L_giveBack 4 := ⟨big_in (List.mem_of_getElem? (i := 1086) (by decide +kernel)) (by decide +kernel), big_in (List.mem_of_getElem? (i := 59) (by decide +kernel)) (by decide +kernel), big_in (List.mem_of_getElem? (i := 1087) (by decide +kernel)) (by decide +kernel), by decide, by decide, by decide +kernel⟩
def hh_L_impose : List (Nat × Nat × Nat × Nat) := [(0, 12, 15, 13), (0, 12, 19, 35)]
theorem cw_L_impose : CalSW yL_impose cL_impose 6 (some .int) hh_L_impose 5 := ⟨big_in (List.mem_of_getElem? (i := 961) (by decide +kernel)) (by decide +kernel), big_in (List.mem_of_getElem? (i := 59) (by decide +kernel)) (by decide +kernel), big_in (List.mem_of_getElem? (i := 962) (by decide +kernel)) (by decide +kernel), by decide, by decide, by decide +kernel⟩
def hh_L_imposeConsecutive : List (Nat × Nat × Nat × Nat) := [(0, 14, 17, 44), (0, 14, 21, 13), (0, 14, 25, 35)]
theorem cw_L_imposeConsecutive : CalSW yL_imposeConsecutive cL_imposeConsecutive 7 (some .int) hh_L_imposeConsecutive 6 := ⟨big_in (List.mem_of_getElem? (i := 1011) (by decide +kernel)) (by decide +kernel), big_in (List.mem_of_getElem? (i := 59) (by decide +kernel)) (by decide +kernel), big_in (List.mem_of_getElem? (i := 1012) (by decide +kernel)) (by decide +kernel), by decide, by decide, by decide +kernel⟩
def hh_L_isQuashed : List (Nat × Nat × Nat × Nat) := [(0, 16, 19, 44)]
theorem cw_L_isQuashed : CalSW yL_isQuashed cL_isQuashed 4 (some .int) hh_L_isQuashed 3 := ⟨big_in (List.mem_of_getElem? (i := 1115) (by decide +kernel)) (by decide +kernel), big_in (List.mem_of_getElem? (i := 59) (by decide +kernel)) (by decide +kernel), big_in (List.mem_of_getElem? (i := 1116) (by decide +kernel)) (by decide +kernel), by decide, by decide, by decide +kernel⟩
def hh_L_kindOf : List (Nat × Nat × Nat × Nat) := [(0, 9, 12, 44)]
theorem cw_L_kindOf : CalSW yL_kindOf cL_kindOf 4 (some .int) hh_L_kindOf 3 := ⟨big_in (List.mem_of_getElem? (i := 1108) (by decide +kernel)) (by decide +kernel), big_in (List.mem_of_getElem? (i := 59) (by decide +kernel)) (by decide +kernel), big_in (List.mem_of_getElem? (i := 1109) (by decide +kernel)) (by decide +kernel), by decide, by decide, by decide +kernel⟩
def hh_L_lastEnd : List (Nat × Nat × Nat × Nat) := [(0, 8, 11, 71)]
theorem cw_L_lastEnd : CalSW yL_lastEnd cL_lastEnd 3 (some .int) hh_L_lastEnd 2 := ⟨big_in (List.mem_of_getElem? (i := 1250) (by decide +kernel)) (by decide +kernel), big_in (List.mem_of_getElem? (i := 59) (by decide +kernel)) (by decide +kernel), big_in (List.mem_of_getElem? (i := 1251) (by decide +kernel)) (by decide +kernel), by decide, by decide, by decide +kernel⟩
def hh_L_lastRelease : List (Nat × Nat × Nat × Nat) := [(0, 8, 11, 71)]
theorem cw_L_lastRelease : CalSW yL_lastRelease cL_lastRelease 3 (some .int) hh_L_lastRelease 2 := ⟨big_in (List.mem_of_getElem? (i := 1235) (by decide +kernel)) (by decide +kernel), big_in (List.mem_of_getElem? (i := 59) (by decide +kernel)) (by decide +kernel), big_in (List.mem_of_getElem? (i := 1236) (by decide +kernel)) (by decide +kernel), by decide, by decide, by decide +kernel⟩
def hh_L_lastReleaseWithAward : List (Nat × Nat × Nat × Nat) := [(0, 9, 12, 13), (0, 9, 15, 35)]
theorem cw_L_lastReleaseWithAward : CalSW yL_lastReleaseWithAward cL_lastReleaseWithAward 4 (some .int) hh_L_lastReleaseWithAward 3 := ⟨big_in (List.mem_of_getElem? (i := 1303) (by decide +kernel)) (by decide +kernel), big_in (List.mem_of_getElem? (i := 59) (by decide +kernel)) (by decide +kernel), big_in (List.mem_of_getElem? (i := 1304) (by decide +kernel)) (by decide +kernel), by decide, by decide, by decide +kernel⟩
def hh_L_lastReleaseWithout : List (Nat × Nat × Nat × Nat) := [(0, 9, 12, 44), (0, 9, 15, 35), (0, 9, 18, 71)]
theorem cw_L_lastReleaseWithout : CalSW yL_lastReleaseWithout cL_lastReleaseWithout 4 (some .int) hh_L_lastReleaseWithout 3 := ⟨big_in (List.mem_of_getElem? (i := 1310) (by decide +kernel)) (by decide +kernel), big_in (List.mem_of_getElem? (i := 59) (by decide +kernel)) (by decide +kernel), big_in (List.mem_of_getElem? (i := 1311) (by decide +kernel)) (by decide +kernel), by decide, by decide, by decide +kernel⟩
def hh_L_length : List (Nat × Nat × Nat × Nat) := [(0, 9, 12, 44), (0, 9, 15, 35)]
theorem cw_L_length : CalSW yL_length cL_length 4 (some .int) hh_L_length 3 := ⟨big_in (List.mem_of_getElem? (i := 1172) (by decide +kernel)) (by decide +kernel), big_in (List.mem_of_getElem? (i := 59) (by decide +kernel)) (by decide +kernel), big_in (List.mem_of_getElem? (i := 1173) (by decide +kernel)) (by decide +kernel), by decide, by decide, by decide +kernel⟩
def hh_L_monthOf : List (Nat × Nat × Nat × Nat) := [(0, 9, 12, 13)]
theorem cw_L_monthOf : CalSW yL_monthOf cL_monthOf 4 (some .int) hh_L_monthOf 3 := ⟨big_in (List.mem_of_getElem? (i := 897) (by decide +kernel)) (by decide +kernel), big_in (List.mem_of_getElem? (i := 59) (by decide +kernel)) (by decide +kernel), big_in (List.mem_of_getElem? (i := 898) (by decide +kernel)) (by decide +kernel), by decide, by decide, by decide +kernel⟩
def hh_L_monthsAfter : List (Nat × Nat × Nat × Nat) := [(0, 10, 13, 13)]
theorem cw_L_monthsAfter : CalSW yL_monthsAfter cL_monthsAfter 5 (some .int) hh_L_monthsAfter 4 := ⟨big_in (List.mem_of_getElem? (i := 920) (by decide +kernel)) (by decide +kernel), big_in (List.mem_of_getElem? (i := 59) (by decide +kernel)) (by decide +kernel), big_in (List.mem_of_getElem? (i := 921) (by decide +kernel)) (by decide +kernel), by decide, by decide, by decide +kernel⟩
def hh_L_outputAt : List (Nat × Nat × Nat × Nat) := [(0, 9, 12, 44)]
theorem cw_L_outputAt : CalSW yL_outputAt cL_outputAt 4 (some .int) hh_L_outputAt 3 := ⟨big_in (List.mem_of_getElem? (i := 1333) (by decide +kernel)) (by decide +kernel), big_in (List.mem_of_getElem? (i := 59) (by decide +kernel)) (by decide +kernel), big_in (List.mem_of_getElem? (i := 1334) (by decide +kernel)) (by decide +kernel), by decide, by decide, by decide +kernel⟩
def hh_L_parentOf : List (Nat × Nat × Nat × Nat) := [(0, 9, 12, 44), (0, 9, 15, 35), (0, 9, 18, 71)]
theorem cw_L_parentOf : CalSW yL_parentOf cL_parentOf 4 (some .int) hh_L_parentOf 3 := ⟨big_in (List.mem_of_getElem? (i := 1122) (by decide +kernel)) (by decide +kernel), big_in (List.mem_of_getElem? (i := 59) (by decide +kernel)) (by decide +kernel), big_in (List.mem_of_getElem? (i := 1123) (by decide +kernel)) (by decide +kernel), by decide, by decide, by decide +kernel⟩
def hh_L_quash : List (Nat × Nat × Nat × Nat) := [(0, 9, 12, 44), (0, 9, 15, 35)]
theorem cw_L_quash : CalSW yL_quash cL_quash 4 (some .int) hh_L_quash 3 := ⟨big_in (List.mem_of_getElem? (i := 1053) (by decide +kernel)) (by decide +kernel), big_in (List.mem_of_getElem? (i := 59) (by decide +kernel)) (by decide +kernel), big_in (List.mem_of_getElem? (i := 1054) (by decide +kernel)) (by decide +kernel), by decide, by decide, by decide +kernel⟩
def hh_L_recall : List (Nat × Nat × Nat × Nat) := [(0, 9, 12, 13), (0, 9, 15, 35)]
theorem cw_L_recall : CalSW yL_recall cL_recall 4 (some .int) hh_L_recall 3 := ⟨big_in (List.mem_of_getElem? (i := 1097) (by decide +kernel)) (by decide +kernel), big_in (List.mem_of_getElem? (i := 59) (by decide +kernel)) (by decide +kernel), big_in (List.mem_of_getElem? (i := 1098) (by decide +kernel)) (by decide +kernel), by decide, by decide, by decide +kernel⟩
def hh_L_recallEnd : List (Nat × Nat × Nat × Nat) := [(0, 8, 11, 71)]
theorem cw_L_recallEnd : CalSW yL_recallEnd cL_recallEnd 3 (some .int) hh_L_recallEnd 2 := ⟨big_in (List.mem_of_getElem? (i := 1282) (by decide +kernel)) (by decide +kernel), big_in (List.mem_of_getElem? (i := 59) (by decide +kernel)) (by decide +kernel), big_in (List.mem_of_getElem? (i := 1283) (by decide +kernel)) (by decide +kernel), by decide, by decide, by decide +kernel⟩
def hh_L_releaseDay : List (Nat × Nat × Nat × Nat) := [(0, 9, 12, 44), (0, 9, 15, 35)]
theorem cw_L_releaseDay : CalSW yL_releaseDay cL_releaseDay 4 (some .int) hh_L_releaseDay 3 := ⟨big_in (List.mem_of_getElem? (i := 1214) (by decide +kernel)) (by decide +kernel), big_in (List.mem_of_getElem? (i := 59) (by decide +kernel)) (by decide +kernel), big_in (List.mem_of_getElem? (i := 1215) (by decide +kernel)) (by decide +kernel), by decide, by decide, by decide +kernel⟩
def hh_L_releaseDayByServing : List (Nat × Nat × Nat × Nat) := [(0, 9, 12, 44), (0, 9, 15, 35)]
theorem cw_L_releaseDayByServing : CalSW yL_releaseDayByServing cL_releaseDayByServing 4 (some .int) hh_L_releaseDayByServing 3 := ⟨big_in (List.mem_of_getElem? (i := 1221) (by decide +kernel)) (by decide +kernel), big_in (List.mem_of_getElem? (i := 59) (by decide +kernel)) (by decide +kernel), big_in (List.mem_of_getElem? (i := 1222) (by decide +kernel)) (by decide +kernel), by decide, by decide, by decide +kernel⟩
def hh_L_start : List (Nat × Nat × Nat × Nat) := [(0, 9, 12, 44), (0, 9, 15, 35)]
theorem cw_L_start : CalSW yL_start cL_start 4 (some .int) hh_L_start 3 := ⟨big_in (List.mem_of_getElem? (i := 1165) (by decide +kernel)) (by decide +kernel), big_in (List.mem_of_getElem? (i := 59) (by decide +kernel)) (by decide +kernel), big_in (List.mem_of_getElem? (i := 1166) (by decide +kernel)) (by decide +kernel), by decide, by decide, by decide +kernel⟩
def hh_L_statusOn : List (Nat × Nat × Nat × Nat) := [(0, 9, 12, 13)]
theorem cw_L_statusOn : CalSW yL_statusOn cL_statusOn 4 (some .int) hh_L_statusOn 3 := ⟨big_in (List.mem_of_getElem? (i := 1326) (by decide +kernel)) (by decide +kernel), big_in (List.mem_of_getElem? (i := 59) (by decide +kernel)) (by decide +kernel), big_in (List.mem_of_getElem? (i := 1327) (by decide +kernel)) (by decide +kernel), by decide, by decide, by decide +kernel⟩
def hh_L_termByRelease : List (Nat × Nat × Nat × Nat) := [(0, 9, 12, 44)]
theorem cw_L_termByRelease : CalSW yL_termByRelease cL_termByRelease 4 (some .int) hh_L_termByRelease 3 := ⟨big_in (List.mem_of_getElem? (i := 1264) (by decide +kernel)) (by decide +kernel), big_in (List.mem_of_getElem? (i := 59) (by decide +kernel)) (by decide +kernel), big_in (List.mem_of_getElem? (i := 1265) (by decide +kernel)) (by decide +kernel), by decide, by decide, by decide +kernel⟩
def hh_L_totalLength : List (Nat × Nat × Nat × Nat) := [(0, 9, 12, 44), (0, 9, 15, 35)]
theorem cw_L_totalLength : CalSW yL_totalLength cL_totalLength 4 (some .int) hh_L_totalLength 3 := ⟨big_in (List.mem_of_getElem? (i := 1179) (by decide +kernel)) (by decide +kernel), big_in (List.mem_of_getElem? (i := 59) (by decide +kernel)) (by decide +kernel), big_in (List.mem_of_getElem? (i := 1180) (by decide +kernel)) (by decide +kernel), by decide, by decide, by decide +kernel⟩
def hh_L_yearOf : List (Nat × Nat × Nat × Nat) := [(0, 9, 12, 13)]
theorem cw_L_yearOf : CalSW yL_yearOf cL_yearOf 4 (some .int) hh_L_yearOf 3 := ⟨big_in (List.mem_of_getElem? (i := 883) (by decide +kernel)) (by decide +kernel), big_in (List.mem_of_getElem? (i := 59) (by decide +kernel)) (by decide +kernel), big_in (List.mem_of_getElem? (i := 884) (by decide +kernel)) (by decide +kernel), by decide, by decide, by decide +kernel⟩
theorem lkx_1 : Cond.classLink RL 13 (exn 1) ∈ BIG := big_in (List.mem_of_getElem? (i := 838) (by decide +kernel)) (by decide +kernel)
theorem lkx_2 : Cond.classLink RL 35 (exn 2) ∈ BIG := big_in (List.mem_of_getElem? (i := 933) (by decide +kernel)) (by decide +kernel)
theorem lkx_3 : Cond.classLink RL 44 (exn 3) ∈ BIG := big_in (List.mem_of_getElem? (i := 1013) (by decide +kernel)) (by decide +kernel)
theorem lkx_4 : Cond.classLink RL 71 (exn 4) ∈ BIG := big_in (List.mem_of_getElem? (i := 1124) (by decide +kernel)) (by decide +kernel)
set_option maxHeartbeats 4000000 in
set_option maxRecDepth 100000 in
theorem t_L_addRemand {G : gG} {l : Launch} (hlt : l.stackTraces = false) {ad : Nat → Nat} {qo n : Nat} {x xr : SX} {o : Nat → Int64} {a1 a2 a3 : Int32} {k0 : Nat} {rv c0 : Int32} (hf : f_X6_addRemand n x a1 a2 a3 = some (k0, rv, xr)) (hc : (k0 = 0 ∧ c0 = 0) ∨ (k0 = 3 ∧ c0 = 1) ∨ (k0 = 1 ∧ c0 = 2) ∨ (k0 = 2 ∧ c0 = 3)) : MetL PrW G l yL_addRemand cL_addRemand 6 (some .int) hh_L_addRemand 8 2 12 144 [.ref (ad 0), .int a1, .int a2, .int a3, .ref qo] (wX G ad x ++ [(qo, .inl (G.2 1, 1, .inr (.inl o)))]) (wX G ad xr ++ [(qo, .inl (G.2 1, 1, .inr (.inl (if k0 = 0 then vp_updL o 0 rv.toInt64 else o))))]) c0 := by
  refine k_ofL (by decide) (Nat.le_of_ble_eq_true rfl) ?_
  intro p e s m args below meth c ls A F hr hlk htab hl hw hZ
  have hx := F.1
  have hb := F.2.1
  have hl : lv_has ls 6 [(0, .ref (ad 0)), (1, .int a1), (2, .int a2), (3, .int a3), (4, .ref qo)] := hl
  have htab : c.exceptionTable.toList = [⟨0, 12, 15, 44⟩, ⟨0, 12, 19, 13⟩, ⟨0, 12, 23, 35⟩] := htab
  refine lv_aload hx hb dL_addRemand_0 (lv_at hl 4 rfl) ?_
  refine lv_iconst (v := 0) hx hb dL_addRemand_2 (by decide) ?_
  refine lv_aload_n hx hb dL_addRemand_3 rfl (lv_at hl 0 rfl) ?_
  refine lv_iload_n hx hb dL_addRemand_4 rfl (lv_at hl 1 rfl) ?_
  refine lv_iload_n hx hb dL_addRemand_5 rfl (lv_at hl 2 rfl) ?_
  refine lv_iload_n hx hb dL_addRemand_6 rfl (lv_at hl 3 rfl) ?_
  refine k_xcallVi (wl := []) (wr := [(qo, .inl (G.2 1, 1, .inr (.inl o)))]) (rest := [.int 0, .ref qo]) (As := [.int a1, .int a2, .int a3]) F wsh_in (t_X6_addRemand hlt hf) cv_X6_addRemand ml_L_46 hZ.1 hw 0 rfl rfl rfl hl.1 rfl (Nat.le_of_ble_eq_true rfl) ⟨Nat.le_of_ble_eq_true rfl, Nat.le_of_ble_eq_true rfl⟩ ⟨Nat.le_of_ble_eq_true rfl, Nat.le_of_ble_eq_true rfl⟩ dL_addRemand_7 (fun hk9 E ce q9 H locs hE hw g1 g2 g3 => ?_) (fun hk9 H locs hw => ?_)
  · rcases hc with ⟨rfl, rfl⟩ | ⟨rfl, rfl⟩ | ⟨rfl, rfl⟩ | ⟨rfl, rfl⟩
    · exact absurd rfl hk9
    · subst hE
      refine vx_catch (own := RL) (name := exn 3) F.2.2.2.1 [] ⟨0, 12, 15, 44⟩ [⟨0, 12, 19, 13⟩, ⟨0, 12, 23, 35⟩] htab (fun z hz => by cases hz) (by decide) (by decide) (F.2.2.2.2 _ (wsh_in _ lkx_3)) (hZ.1.2.2.use (by decide)) g1 g2 g3 ?_
      refine lv_astore (lv' := [(5, .ref q9), (0, .ref (ad 0)), (1, .int a1), (2, .int a2), (3, .int a3), (4, .ref qo)]) hx hb dL_addRemand_15 hl (Nat.le_of_ble_eq_true rfl) rfl (fun ls hl => ?_)
      refine lv_iconst (v := 1) hx hb dL_addRemand_17 (by decide) ?_
      exact k_liret F hr hlk hw (Nat.le_of_ble_eq_true rfl) (Nat.le_of_ble_eq_true rfl) dL_addRemand_18
    · subst hE
      refine vx_catch (own := RL) (name := exn 1) F.2.2.2.1 [⟨0, 12, 15, 44⟩] ⟨0, 12, 19, 13⟩ [⟨0, 12, 23, 35⟩] htab (fun z hz => by
          simp only [List.mem_cons, List.not_mem_nil, or_false] at hz
          rcases hz with rfl
          · exact Or.inr ⟨by decide, exn 3, F.2.2.2.2 _ (wsh_in _ lkx_3), hZ.2 1 3 (by decide) (by decide) (by decide) (by decide) (by decide)⟩) (by decide) (by decide) (F.2.2.2.2 _ (wsh_in _ lkx_1)) (hZ.1.2.2.use (by decide)) g1 g2 g3 ?_
      refine lv_astore (lv' := [(5, .ref q9), (0, .ref (ad 0)), (1, .int a1), (2, .int a2), (3, .int a3), (4, .ref qo)]) hx hb dL_addRemand_19 hl (Nat.le_of_ble_eq_true rfl) rfl (fun ls hl => ?_)
      refine lv_iconst (v := 2) hx hb dL_addRemand_21 (by decide) ?_
      exact k_liret F hr hlk hw (Nat.le_of_ble_eq_true rfl) (Nat.le_of_ble_eq_true rfl) dL_addRemand_22
    · subst hE
      refine vx_catch (own := RL) (name := exn 2) F.2.2.2.1 [⟨0, 12, 15, 44⟩, ⟨0, 12, 19, 13⟩] ⟨0, 12, 23, 35⟩ [] htab (fun z hz => by
          simp only [List.mem_cons, List.not_mem_nil, or_false] at hz
          rcases hz with rfl | rfl
          · exact Or.inr ⟨by decide, exn 3, F.2.2.2.2 _ (wsh_in _ lkx_3), hZ.2 2 3 (by decide) (by decide) (by decide) (by decide) (by decide)⟩
          · exact Or.inr ⟨by decide, exn 1, F.2.2.2.2 _ (wsh_in _ lkx_1), hZ.2 2 1 (by decide) (by decide) (by decide) (by decide) (by decide)⟩) (by decide) (by decide) (F.2.2.2.2 _ (wsh_in _ lkx_2)) (hZ.1.2.2.use (by decide)) g1 g2 g3 ?_
      refine lv_astore (lv' := [(5, .ref q9), (0, .ref (ad 0)), (1, .int a1), (2, .int a2), (3, .int a3), (4, .ref qo)]) hx hb dL_addRemand_23 hl (Nat.le_of_ble_eq_true rfl) rfl (fun ls hl => ?_)
      refine lv_iconst (v := 3) hx hb dL_addRemand_25 (by decide) ?_
      exact k_liret F hr hlk hw (Nat.le_of_ble_eq_true rfl) (Nat.le_of_ble_eq_true rfl) dL_addRemand_26
  · have hc0 : c0 = 0 := by
      rcases hc with ⟨h1, h2⟩ | ⟨h1, h2⟩ | ⟨h1, h2⟩ | ⟨h1, h2⟩
      · exact h2
      · rw [hk9] at h1; cases h1
      · rw [hk9] at h1; cases h1
      · rw [hk9] at h1; cases h1
    subst hc0; subst hk9
    refine lv_i2l hx hb dL_addRemand_10 rfl ?_
    refine k_lst (w' := wX G ad xr ++ [(qo, .inl (G.2 1, 1, .inr (.inl (vp_updL o 0 (rv.toInt64)))))]) F hw 34 rfl (by decide) rfl dL_addRemand_11 (fun H locs hw => ?_)
    refine lv_goto (tgt := 27) hx hb dL_addRemand_12 rfl ?_
    refine lv_iconst (v := 0) hx hb dL_addRemand_27 (by decide) ?_
    exact k_liret F hr hlk hw (Nat.le_of_ble_eq_true rfl) (Nat.le_of_ble_eq_true rfl) dL_addRemand_28
set_option maxHeartbeats 4000000 in
set_option maxRecDepth 100000 in
theorem t_L_addedDays {G : gG} {l : Launch} (hlt : l.stackTraces = false) {ad : Nat → Nat} {qo n : Nat} {x : SX} {o : Nat → Int64} {a1 : Int32} {k0 : Nat} {rv c0 : Int32} (hf : f_X6_addedDays n x a1 = some (k0, rv)) (hc : (k0 = 0 ∧ c0 = 0) ∨ (k0 = 3 ∧ c0 = 1) ∨ (k0 = 2 ∧ c0 = 2)) : MetL PrW G l yL_addedDays cL_addedDays 4 (some .int) hh_L_addedDays 9 2 12 163 [.ref (ad 0), .int a1, .ref qo] (wX G ad x ++ [(qo, .inl (G.2 1, 1, .inr (.inl o)))]) (wX G ad x ++ [(qo, .inl (G.2 1, 1, .inr (.inl (if k0 = 0 then vp_updL o 0 rv.toInt64 else o))))]) c0 := by
  refine k_ofL (by decide) (Nat.le_of_ble_eq_true rfl) ?_
  intro p e s m args below meth c ls A F hr hlk htab hl hw hZ
  have hx := F.1
  have hb := F.2.1
  have hl : lv_has ls 4 [(0, .ref (ad 0)), (1, .int a1), (2, .ref qo)] := hl
  have htab : c.exceptionTable.toList = [⟨0, 9, 12, 44⟩, ⟨0, 9, 15, 35⟩] := htab
  refine lv_aload_n hx hb dL_addedDays_0 rfl (lv_at hl 2 rfl) ?_
  refine lv_iconst (v := 0) hx hb dL_addedDays_1 (by decide) ?_
  refine lv_aload_n hx hb dL_addedDays_2 rfl (lv_at hl 0 rfl) ?_
  refine lv_iload_n hx hb dL_addedDays_3 rfl (lv_at hl 1 rfl) ?_
  refine k_xcallVi (wl := []) (wr := [(qo, .inl (G.2 1, 1, .inr (.inl o)))]) (rest := [.int 0, .ref qo]) (As := [.int a1]) F wsh_in (t_X6_addedDays hlt hf) cv_X6_addedDays ml_L_97 hZ.1 hw 0 rfl rfl rfl hl.1 rfl (Nat.le_of_ble_eq_true rfl) ⟨Nat.le_of_ble_eq_true rfl, Nat.le_of_ble_eq_true rfl⟩ ⟨Nat.le_of_ble_eq_true rfl, Nat.le_of_ble_eq_true rfl⟩ dL_addedDays_4 (fun hk9 E ce q9 H locs hE hw g1 g2 g3 => ?_) (fun hk9 H locs hw => ?_)
  · rcases hc with ⟨rfl, rfl⟩ | ⟨rfl, rfl⟩ | ⟨rfl, rfl⟩
    · exact absurd rfl hk9
    · subst hE
      refine vx_catch (own := RL) (name := exn 3) F.2.2.2.1 [] ⟨0, 9, 12, 44⟩ [⟨0, 9, 15, 35⟩] htab (fun z hz => by cases hz) (by decide) (by decide) (F.2.2.2.2 _ (wsh_in _ lkx_3)) (hZ.1.2.2.use (by decide)) g1 g2 g3 ?_
      refine lv_astore_n (lv' := [(3, .ref q9), (0, .ref (ad 0)), (1, .int a1), (2, .ref qo)]) hx hb dL_addedDays_12 rfl hl (Nat.le_of_ble_eq_true rfl) rfl (fun ls hl => ?_)
      refine lv_iconst (v := 1) hx hb dL_addedDays_13 (by decide) ?_
      exact k_liret F hr hlk hw (Nat.le_of_ble_eq_true rfl) (Nat.le_of_ble_eq_true rfl) dL_addedDays_14
    · subst hE
      refine vx_catch (own := RL) (name := exn 2) F.2.2.2.1 [⟨0, 9, 12, 44⟩] ⟨0, 9, 15, 35⟩ [] htab (fun z hz => by
          simp only [List.mem_cons, List.not_mem_nil, or_false] at hz
          rcases hz with rfl
          · exact Or.inr ⟨by decide, exn 3, F.2.2.2.2 _ (wsh_in _ lkx_3), hZ.2 2 3 (by decide) (by decide) (by decide) (by decide) (by decide)⟩) (by decide) (by decide) (F.2.2.2.2 _ (wsh_in _ lkx_2)) (hZ.1.2.2.use (by decide)) g1 g2 g3 ?_
      refine lv_astore_n (lv' := [(3, .ref q9), (0, .ref (ad 0)), (1, .int a1), (2, .ref qo)]) hx hb dL_addedDays_15 rfl hl (Nat.le_of_ble_eq_true rfl) rfl (fun ls hl => ?_)
      refine lv_iconst (v := 2) hx hb dL_addedDays_16 (by decide) ?_
      exact k_liret F hr hlk hw (Nat.le_of_ble_eq_true rfl) (Nat.le_of_ble_eq_true rfl) dL_addedDays_17
  · have hc0 : c0 = 0 := by
      rcases hc with ⟨h1, h2⟩ | ⟨h1, h2⟩ | ⟨h1, h2⟩
      · exact h2
      · rw [hk9] at h1; cases h1
      · rw [hk9] at h1; cases h1
    subst hc0; subst hk9
    refine lv_i2l hx hb dL_addedDays_7 rfl ?_
    refine k_lst (w' := wX G ad x ++ [(qo, .inl (G.2 1, 1, .inr (.inl (vp_updL o 0 (rv.toInt64)))))]) F hw 34 rfl (by decide) rfl dL_addedDays_8 (fun H locs hw => ?_)
    refine lv_goto (tgt := 18) hx hb dL_addedDays_9 rfl ?_
    refine lv_iconst (v := 0) hx hb dL_addedDays_18 (by decide) ?_
    exact k_liret F hr hlk hw (Nat.le_of_ble_eq_true rfl) (Nat.le_of_ble_eq_true rfl) dL_addedDays_19
set_option maxHeartbeats 4000000 in
set_option maxRecDepth 100000 in
theorem t_L_advance {G : gG} {l : Launch} (hlt : l.stackTraces = false) {ad : Nat → Nat} {qo n : Nat} {x xr : SX} {o : Nat → Int64} {a1 : Int32} {k0 : Nat} {rv c0 : Int32} (hf : f_X6_advance n x a1 = some (k0, rv, xr)) (hc : (k0 = 0 ∧ c0 = 0) ∨ (k0 = 1 ∧ c0 = 1) ∨ (k0 = 2 ∧ c0 = 2)) : MetL PrW G l yL_advance cL_advance 4 (some .int) hh_L_advance 7 1 6 137 [.ref (ad 0), .int a1, .ref qo] (wX G ad x ++ [(qo, .inl (G.2 1, 1, .inr (.inl o)))]) (wX G ad xr ++ [(qo, .inl (G.2 1, 1, .inr (.inl (if k0 = 0 then vp_updL o 0 rv.toInt64 else o))))]) c0 := by
  refine k_ofL (by decide) (Nat.le_of_ble_eq_true rfl) ?_
  intro p e s m args below meth c ls A F hr hlk htab hl hw hZ
  have hx := F.1
  have hb := F.2.1
  have hl : lv_has ls 4 [(0, .ref (ad 0)), (1, .int a1), (2, .ref qo)] := hl
  have htab : c.exceptionTable.toList = [⟨0, 9, 12, 13⟩, ⟨0, 9, 15, 35⟩] := htab
  refine lv_aload_n hx hb dL_advance_0 rfl (lv_at hl 2 rfl) ?_
  refine lv_iconst (v := 0) hx hb dL_advance_1 (by decide) ?_
  refine lv_aload_n hx hb dL_advance_2 rfl (lv_at hl 0 rfl) ?_
  refine lv_iload_n hx hb dL_advance_3 rfl (lv_at hl 1 rfl) ?_
  refine k_xcallVi (wl := []) (wr := [(qo, .inl (G.2 1, 1, .inr (.inl o)))]) (rest := [.int 0, .ref qo]) (As := [.int a1]) F wsh_in (t_X6_advance hlt hf) cv_X6_advance ml_L_32 hZ.1 hw 0 rfl rfl rfl hl.1 rfl (Nat.le_of_ble_eq_true rfl) ⟨Nat.le_of_ble_eq_true rfl, Nat.le_of_ble_eq_true rfl⟩ ⟨Nat.le_of_ble_eq_true rfl, Nat.le_of_ble_eq_true rfl⟩ dL_advance_4 (fun hk9 E ce q9 H locs hE hw g1 g2 g3 => ?_) (fun hk9 H locs hw => ?_)
  · rcases hc with ⟨rfl, rfl⟩ | ⟨rfl, rfl⟩ | ⟨rfl, rfl⟩
    · exact absurd rfl hk9
    · subst hE
      refine vx_catch (own := RL) (name := exn 1) F.2.2.2.1 [] ⟨0, 9, 12, 13⟩ [⟨0, 9, 15, 35⟩] htab (fun z hz => by cases hz) (by decide) (by decide) (F.2.2.2.2 _ (wsh_in _ lkx_1)) (hZ.1.2.2.use (by decide)) g1 g2 g3 ?_
      refine lv_astore_n (lv' := [(3, .ref q9), (0, .ref (ad 0)), (1, .int a1), (2, .ref qo)]) hx hb dL_advance_12 rfl hl (Nat.le_of_ble_eq_true rfl) rfl (fun ls hl => ?_)
      refine lv_iconst (v := 1) hx hb dL_advance_13 (by decide) ?_
      exact k_liret F hr hlk hw (Nat.le_of_ble_eq_true rfl) (Nat.le_of_ble_eq_true rfl) dL_advance_14
    · subst hE
      refine vx_catch (own := RL) (name := exn 2) F.2.2.2.1 [⟨0, 9, 12, 13⟩] ⟨0, 9, 15, 35⟩ [] htab (fun z hz => by
          simp only [List.mem_cons, List.not_mem_nil, or_false] at hz
          rcases hz with rfl
          · exact Or.inr ⟨by decide, exn 1, F.2.2.2.2 _ (wsh_in _ lkx_1), hZ.2 2 1 (by decide) (by decide) (by decide) (by decide) (by decide)⟩) (by decide) (by decide) (F.2.2.2.2 _ (wsh_in _ lkx_2)) (hZ.1.2.2.use (by decide)) g1 g2 g3 ?_
      refine lv_astore_n (lv' := [(3, .ref q9), (0, .ref (ad 0)), (1, .int a1), (2, .ref qo)]) hx hb dL_advance_15 rfl hl (Nat.le_of_ble_eq_true rfl) rfl (fun ls hl => ?_)
      refine lv_iconst (v := 2) hx hb dL_advance_16 (by decide) ?_
      exact k_liret F hr hlk hw (Nat.le_of_ble_eq_true rfl) (Nat.le_of_ble_eq_true rfl) dL_advance_17
  · have hc0 : c0 = 0 := by
      rcases hc with ⟨h1, h2⟩ | ⟨h1, h2⟩ | ⟨h1, h2⟩
      · exact h2
      · rw [hk9] at h1; cases h1
      · rw [hk9] at h1; cases h1
    subst hc0; subst hk9
    refine lv_i2l hx hb dL_advance_7 rfl ?_
    refine k_lst (w' := wX G ad xr ++ [(qo, .inl (G.2 1, 1, .inr (.inl (vp_updL o 0 (rv.toInt64)))))]) F hw 34 rfl (by decide) rfl dL_advance_8 (fun H locs hw => ?_)
    refine lv_goto (tgt := 18) hx hb dL_advance_9 rfl ?_
    refine lv_iconst (v := 0) hx hb dL_advance_18 (by decide) ?_
    exact k_liret F hr hlk hw (Nat.le_of_ble_eq_true rfl) (Nat.le_of_ble_eq_true rfl) dL_advance_19
set_option maxHeartbeats 4000000 in
set_option maxRecDepth 100000 in
theorem t_L_award {G : gG} {l : Launch} (hlt : l.stackTraces = false) {ad : Nat → Nat} {qo n : Nat} {x xr : SX} {o : Nat → Int64} {a1 : Int32} {k0 : Nat} {rv c0 : Int32} (hf : f_X6_award n x a1 = some (k0, rv, xr)) (hc : (k0 = 0 ∧ c0 = 0) ∨ (k0 = 1 ∧ c0 = 1) ∨ (k0 = 2 ∧ c0 = 2)) : MetL PrW G l yL_award cL_award 4 (some .int) hh_L_award 8 2 12 142 [.ref (ad 0), .int a1, .ref qo] (wX G ad x ++ [(qo, .inl (G.2 1, 1, .inr (.inl o)))]) (wX G ad xr ++ [(qo, .inl (G.2 1, 1, .inr (.inl (if k0 = 0 then vp_updL o 0 rv.toInt64 else o))))]) c0 := by
  refine k_ofL (by decide) (Nat.le_of_ble_eq_true rfl) ?_
  intro p e s m args below meth c ls A F hr hlk htab hl hw hZ
  have hx := F.1
  have hb := F.2.1
  have hl : lv_has ls 4 [(0, .ref (ad 0)), (1, .int a1), (2, .ref qo)] := hl
  have htab : c.exceptionTable.toList = [⟨0, 9, 12, 13⟩, ⟨0, 9, 15, 35⟩] := htab
  refine lv_aload_n hx hb dL_award_0 rfl (lv_at hl 2 rfl) ?_
  refine lv_iconst (v := 0) hx hb dL_award_1 (by decide) ?_
  refine lv_aload_n hx hb dL_award_2 rfl (lv_at hl 0 rfl) ?_
  refine lv_iload_n hx hb dL_award_3 rfl (lv_at hl 1 rfl) ?_
  refine k_xcallVi (wl := []) (wr := [(qo, .inl (G.2 1, 1, .inr (.inl o)))]) (rest := [.int 0, .ref qo]) (As := [.int a1]) F wsh_in (t_X6_award hlt hf) cv_X6_award ml_L_52 hZ.1 hw 0 rfl rfl rfl hl.1 rfl (Nat.le_of_ble_eq_true rfl) ⟨Nat.le_of_ble_eq_true rfl, Nat.le_of_ble_eq_true rfl⟩ ⟨Nat.le_of_ble_eq_true rfl, Nat.le_of_ble_eq_true rfl⟩ dL_award_4 (fun hk9 E ce q9 H locs hE hw g1 g2 g3 => ?_) (fun hk9 H locs hw => ?_)
  · rcases hc with ⟨rfl, rfl⟩ | ⟨rfl, rfl⟩ | ⟨rfl, rfl⟩
    · exact absurd rfl hk9
    · subst hE
      refine vx_catch (own := RL) (name := exn 1) F.2.2.2.1 [] ⟨0, 9, 12, 13⟩ [⟨0, 9, 15, 35⟩] htab (fun z hz => by cases hz) (by decide) (by decide) (F.2.2.2.2 _ (wsh_in _ lkx_1)) (hZ.1.2.2.use (by decide)) g1 g2 g3 ?_
      refine lv_astore_n (lv' := [(3, .ref q9), (0, .ref (ad 0)), (1, .int a1), (2, .ref qo)]) hx hb dL_award_12 rfl hl (Nat.le_of_ble_eq_true rfl) rfl (fun ls hl => ?_)
      refine lv_iconst (v := 1) hx hb dL_award_13 (by decide) ?_
      exact k_liret F hr hlk hw (Nat.le_of_ble_eq_true rfl) (Nat.le_of_ble_eq_true rfl) dL_award_14
    · subst hE
      refine vx_catch (own := RL) (name := exn 2) F.2.2.2.1 [⟨0, 9, 12, 13⟩] ⟨0, 9, 15, 35⟩ [] htab (fun z hz => by
          simp only [List.mem_cons, List.not_mem_nil, or_false] at hz
          rcases hz with rfl
          · exact Or.inr ⟨by decide, exn 1, F.2.2.2.2 _ (wsh_in _ lkx_1), hZ.2 2 1 (by decide) (by decide) (by decide) (by decide) (by decide)⟩) (by decide) (by decide) (F.2.2.2.2 _ (wsh_in _ lkx_2)) (hZ.1.2.2.use (by decide)) g1 g2 g3 ?_
      refine lv_astore_n (lv' := [(3, .ref q9), (0, .ref (ad 0)), (1, .int a1), (2, .ref qo)]) hx hb dL_award_15 rfl hl (Nat.le_of_ble_eq_true rfl) rfl (fun ls hl => ?_)
      refine lv_iconst (v := 2) hx hb dL_award_16 (by decide) ?_
      exact k_liret F hr hlk hw (Nat.le_of_ble_eq_true rfl) (Nat.le_of_ble_eq_true rfl) dL_award_17
  · have hc0 : c0 = 0 := by
      rcases hc with ⟨h1, h2⟩ | ⟨h1, h2⟩ | ⟨h1, h2⟩
      · exact h2
      · rw [hk9] at h1; cases h1
      · rw [hk9] at h1; cases h1
    subst hc0; subst hk9
    refine lv_i2l hx hb dL_award_7 rfl ?_
    refine k_lst (w' := wX G ad xr ++ [(qo, .inl (G.2 1, 1, .inr (.inl (vp_updL o 0 (rv.toInt64)))))]) F hw 34 rfl (by decide) rfl dL_award_8 (fun H locs hw => ?_)
    refine lv_goto (tgt := 18) hx hb dL_award_9 rfl ?_
    refine lv_iconst (v := 0) hx hb dL_award_18 (by decide) ?_
    exact k_liret F hr hlk hw (Nat.le_of_ble_eq_true rfl) (Nat.le_of_ble_eq_true rfl) dL_award_19
set_option maxHeartbeats 4000000 in
set_option maxRecDepth 100000 in
theorem t_L_awardDays {G : gG} {l : Launch} (hlt : l.stackTraces = false) {ad : Nat → Nat} {qo n : Nat} {x : SX} {o : Nat → Int64} {a1 : Int32} {k0 : Nat} {rv c0 : Int32} (hf : f_X6_awardDays n x a1 = some (k0, rv)) (hc : (k0 = 0 ∧ c0 = 0) ∨ (k0 = 3 ∧ c0 = 1)) : MetL PrW G l yL_awardDays cL_awardDays 4 (some .int) hh_L_awardDays 8 1 6 142 [.ref (ad 0), .int a1, .ref qo] (wX G ad x ++ [(qo, .inl (G.2 1, 1, .inr (.inl o)))]) (wX G ad x ++ [(qo, .inl (G.2 1, 1, .inr (.inl (if k0 = 0 then vp_updL o 0 rv.toInt64 else o))))]) c0 := by
  refine k_ofL (by decide) (Nat.le_of_ble_eq_true rfl) ?_
  intro p e s m args below meth c ls A F hr hlk htab hl hw hZ
  have hx := F.1
  have hb := F.2.1
  have hl : lv_has ls 4 [(0, .ref (ad 0)), (1, .int a1), (2, .ref qo)] := hl
  have htab : c.exceptionTable.toList = [⟨0, 9, 12, 44⟩] := htab
  refine lv_aload_n hx hb dL_awardDays_0 rfl (lv_at hl 2 rfl) ?_
  refine lv_iconst (v := 0) hx hb dL_awardDays_1 (by decide) ?_
  refine lv_aload_n hx hb dL_awardDays_2 rfl (lv_at hl 0 rfl) ?_
  refine lv_iload_n hx hb dL_awardDays_3 rfl (lv_at hl 1 rfl) ?_
  refine k_xcallVi (wl := []) (wr := [(qo, .inl (G.2 1, 1, .inr (.inl o)))]) (rest := [.int 0, .ref qo]) (As := [.int a1]) F wsh_in (t_X6_awardDays hlt hf) cv_X6_awardDays ml_L_125 hZ.1 hw 0 rfl rfl rfl hl.1 rfl (Nat.le_of_ble_eq_true rfl) ⟨Nat.le_of_ble_eq_true rfl, Nat.le_of_ble_eq_true rfl⟩ ⟨Nat.le_of_ble_eq_true rfl, Nat.le_of_ble_eq_true rfl⟩ dL_awardDays_4 (fun hk9 E ce q9 H locs hE hw g1 g2 g3 => ?_) (fun hk9 H locs hw => ?_)
  · rcases hc with ⟨rfl, rfl⟩ | ⟨rfl, rfl⟩
    · exact absurd rfl hk9
    · subst hE
      refine vx_catch (own := RL) (name := exn 3) F.2.2.2.1 [] ⟨0, 9, 12, 44⟩ [] htab (fun z hz => by cases hz) (by decide) (by decide) (F.2.2.2.2 _ (wsh_in _ lkx_3)) (hZ.1.2.2.use (by decide)) g1 g2 g3 ?_
      refine lv_astore_n (lv' := [(3, .ref q9), (0, .ref (ad 0)), (1, .int a1), (2, .ref qo)]) hx hb dL_awardDays_12 rfl hl (Nat.le_of_ble_eq_true rfl) rfl (fun ls hl => ?_)
      refine lv_iconst (v := 1) hx hb dL_awardDays_13 (by decide) ?_
      exact k_liret F hr hlk hw (Nat.le_of_ble_eq_true rfl) (Nat.le_of_ble_eq_true rfl) dL_awardDays_14
  · have hc0 : c0 = 0 := by
      rcases hc with ⟨h1, h2⟩ | ⟨h1, h2⟩
      · exact h2
      · rw [hk9] at h1; cases h1
    subst hc0; subst hk9
    refine lv_i2l hx hb dL_awardDays_7 rfl ?_
    refine k_lst (w' := wX G ad x ++ [(qo, .inl (G.2 1, 1, .inr (.inl (vp_updL o 0 (rv.toInt64)))))]) F hw 34 rfl (by decide) rfl dL_awardDays_8 (fun H locs hw => ?_)
    refine lv_goto (tgt := 15) hx hb dL_awardDays_9 rfl ?_
    refine lv_iconst (v := 0) hx hb dL_awardDays_15 (by decide) ?_
    exact k_liret F hr hlk hw (Nat.le_of_ble_eq_true rfl) (Nat.le_of_ble_eq_true rfl) dL_awardDays_16
set_option maxHeartbeats 4000000 in
set_option maxRecDepth 100000 in
theorem t_L_chainLength {G : gG} {l : Launch} (hlt : l.stackTraces = false) {ad : Nat → Nat} {qo n : Nat} {x : SX} {o : Nat → Int64} {a1 : Int32} {k0 : Nat} {rv c0 : Int32} (hf : f_X6_chainLength n x a1 = some (k0, rv)) (hc : (k0 = 0 ∧ c0 = 0) ∨ (k0 = 3 ∧ c0 = 1) ∨ (k0 = 2 ∧ c0 = 2)) : MetL PrW G l yL_chainLength cL_chainLength 4 (some .int) hh_L_chainLength 9 2 12 163 [.ref (ad 0), .int a1, .ref qo] (wX G ad x ++ [(qo, .inl (G.2 1, 1, .inr (.inl o)))]) (wX G ad x ++ [(qo, .inl (G.2 1, 1, .inr (.inl (if k0 = 0 then vp_updL o 0 rv.toInt64 else o))))]) c0 := by
  refine k_ofL (by decide) (Nat.le_of_ble_eq_true rfl) ?_
  intro p e s m args below meth c ls A F hr hlk htab hl hw hZ
  have hx := F.1
  have hb := F.2.1
  have hl : lv_has ls 4 [(0, .ref (ad 0)), (1, .int a1), (2, .ref qo)] := hl
  have htab : c.exceptionTable.toList = [⟨0, 9, 12, 44⟩, ⟨0, 9, 15, 35⟩] := htab
  refine lv_aload_n hx hb dL_chainLength_0 rfl (lv_at hl 2 rfl) ?_
  refine lv_iconst (v := 0) hx hb dL_chainLength_1 (by decide) ?_
  refine lv_aload_n hx hb dL_chainLength_2 rfl (lv_at hl 0 rfl) ?_
  refine lv_iload_n hx hb dL_chainLength_3 rfl (lv_at hl 1 rfl) ?_
  refine k_xcallVi (wl := []) (wr := [(qo, .inl (G.2 1, 1, .inr (.inl o)))]) (rest := [.int 0, .ref qo]) (As := [.int a1]) F wsh_in (t_X6_chainLength hlt hf) cv_X6_chainLength ml_L_73 hZ.1 hw 0 rfl rfl rfl hl.1 rfl (Nat.le_of_ble_eq_true rfl) ⟨Nat.le_of_ble_eq_true rfl, Nat.le_of_ble_eq_true rfl⟩ ⟨Nat.le_of_ble_eq_true rfl, Nat.le_of_ble_eq_true rfl⟩ dL_chainLength_4 (fun hk9 E ce q9 H locs hE hw g1 g2 g3 => ?_) (fun hk9 H locs hw => ?_)
  · rcases hc with ⟨rfl, rfl⟩ | ⟨rfl, rfl⟩ | ⟨rfl, rfl⟩
    · exact absurd rfl hk9
    · subst hE
      refine vx_catch (own := RL) (name := exn 3) F.2.2.2.1 [] ⟨0, 9, 12, 44⟩ [⟨0, 9, 15, 35⟩] htab (fun z hz => by cases hz) (by decide) (by decide) (F.2.2.2.2 _ (wsh_in _ lkx_3)) (hZ.1.2.2.use (by decide)) g1 g2 g3 ?_
      refine lv_astore_n (lv' := [(3, .ref q9), (0, .ref (ad 0)), (1, .int a1), (2, .ref qo)]) hx hb dL_chainLength_12 rfl hl (Nat.le_of_ble_eq_true rfl) rfl (fun ls hl => ?_)
      refine lv_iconst (v := 1) hx hb dL_chainLength_13 (by decide) ?_
      exact k_liret F hr hlk hw (Nat.le_of_ble_eq_true rfl) (Nat.le_of_ble_eq_true rfl) dL_chainLength_14
    · subst hE
      refine vx_catch (own := RL) (name := exn 2) F.2.2.2.1 [⟨0, 9, 12, 44⟩] ⟨0, 9, 15, 35⟩ [] htab (fun z hz => by
          simp only [List.mem_cons, List.not_mem_nil, or_false] at hz
          rcases hz with rfl
          · exact Or.inr ⟨by decide, exn 3, F.2.2.2.2 _ (wsh_in _ lkx_3), hZ.2 2 3 (by decide) (by decide) (by decide) (by decide) (by decide)⟩) (by decide) (by decide) (F.2.2.2.2 _ (wsh_in _ lkx_2)) (hZ.1.2.2.use (by decide)) g1 g2 g3 ?_
      refine lv_astore_n (lv' := [(3, .ref q9), (0, .ref (ad 0)), (1, .int a1), (2, .ref qo)]) hx hb dL_chainLength_15 rfl hl (Nat.le_of_ble_eq_true rfl) rfl (fun ls hl => ?_)
      refine lv_iconst (v := 2) hx hb dL_chainLength_16 (by decide) ?_
      exact k_liret F hr hlk hw (Nat.le_of_ble_eq_true rfl) (Nat.le_of_ble_eq_true rfl) dL_chainLength_17
  · have hc0 : c0 = 0 := by
      rcases hc with ⟨h1, h2⟩ | ⟨h1, h2⟩ | ⟨h1, h2⟩
      · exact h2
      · rw [hk9] at h1; cases h1
      · rw [hk9] at h1; cases h1
    subst hc0; subst hk9
    refine lv_i2l hx hb dL_chainLength_7 rfl ?_
    refine k_lst (w' := wX G ad x ++ [(qo, .inl (G.2 1, 1, .inr (.inl (vp_updL o 0 (rv.toInt64)))))]) F hw 34 rfl (by decide) rfl dL_chainLength_8 (fun H locs hw => ?_)
    refine lv_goto (tgt := 18) hx hb dL_chainLength_9 rfl ?_
    refine lv_iconst (v := 0) hx hb dL_chainLength_18 (by decide) ?_
    exact k_liret F hr hlk hw (Nat.le_of_ble_eq_true rfl) (Nat.le_of_ble_eq_true rfl) dL_chainLength_19
set_option maxHeartbeats 4000000 in
set_option maxRecDepth 100000 in
theorem t_L_concerns {G : gG} {l : Launch} (hlt : l.stackTraces = false) {ad : Nat → Nat} {qo n : Nat} {x : SX} {o : Nat → Int64} {a1 a2 : Int32} {k0 : Nat} {rv c0 : Int32} (hf : f_X6_concerns n x a1 a2 = some (k0, rv)) (hbz : rv = 0 ∨ rv = 1) (hc : (k0 = 0 ∧ c0 = 0) ∨ (k0 = 3 ∧ c0 = 1)) : MetL PrW G l yL_concerns cL_concerns 5 (some .int) hh_L_concerns 8 2 12 143 [.ref (ad 0), .int a1, .int a2, .ref qo] (wX G ad x ++ [(qo, .inl (G.2 1, 1, .inr (.inl o)))]) (wX G ad x ++ [(qo, .inl (G.2 1, 1, .inr (.inl (if k0 = 0 then vp_updL o 0 rv.toInt64 else o))))]) c0 := by
  refine k_ofL (by decide) (Nat.le_of_ble_eq_true rfl) ?_
  intro p e s m args below meth c ls A F hr hlk htab hl hw hZ
  have hx := F.1
  have hb := F.2.1
  have hl : lv_has ls 5 [(0, .ref (ad 0)), (1, .int a1), (2, .int a2), (3, .ref qo)] := hl
  have htab : c.exceptionTable.toList = [⟨0, 17, 20, 44⟩] := htab
  refine lv_aload_n hx hb dL_concerns_0 rfl (lv_at hl 3 rfl) ?_
  refine lv_iconst (v := 0) hx hb dL_concerns_1 (by decide) ?_
  refine lv_aload_n hx hb dL_concerns_2 rfl (lv_at hl 0 rfl) ?_
  refine lv_iload_n hx hb dL_concerns_3 rfl (lv_at hl 1 rfl) ?_
  refine lv_iload_n hx hb dL_concerns_4 rfl (lv_at hl 2 rfl) ?_
  refine k_xcallVi (wl := []) (wr := [(qo, .inl (G.2 1, 1, .inr (.inl o)))]) (rest := [.int 0, .ref qo]) (As := [.int a1, .int a2]) F wsh_in (t_X6_concerns hlt hf) cv_X6_concerns ml_L_128 hZ.1 hw 0 rfl rfl rfl hl.1 rfl (Nat.le_of_ble_eq_true rfl) ⟨Nat.le_of_ble_eq_true rfl, Nat.le_of_ble_eq_true rfl⟩ ⟨Nat.le_of_ble_eq_true rfl, Nat.le_of_ble_eq_true rfl⟩ dL_concerns_5 (fun hk9 E ce q9 H locs hE hw g1 g2 g3 => ?_) (fun hk9 H locs hw => ?_)
  · rcases hc with ⟨rfl, rfl⟩ | ⟨rfl, rfl⟩
    · exact absurd rfl hk9
    · subst hE
      refine vx_catch (own := RL) (name := exn 3) F.2.2.2.1 [] ⟨0, 17, 20, 44⟩ [] htab (fun z hz => by cases hz) (by decide) (by decide) (F.2.2.2.2 _ (wsh_in _ lkx_3)) (hZ.1.2.2.use (by decide)) g1 g2 g3 ?_
      refine lv_astore (lv' := [(4, .ref q9), (0, .ref (ad 0)), (1, .int a1), (2, .int a2), (3, .ref qo)]) hx hb dL_concerns_20 hl (Nat.le_of_ble_eq_true rfl) rfl (fun ls hl => ?_)
      refine lv_iconst (v := 1) hx hb dL_concerns_22 (by decide) ?_
      exact k_liret F hr hlk hw (Nat.le_of_ble_eq_true rfl) (Nat.le_of_ble_eq_true rfl) dL_concerns_23
  · have hc0 : c0 = 0 := by
      rcases hc with ⟨h1, h2⟩ | ⟨h1, h2⟩
      · exact h2
      · rw [hk9] at h1; cases h1
    subst hc0; subst hk9
    have hz : rv = 0 ∨ rv = 1 := hbz
    refine lv_if_eq (tgt := 15) hx hb dL_concerns_8 rfl (fun cz => ?_) (fun cz => ?_)
    · subst cz
      refine lv_lconst (v := 0) hx hb dL_concerns_15 (by decide) ?_
      refine k_lst (w' := wX G ad x ++ [(qo, .inl (G.2 1, 1, .inr (.inl (vp_updL o 0 ((0 : Int32).toInt64)))))]) F hw 34 rfl (by decide) rfl dL_concerns_16 (fun H locs hw => ?_)
      refine lv_goto (tgt := 24) hx hb dL_concerns_17 rfl ?_
      refine lv_iconst (v := 0) hx hb dL_concerns_24 (by decide) ?_
      exact k_liret F hr hlk hw (Nat.le_of_ble_eq_true rfl) (Nat.le_of_ble_eq_true rfl) dL_concerns_25
    · obtain rfl : rv = 1 := hz.resolve_left cz
      refine lv_lconst (v := 1) hx hb dL_concerns_11 (by decide) ?_
      refine lv_goto (tgt := 16) hx hb dL_concerns_12 rfl ?_
      refine k_lst (w' := wX G ad x ++ [(qo, .inl (G.2 1, 1, .inr (.inl (vp_updL o 0 ((1 : Int32).toInt64)))))]) F hw 34 rfl (by decide) rfl dL_concerns_16 (fun H locs hw => ?_)
      refine lv_goto (tgt := 24) hx hb dL_concerns_17 rfl ?_
      refine lv_iconst (v := 0) hx hb dL_concerns_24 (by decide) ?_
      exact k_liret F hr hlk hw (Nat.le_of_ble_eq_true rfl) (Nat.le_of_ble_eq_true rfl) dL_concerns_25
set_option maxHeartbeats 4000000 in
set_option maxRecDepth 100000 in
theorem t_L_credit {G : gG} {l : Launch} (hlt : l.stackTraces = false) {ad : Nat → Nat} {qo n : Nat} {x : SX} {o : Nat → Int64} {a1 : Int32} {k0 : Nat} {rv c0 : Int32} (hf : f_X6_credit n x a1 = some (k0, rv)) (hc : (k0 = 0 ∧ c0 = 0) ∨ (k0 = 3 ∧ c0 = 1) ∨ (k0 = 2 ∧ c0 = 2)) : MetL PrW G l yL_credit cL_credit 4 (some .int) hh_L_credit 9 2 12 163 [.ref (ad 0), .int a1, .ref qo] (wX G ad x ++ [(qo, .inl (G.2 1, 1, .inr (.inl o)))]) (wX G ad x ++ [(qo, .inl (G.2 1, 1, .inr (.inl (if k0 = 0 then vp_updL o 0 rv.toInt64 else o))))]) c0 := by
  refine k_ofL (by decide) (Nat.le_of_ble_eq_true rfl) ?_
  intro p e s m args below meth c ls A F hr hlk htab hl hw hZ
  have hx := F.1
  have hb := F.2.1
  have hl : lv_has ls 4 [(0, .ref (ad 0)), (1, .int a1), (2, .ref qo)] := hl
  have htab : c.exceptionTable.toList = [⟨0, 9, 12, 44⟩, ⟨0, 9, 15, 35⟩] := htab
  refine lv_aload_n hx hb dL_credit_0 rfl (lv_at hl 2 rfl) ?_
  refine lv_iconst (v := 0) hx hb dL_credit_1 (by decide) ?_
  refine lv_aload_n hx hb dL_credit_2 rfl (lv_at hl 0 rfl) ?_
  refine lv_iload_n hx hb dL_credit_3 rfl (lv_at hl 1 rfl) ?_
  refine k_xcallVi (wl := []) (wr := [(qo, .inl (G.2 1, 1, .inr (.inl o)))]) (rest := [.int 0, .ref qo]) (As := [.int a1]) F wsh_in (t_X6_credit hlt hf) cv_X6_credit ml_L_91 hZ.1 hw 0 rfl rfl rfl hl.1 rfl (Nat.le_of_ble_eq_true rfl) ⟨Nat.le_of_ble_eq_true rfl, Nat.le_of_ble_eq_true rfl⟩ ⟨Nat.le_of_ble_eq_true rfl, Nat.le_of_ble_eq_true rfl⟩ dL_credit_4 (fun hk9 E ce q9 H locs hE hw g1 g2 g3 => ?_) (fun hk9 H locs hw => ?_)
  · rcases hc with ⟨rfl, rfl⟩ | ⟨rfl, rfl⟩ | ⟨rfl, rfl⟩
    · exact absurd rfl hk9
    · subst hE
      refine vx_catch (own := RL) (name := exn 3) F.2.2.2.1 [] ⟨0, 9, 12, 44⟩ [⟨0, 9, 15, 35⟩] htab (fun z hz => by cases hz) (by decide) (by decide) (F.2.2.2.2 _ (wsh_in _ lkx_3)) (hZ.1.2.2.use (by decide)) g1 g2 g3 ?_
      refine lv_astore_n (lv' := [(3, .ref q9), (0, .ref (ad 0)), (1, .int a1), (2, .ref qo)]) hx hb dL_credit_12 rfl hl (Nat.le_of_ble_eq_true rfl) rfl (fun ls hl => ?_)
      refine lv_iconst (v := 1) hx hb dL_credit_13 (by decide) ?_
      exact k_liret F hr hlk hw (Nat.le_of_ble_eq_true rfl) (Nat.le_of_ble_eq_true rfl) dL_credit_14
    · subst hE
      refine vx_catch (own := RL) (name := exn 2) F.2.2.2.1 [⟨0, 9, 12, 44⟩] ⟨0, 9, 15, 35⟩ [] htab (fun z hz => by
          simp only [List.mem_cons, List.not_mem_nil, or_false] at hz
          rcases hz with rfl
          · exact Or.inr ⟨by decide, exn 3, F.2.2.2.2 _ (wsh_in _ lkx_3), hZ.2 2 3 (by decide) (by decide) (by decide) (by decide) (by decide)⟩) (by decide) (by decide) (F.2.2.2.2 _ (wsh_in _ lkx_2)) (hZ.1.2.2.use (by decide)) g1 g2 g3 ?_
      refine lv_astore_n (lv' := [(3, .ref q9), (0, .ref (ad 0)), (1, .int a1), (2, .ref qo)]) hx hb dL_credit_15 rfl hl (Nat.le_of_ble_eq_true rfl) rfl (fun ls hl => ?_)
      refine lv_iconst (v := 2) hx hb dL_credit_16 (by decide) ?_
      exact k_liret F hr hlk hw (Nat.le_of_ble_eq_true rfl) (Nat.le_of_ble_eq_true rfl) dL_credit_17
  · have hc0 : c0 = 0 := by
      rcases hc with ⟨h1, h2⟩ | ⟨h1, h2⟩ | ⟨h1, h2⟩
      · exact h2
      · rw [hk9] at h1; cases h1
      · rw [hk9] at h1; cases h1
    subst hc0; subst hk9
    refine lv_i2l hx hb dL_credit_7 rfl ?_
    refine k_lst (w' := wX G ad x ++ [(qo, .inl (G.2 1, 1, .inr (.inl (vp_updL o 0 (rv.toInt64)))))]) F hw 34 rfl (by decide) rfl dL_credit_8 (fun H locs hw => ?_)
    refine lv_goto (tgt := 18) hx hb dL_credit_9 rfl ?_
    refine lv_iconst (v := 0) hx hb dL_credit_18 (by decide) ?_
    exact k_liret F hr hlk hw (Nat.le_of_ble_eq_true rfl) (Nat.le_of_ble_eq_true rfl) dL_credit_19
set_option maxHeartbeats 4000000 in
set_option maxRecDepth 100000 in
theorem t_L_creditByMerging {G : gG} {l : Launch} (hlt : l.stackTraces = false) {ad : Nat → Nat} {qo n : Nat} {x xr : SX} {o : Nat → Int64} {a1 : Int32} {k0 : Nat} {rv c0 : Int32} (hf : f_X6_creditByMerging n x a1 = some (k0, rv, xr)) (hc : (k0 = 0 ∧ c0 = 0) ∨ (k0 = 3 ∧ c0 = 1) ∨ (k0 = 2 ∧ c0 = 2)) : MetL PrW G l yL_creditByMerging cL_creditByMerging 4 (some .int) hh_L_creditByMerging 9 2 12 163 [.ref (ad 0), .int a1, .ref qo] (wX G ad x ++ [(qo, .inl (G.2 1, 1, .inr (.inl o)))]) (wX G ad xr ++ [(qo, .inl (G.2 1, 1, .inr (.inl (if k0 = 0 then vp_updL o 0 rv.toInt64 else o))))]) c0 := by
  refine k_ofL (by decide) (Nat.le_of_ble_eq_true rfl) ?_
  intro p e s m args below meth c ls A F hr hlk htab hl hw hZ
  have hx := F.1
  have hb := F.2.1
  have hl : lv_has ls 4 [(0, .ref (ad 0)), (1, .int a1), (2, .ref qo)] := hl
  have htab : c.exceptionTable.toList = [⟨0, 9, 12, 44⟩, ⟨0, 9, 15, 35⟩] := htab
  refine lv_aload_n hx hb dL_creditByMerging_0 rfl (lv_at hl 2 rfl) ?_
  refine lv_iconst (v := 0) hx hb dL_creditByMerging_1 (by decide) ?_
  refine lv_aload_n hx hb dL_creditByMerging_2 rfl (lv_at hl 0 rfl) ?_
  refine lv_iload_n hx hb dL_creditByMerging_3 rfl (lv_at hl 1 rfl) ?_
  refine k_xcallVi (wl := []) (wr := [(qo, .inl (G.2 1, 1, .inr (.inl o)))]) (rest := [.int 0, .ref qo]) (As := [.int a1]) F wsh_in (t_X6_creditByMerging hlt hf) cv_X6_creditByMerging ml_L_94 hZ.1 hw 0 rfl rfl rfl hl.1 rfl (Nat.le_of_ble_eq_true rfl) ⟨Nat.le_of_ble_eq_true rfl, Nat.le_of_ble_eq_true rfl⟩ ⟨Nat.le_of_ble_eq_true rfl, Nat.le_of_ble_eq_true rfl⟩ dL_creditByMerging_4 (fun hk9 E ce q9 H locs hE hw g1 g2 g3 => ?_) (fun hk9 H locs hw => ?_)
  · rcases hc with ⟨rfl, rfl⟩ | ⟨rfl, rfl⟩ | ⟨rfl, rfl⟩
    · exact absurd rfl hk9
    · subst hE
      refine vx_catch (own := RL) (name := exn 3) F.2.2.2.1 [] ⟨0, 9, 12, 44⟩ [⟨0, 9, 15, 35⟩] htab (fun z hz => by cases hz) (by decide) (by decide) (F.2.2.2.2 _ (wsh_in _ lkx_3)) (hZ.1.2.2.use (by decide)) g1 g2 g3 ?_
      refine lv_astore_n (lv' := [(3, .ref q9), (0, .ref (ad 0)), (1, .int a1), (2, .ref qo)]) hx hb dL_creditByMerging_12 rfl hl (Nat.le_of_ble_eq_true rfl) rfl (fun ls hl => ?_)
      refine lv_iconst (v := 1) hx hb dL_creditByMerging_13 (by decide) ?_
      exact k_liret F hr hlk hw (Nat.le_of_ble_eq_true rfl) (Nat.le_of_ble_eq_true rfl) dL_creditByMerging_14
    · subst hE
      refine vx_catch (own := RL) (name := exn 2) F.2.2.2.1 [⟨0, 9, 12, 44⟩] ⟨0, 9, 15, 35⟩ [] htab (fun z hz => by
          simp only [List.mem_cons, List.not_mem_nil, or_false] at hz
          rcases hz with rfl
          · exact Or.inr ⟨by decide, exn 3, F.2.2.2.2 _ (wsh_in _ lkx_3), hZ.2 2 3 (by decide) (by decide) (by decide) (by decide) (by decide)⟩) (by decide) (by decide) (F.2.2.2.2 _ (wsh_in _ lkx_2)) (hZ.1.2.2.use (by decide)) g1 g2 g3 ?_
      refine lv_astore_n (lv' := [(3, .ref q9), (0, .ref (ad 0)), (1, .int a1), (2, .ref qo)]) hx hb dL_creditByMerging_15 rfl hl (Nat.le_of_ble_eq_true rfl) rfl (fun ls hl => ?_)
      refine lv_iconst (v := 2) hx hb dL_creditByMerging_16 (by decide) ?_
      exact k_liret F hr hlk hw (Nat.le_of_ble_eq_true rfl) (Nat.le_of_ble_eq_true rfl) dL_creditByMerging_17
  · have hc0 : c0 = 0 := by
      rcases hc with ⟨h1, h2⟩ | ⟨h1, h2⟩ | ⟨h1, h2⟩
      · exact h2
      · rw [hk9] at h1; cases h1
      · rw [hk9] at h1; cases h1
    subst hc0; subst hk9
    refine lv_i2l hx hb dL_creditByMerging_7 rfl ?_
    refine k_lst (w' := wX G ad xr ++ [(qo, .inl (G.2 1, 1, .inr (.inl (vp_updL o 0 (rv.toInt64)))))]) F hw 34 rfl (by decide) rfl dL_creditByMerging_8 (fun H locs hw => ?_)
    refine lv_goto (tgt := 18) hx hb dL_creditByMerging_9 rfl ?_
    refine lv_iconst (v := 0) hx hb dL_creditByMerging_18 (by decide) ?_
    exact k_liret F hr hlk hw (Nat.le_of_ble_eq_true rfl) (Nat.le_of_ble_eq_true rfl) dL_creditByMerging_19
set_option maxHeartbeats 4000000 in
set_option maxRecDepth 100000 in
theorem t_L_custodialPart {G : gG} {l : Launch} (hlt : l.stackTraces = false) {ad : Nat → Nat} {qo n : Nat} {x : SX} {o : Nat → Int64} {a1 : Int32} {k0 : Nat} {rv c0 : Int32} (hf : f_X6_custodialPart n x a1 = some (k0, rv)) (hc : (k0 = 0 ∧ c0 = 0) ∨ (k0 = 3 ∧ c0 = 1) ∨ (k0 = 2 ∧ c0 = 2)) : MetL PrW G l yL_custodialPart cL_custodialPart 4 (some .int) hh_L_custodialPart 9 2 12 163 [.ref (ad 0), .int a1, .ref qo] (wX G ad x ++ [(qo, .inl (G.2 1, 1, .inr (.inl o)))]) (wX G ad x ++ [(qo, .inl (G.2 1, 1, .inr (.inl (if k0 = 0 then vp_updL o 0 rv.toInt64 else o))))]) c0 := by
  refine k_ofL (by decide) (Nat.le_of_ble_eq_true rfl) ?_
  intro p e s m args below meth c ls A F hr hlk htab hl hw hZ
  have hx := F.1
  have hb := F.2.1
  have hl : lv_has ls 4 [(0, .ref (ad 0)), (1, .int a1), (2, .ref qo)] := hl
  have htab : c.exceptionTable.toList = [⟨0, 9, 12, 44⟩, ⟨0, 9, 15, 35⟩] := htab
  refine lv_aload_n hx hb dL_custodialPart_0 rfl (lv_at hl 2 rfl) ?_
  refine lv_iconst (v := 0) hx hb dL_custodialPart_1 (by decide) ?_
  refine lv_aload_n hx hb dL_custodialPart_2 rfl (lv_at hl 0 rfl) ?_
  refine lv_iload_n hx hb dL_custodialPart_3 rfl (lv_at hl 1 rfl) ?_
  refine k_xcallVi (wl := []) (wr := [(qo, .inl (G.2 1, 1, .inr (.inl o)))]) (rest := [.int 0, .ref qo]) (As := [.int a1]) F wsh_in (t_X6_custodialPart hlt hf) cv_X6_custodialPart ml_L_88 hZ.1 hw 0 rfl rfl rfl hl.1 rfl (Nat.le_of_ble_eq_true rfl) ⟨Nat.le_of_ble_eq_true rfl, Nat.le_of_ble_eq_true rfl⟩ ⟨Nat.le_of_ble_eq_true rfl, Nat.le_of_ble_eq_true rfl⟩ dL_custodialPart_4 (fun hk9 E ce q9 H locs hE hw g1 g2 g3 => ?_) (fun hk9 H locs hw => ?_)
  · rcases hc with ⟨rfl, rfl⟩ | ⟨rfl, rfl⟩ | ⟨rfl, rfl⟩
    · exact absurd rfl hk9
    · subst hE
      refine vx_catch (own := RL) (name := exn 3) F.2.2.2.1 [] ⟨0, 9, 12, 44⟩ [⟨0, 9, 15, 35⟩] htab (fun z hz => by cases hz) (by decide) (by decide) (F.2.2.2.2 _ (wsh_in _ lkx_3)) (hZ.1.2.2.use (by decide)) g1 g2 g3 ?_
      refine lv_astore_n (lv' := [(3, .ref q9), (0, .ref (ad 0)), (1, .int a1), (2, .ref qo)]) hx hb dL_custodialPart_12 rfl hl (Nat.le_of_ble_eq_true rfl) rfl (fun ls hl => ?_)
      refine lv_iconst (v := 1) hx hb dL_custodialPart_13 (by decide) ?_
      exact k_liret F hr hlk hw (Nat.le_of_ble_eq_true rfl) (Nat.le_of_ble_eq_true rfl) dL_custodialPart_14
    · subst hE
      refine vx_catch (own := RL) (name := exn 2) F.2.2.2.1 [⟨0, 9, 12, 44⟩] ⟨0, 9, 15, 35⟩ [] htab (fun z hz => by
          simp only [List.mem_cons, List.not_mem_nil, or_false] at hz
          rcases hz with rfl
          · exact Or.inr ⟨by decide, exn 3, F.2.2.2.2 _ (wsh_in _ lkx_3), hZ.2 2 3 (by decide) (by decide) (by decide) (by decide) (by decide)⟩) (by decide) (by decide) (F.2.2.2.2 _ (wsh_in _ lkx_2)) (hZ.1.2.2.use (by decide)) g1 g2 g3 ?_
      refine lv_astore_n (lv' := [(3, .ref q9), (0, .ref (ad 0)), (1, .int a1), (2, .ref qo)]) hx hb dL_custodialPart_15 rfl hl (Nat.le_of_ble_eq_true rfl) rfl (fun ls hl => ?_)
      refine lv_iconst (v := 2) hx hb dL_custodialPart_16 (by decide) ?_
      exact k_liret F hr hlk hw (Nat.le_of_ble_eq_true rfl) (Nat.le_of_ble_eq_true rfl) dL_custodialPart_17
  · have hc0 : c0 = 0 := by
      rcases hc with ⟨h1, h2⟩ | ⟨h1, h2⟩ | ⟨h1, h2⟩
      · exact h2
      · rw [hk9] at h1; cases h1
      · rw [hk9] at h1; cases h1
    subst hc0; subst hk9
    refine lv_i2l hx hb dL_custodialPart_7 rfl ?_
    refine k_lst (w' := wX G ad x ++ [(qo, .inl (G.2 1, 1, .inr (.inl (vp_updL o 0 (rv.toInt64)))))]) F hw 34 rfl (by decide) rfl dL_custodialPart_8 (fun H locs hw => ?_)
    refine lv_goto (tgt := 18) hx hb dL_custodialPart_9 rfl ?_
    refine lv_iconst (v := 0) hx hb dL_custodialPart_18 (by decide) ?_
    exact k_liret F hr hlk hw (Nat.le_of_ble_eq_true rfl) (Nat.le_of_ble_eq_true rfl) dL_custodialPart_19
set_option maxHeartbeats 4000000 in
set_option maxRecDepth 100000 in
theorem t_L_dayNumber {G : gG} {l : Launch} (hlt : l.stackTraces = false) {ad : Nat → Nat} {qo n : Nat} {x : SX} {o : Nat → Int64} {a1 a2 a3 : Int32} {k0 : Nat} {rv c0 : Int32} (hf : f_X6_dayNumber n x a1 a2 a3 = some (k0, rv)) (hc : (k0 = 0 ∧ c0 = 0) ∨ (k0 = 1 ∧ c0 = 1)) : MetL PrW G l yL_dayNumber cL_dayNumber 6 (some .int) hh_L_dayNumber 8 1 6 145 [.ref (ad 0), .int a1, .int a2, .int a3, .ref qo] (wX G ad x ++ [(qo, .inl (G.2 1, 1, .inr (.inl o)))]) (wX G ad x ++ [(qo, .inl (G.2 1, 1, .inr (.inl (if k0 = 0 then vp_updL o 0 rv.toInt64 else o))))]) c0 := by
  refine k_ofL (by decide) (Nat.le_of_ble_eq_true rfl) ?_
  intro p e s m args below meth c ls A F hr hlk htab hl hw hZ
  have hx := F.1
  have hb := F.2.1
  have hl : lv_has ls 6 [(0, .ref (ad 0)), (1, .int a1), (2, .int a2), (3, .int a3), (4, .ref qo)] := hl
  have htab : c.exceptionTable.toList = [⟨0, 12, 15, 13⟩] := htab
  refine lv_aload hx hb dL_dayNumber_0 (lv_at hl 4 rfl) ?_
  refine lv_iconst (v := 0) hx hb dL_dayNumber_2 (by decide) ?_
  refine lv_aload_n hx hb dL_dayNumber_3 rfl (lv_at hl 0 rfl) ?_
  refine lv_iload_n hx hb dL_dayNumber_4 rfl (lv_at hl 1 rfl) ?_
  refine lv_iload_n hx hb dL_dayNumber_5 rfl (lv_at hl 2 rfl) ?_
  refine lv_iload_n hx hb dL_dayNumber_6 rfl (lv_at hl 3 rfl) ?_
  refine k_xcallVi (wl := []) (wr := [(qo, .inl (G.2 1, 1, .inr (.inl o)))]) (rest := [.int 0, .ref qo]) (As := [.int a1, .int a2, .int a3]) F wsh_in (t_X6_dayNumber hlt hf) cv_X6_dayNumber ml_L_7 hZ.1 hw 0 rfl rfl rfl hl.1 rfl (Nat.le_of_ble_eq_true rfl) ⟨Nat.le_of_ble_eq_true rfl, Nat.le_of_ble_eq_true rfl⟩ ⟨Nat.le_of_ble_eq_true rfl, Nat.le_of_ble_eq_true rfl⟩ dL_dayNumber_7 (fun hk9 E ce q9 H locs hE hw g1 g2 g3 => ?_) (fun hk9 H locs hw => ?_)
  · rcases hc with ⟨rfl, rfl⟩ | ⟨rfl, rfl⟩
    · exact absurd rfl hk9
    · subst hE
      refine vx_catch (own := RL) (name := exn 1) F.2.2.2.1 [] ⟨0, 12, 15, 13⟩ [] htab (fun z hz => by cases hz) (by decide) (by decide) (F.2.2.2.2 _ (wsh_in _ lkx_1)) (hZ.1.2.2.use (by decide)) g1 g2 g3 ?_
      refine lv_astore (lv' := [(5, .ref q9), (0, .ref (ad 0)), (1, .int a1), (2, .int a2), (3, .int a3), (4, .ref qo)]) hx hb dL_dayNumber_15 hl (Nat.le_of_ble_eq_true rfl) rfl (fun ls hl => ?_)
      refine lv_iconst (v := 1) hx hb dL_dayNumber_17 (by decide) ?_
      exact k_liret F hr hlk hw (Nat.le_of_ble_eq_true rfl) (Nat.le_of_ble_eq_true rfl) dL_dayNumber_18
  · have hc0 : c0 = 0 := by
      rcases hc with ⟨h1, h2⟩ | ⟨h1, h2⟩
      · exact h2
      · rw [hk9] at h1; cases h1
    subst hc0; subst hk9
    refine lv_i2l hx hb dL_dayNumber_10 rfl ?_
    refine k_lst (w' := wX G ad x ++ [(qo, .inl (G.2 1, 1, .inr (.inl (vp_updL o 0 (rv.toInt64)))))]) F hw 34 rfl (by decide) rfl dL_dayNumber_11 (fun H locs hw => ?_)
    refine lv_goto (tgt := 19) hx hb dL_dayNumber_12 rfl ?_
    refine lv_iconst (v := 0) hx hb dL_dayNumber_19 (by decide) ?_
    exact k_liret F hr hlk hw (Nat.le_of_ble_eq_true rfl) (Nat.le_of_ble_eq_true rfl) dL_dayNumber_20
set_option maxHeartbeats 4000000 in
set_option maxRecDepth 100000 in
theorem t_L_dayNumberByMonths {G : gG} {l : Launch} (hlt : l.stackTraces = false) {ad : Nat → Nat} {qo n : Nat} {x : SX} {o : Nat → Int64} {a1 a2 a3 : Int32} {k0 : Nat} {rv c0 : Int32} (hf : f_X6_dayNumberByMonths n x a1 a2 a3 = some (k0, rv)) (hc : (k0 = 0 ∧ c0 = 0) ∨ (k0 = 1 ∧ c0 = 1)) : MetL PrW G l yL_dayNumberByMonths cL_dayNumberByMonths 6 (some .int) hh_L_dayNumberByMonths 8 1 6 145 [.ref (ad 0), .int a1, .int a2, .int a3, .ref qo] (wX G ad x ++ [(qo, .inl (G.2 1, 1, .inr (.inl o)))]) (wX G ad x ++ [(qo, .inl (G.2 1, 1, .inr (.inl (if k0 = 0 then vp_updL o 0 rv.toInt64 else o))))]) c0 := by
  refine k_ofL (by decide) (Nat.le_of_ble_eq_true rfl) ?_
  intro p e s m args below meth c ls A F hr hlk htab hl hw hZ
  have hx := F.1
  have hb := F.2.1
  have hl : lv_has ls 6 [(0, .ref (ad 0)), (1, .int a1), (2, .int a2), (3, .int a3), (4, .ref qo)] := hl
  have htab : c.exceptionTable.toList = [⟨0, 12, 15, 13⟩] := htab
  refine lv_aload hx hb dL_dayNumberByMonths_0 (lv_at hl 4 rfl) ?_
  refine lv_iconst (v := 0) hx hb dL_dayNumberByMonths_2 (by decide) ?_
  refine lv_aload_n hx hb dL_dayNumberByMonths_3 rfl (lv_at hl 0 rfl) ?_
  refine lv_iload_n hx hb dL_dayNumberByMonths_4 rfl (lv_at hl 1 rfl) ?_
  refine lv_iload_n hx hb dL_dayNumberByMonths_5 rfl (lv_at hl 2 rfl) ?_
  refine lv_iload_n hx hb dL_dayNumberByMonths_6 rfl (lv_at hl 3 rfl) ?_
  refine k_xcallVi (wl := []) (wr := [(qo, .inl (G.2 1, 1, .inr (.inl o)))]) (rest := [.int 0, .ref qo]) (As := [.int a1, .int a2, .int a3]) F wsh_in (t_X6_dayNumberByMonths hlt hf) cv_X6_dayNumberByMonths ml_L_15 hZ.1 hw 0 rfl rfl rfl hl.1 rfl (Nat.le_of_ble_eq_true rfl) ⟨Nat.le_of_ble_eq_true rfl, Nat.le_of_ble_eq_true rfl⟩ ⟨Nat.le_of_ble_eq_true rfl, Nat.le_of_ble_eq_true rfl⟩ dL_dayNumberByMonths_7 (fun hk9 E ce q9 H locs hE hw g1 g2 g3 => ?_) (fun hk9 H locs hw => ?_)
  · rcases hc with ⟨rfl, rfl⟩ | ⟨rfl, rfl⟩
    · exact absurd rfl hk9
    · subst hE
      refine vx_catch (own := RL) (name := exn 1) F.2.2.2.1 [] ⟨0, 12, 15, 13⟩ [] htab (fun z hz => by cases hz) (by decide) (by decide) (F.2.2.2.2 _ (wsh_in _ lkx_1)) (hZ.1.2.2.use (by decide)) g1 g2 g3 ?_
      refine lv_astore (lv' := [(5, .ref q9), (0, .ref (ad 0)), (1, .int a1), (2, .int a2), (3, .int a3), (4, .ref qo)]) hx hb dL_dayNumberByMonths_15 hl (Nat.le_of_ble_eq_true rfl) rfl (fun ls hl => ?_)
      refine lv_iconst (v := 1) hx hb dL_dayNumberByMonths_17 (by decide) ?_
      exact k_liret F hr hlk hw (Nat.le_of_ble_eq_true rfl) (Nat.le_of_ble_eq_true rfl) dL_dayNumberByMonths_18
  · have hc0 : c0 = 0 := by
      rcases hc with ⟨h1, h2⟩ | ⟨h1, h2⟩
      · exact h2
      · rw [hk9] at h1; cases h1
    subst hc0; subst hk9
    refine lv_i2l hx hb dL_dayNumberByMonths_10 rfl ?_
    refine k_lst (w' := wX G ad x ++ [(qo, .inl (G.2 1, 1, .inr (.inl (vp_updL o 0 (rv.toInt64)))))]) F hw 34 rfl (by decide) rfl dL_dayNumberByMonths_11 (fun H locs hw => ?_)
    refine lv_goto (tgt := 19) hx hb dL_dayNumberByMonths_12 rfl ?_
    refine lv_iconst (v := 0) hx hb dL_dayNumberByMonths_19 (by decide) ?_
    exact k_liret F hr hlk hw (Nat.le_of_ble_eq_true rfl) (Nat.le_of_ble_eq_true rfl) dL_dayNumberByMonths_20
set_option maxHeartbeats 4000000 in
set_option maxRecDepth 100000 in
theorem t_L_dayOfMonth {G : gG} {l : Launch} (hlt : l.stackTraces = false) {ad : Nat → Nat} {qo n : Nat} {x : SX} {o : Nat → Int64} {a1 : Int32} {k0 : Nat} {rv c0 : Int32} (hf : f_X6_dayOfMonth n x a1 = some (k0, rv)) (hc : (k0 = 0 ∧ c0 = 0) ∨ (k0 = 1 ∧ c0 = 1)) : MetL PrW G l yL_dayOfMonth cL_dayOfMonth 4 (some .int) hh_L_dayOfMonth 8 1 6 141 [.ref (ad 0), .int a1, .ref qo] (wX G ad x ++ [(qo, .inl (G.2 1, 1, .inr (.inl o)))]) (wX G ad x ++ [(qo, .inl (G.2 1, 1, .inr (.inl (if k0 = 0 then vp_updL o 0 rv.toInt64 else o))))]) c0 := by
  refine k_ofL (by decide) (Nat.le_of_ble_eq_true rfl) ?_
  intro p e s m args below meth c ls A F hr hlk htab hl hw hZ
  have hx := F.1
  have hb := F.2.1
  have hl : lv_has ls 4 [(0, .ref (ad 0)), (1, .int a1), (2, .ref qo)] := hl
  have htab : c.exceptionTable.toList = [⟨0, 9, 12, 13⟩] := htab
  refine lv_aload_n hx hb dL_dayOfMonth_0 rfl (lv_at hl 2 rfl) ?_
  refine lv_iconst (v := 0) hx hb dL_dayOfMonth_1 (by decide) ?_
  refine lv_aload_n hx hb dL_dayOfMonth_2 rfl (lv_at hl 0 rfl) ?_
  refine lv_iload_n hx hb dL_dayOfMonth_3 rfl (lv_at hl 1 rfl) ?_
  refine k_xcallVi (wl := []) (wr := [(qo, .inl (G.2 1, 1, .inr (.inl o)))]) (rest := [.int 0, .ref qo]) (As := [.int a1]) F wsh_in (t_X6_dayOfMonth hlt hf) cv_X6_dayOfMonth ml_L_25 hZ.1 hw 0 rfl rfl rfl hl.1 rfl (Nat.le_of_ble_eq_true rfl) ⟨Nat.le_of_ble_eq_true rfl, Nat.le_of_ble_eq_true rfl⟩ ⟨Nat.le_of_ble_eq_true rfl, Nat.le_of_ble_eq_true rfl⟩ dL_dayOfMonth_4 (fun hk9 E ce q9 H locs hE hw g1 g2 g3 => ?_) (fun hk9 H locs hw => ?_)
  · rcases hc with ⟨rfl, rfl⟩ | ⟨rfl, rfl⟩
    · exact absurd rfl hk9
    · subst hE
      refine vx_catch (own := RL) (name := exn 1) F.2.2.2.1 [] ⟨0, 9, 12, 13⟩ [] htab (fun z hz => by cases hz) (by decide) (by decide) (F.2.2.2.2 _ (wsh_in _ lkx_1)) (hZ.1.2.2.use (by decide)) g1 g2 g3 ?_
      refine lv_astore_n (lv' := [(3, .ref q9), (0, .ref (ad 0)), (1, .int a1), (2, .ref qo)]) hx hb dL_dayOfMonth_12 rfl hl (Nat.le_of_ble_eq_true rfl) rfl (fun ls hl => ?_)
      refine lv_iconst (v := 1) hx hb dL_dayOfMonth_13 (by decide) ?_
      exact k_liret F hr hlk hw (Nat.le_of_ble_eq_true rfl) (Nat.le_of_ble_eq_true rfl) dL_dayOfMonth_14
  · have hc0 : c0 = 0 := by
      rcases hc with ⟨h1, h2⟩ | ⟨h1, h2⟩
      · exact h2
      · rw [hk9] at h1; cases h1
    subst hc0; subst hk9
    refine lv_i2l hx hb dL_dayOfMonth_7 rfl ?_
    refine k_lst (w' := wX G ad x ++ [(qo, .inl (G.2 1, 1, .inr (.inl (vp_updL o 0 (rv.toInt64)))))]) F hw 34 rfl (by decide) rfl dL_dayOfMonth_8 (fun H locs hw => ?_)
    refine lv_goto (tgt := 15) hx hb dL_dayOfMonth_9 rfl ?_
    refine lv_iconst (v := 0) hx hb dL_dayOfMonth_15 (by decide) ?_
    exact k_liret F hr hlk hw (Nat.le_of_ble_eq_true rfl) (Nat.le_of_ble_eq_true rfl) dL_dayOfMonth_16
set_option maxHeartbeats 4000000 in
set_option maxRecDepth 100000 in
theorem t_L_decidingTerm {G : gG} {l : Launch} (hlt : l.stackTraces = false) {ad : Nat → Nat} {qo n : Nat} {x : SX} {o : Nat → Int64} {k0 : Nat} {rv c0 : Int32} (hf : f_X6_decidingTerm n x = some (k0, rv)) (hc : (k0 = 0 ∧ c0 = 0) ∨ (k0 = 4 ∧ c0 = 1)) : MetL PrW G l yL_decidingTerm cL_decidingTerm 3 (some .int) hh_L_decidingTerm 8 1 6 143 [.ref (ad 0), .ref qo] (wX G ad x ++ [(qo, .inl (G.2 1, 1, .inr (.inl o)))]) (wX G ad x ++ [(qo, .inl (G.2 1, 1, .inr (.inl (if k0 = 0 then vp_updL o 0 rv.toInt64 else o))))]) c0 := by
  refine k_ofL (by decide) (Nat.le_of_ble_eq_true rfl) ?_
  intro p e s m args below meth c ls A F hr hlk htab hl hw hZ
  have hx := F.1
  have hb := F.2.1
  have hl : lv_has ls 3 [(0, .ref (ad 0)), (1, .ref qo)] := hl
  have htab : c.exceptionTable.toList = [⟨0, 8, 11, 71⟩] := htab
  refine lv_aload_n hx hb dL_decidingTerm_0 rfl (lv_at hl 1 rfl) ?_
  refine lv_iconst (v := 0) hx hb dL_decidingTerm_1 (by decide) ?_
  refine lv_aload_n hx hb dL_decidingTerm_2 rfl (lv_at hl 0 rfl) ?_
  refine k_xcallVi (wl := []) (wr := [(qo, .inl (G.2 1, 1, .inr (.inl o)))]) (rest := [.int 0, .ref qo]) (As := []) F wsh_in (t_X6_decidingTerm hlt hf) cv_X6_decidingTerm ml_L_116 hZ.1 hw 0 rfl rfl rfl hl.1 rfl (Nat.le_of_ble_eq_true rfl) ⟨Nat.le_of_ble_eq_true rfl, Nat.le_of_ble_eq_true rfl⟩ ⟨Nat.le_of_ble_eq_true rfl, Nat.le_of_ble_eq_true rfl⟩ dL_decidingTerm_3 (fun hk9 E ce q9 H locs hE hw g1 g2 g3 => ?_) (fun hk9 H locs hw => ?_)
  · rcases hc with ⟨rfl, rfl⟩ | ⟨rfl, rfl⟩
    · exact absurd rfl hk9
    · subst hE
      refine vx_catch (own := RL) (name := exn 4) F.2.2.2.1 [] ⟨0, 8, 11, 71⟩ [] htab (fun z hz => by cases hz) (by decide) (by decide) (F.2.2.2.2 _ (wsh_in _ lkx_4)) (hZ.1.2.2.use (by decide)) g1 g2 g3 ?_
      refine lv_astore_n (lv' := [(2, .ref q9), (0, .ref (ad 0)), (1, .ref qo)]) hx hb dL_decidingTerm_11 rfl hl (Nat.le_of_ble_eq_true rfl) rfl (fun ls hl => ?_)
      refine lv_iconst (v := 1) hx hb dL_decidingTerm_12 (by decide) ?_
      exact k_liret F hr hlk hw (Nat.le_of_ble_eq_true rfl) (Nat.le_of_ble_eq_true rfl) dL_decidingTerm_13
  · have hc0 : c0 = 0 := by
      rcases hc with ⟨h1, h2⟩ | ⟨h1, h2⟩
      · exact h2
      · rw [hk9] at h1; cases h1
    subst hc0; subst hk9
    refine lv_i2l hx hb dL_decidingTerm_6 rfl ?_
    refine k_lst (w' := wX G ad x ++ [(qo, .inl (G.2 1, 1, .inr (.inl (vp_updL o 0 (rv.toInt64)))))]) F hw 34 rfl (by decide) rfl dL_decidingTerm_7 (fun H locs hw => ?_)
    refine lv_goto (tgt := 14) hx hb dL_decidingTerm_8 rfl ?_
    refine lv_iconst (v := 0) hx hb dL_decidingTerm_14 (by decide) ?_
    exact k_liret F hr hlk hw (Nat.le_of_ble_eq_true rfl) (Nat.le_of_ble_eq_true rfl) dL_decidingTerm_15
set_option maxHeartbeats 4000000 in
set_option maxRecDepth 100000 in
theorem t_L_descendants {G : gG} {l : Launch} (hlt : l.stackTraces = false) {ad : Nat → Nat} {qo n : Nat} {x : SX} {o : Nat → Int64} {a1 : Int32} {k0 : Nat} {rv c0 : Int32} (hf : f_X6_descendants n x a1 = some (k0, rv)) (hc : (k0 = 0 ∧ c0 = 0) ∨ (k0 = 3 ∧ c0 = 1) ∨ (k0 = 2 ∧ c0 = 2)) : MetL PrW G l yL_descendants cL_descendants 4 (some .int) hh_L_descendants 9 2 12 165 [.ref (ad 0), .int a1, .ref qo] (wX G ad x ++ [(qo, .inl (G.2 1, 1, .inr (.inl o)))]) (wX G ad x ++ [(qo, .inl (G.2 1, 1, .inr (.inl (if k0 = 0 then vp_updL o 0 rv.toInt64 else o))))]) c0 := by
  refine k_ofL (by decide) (Nat.le_of_ble_eq_true rfl) ?_
  intro p e s m args below meth c ls A F hr hlk htab hl hw hZ
  have hx := F.1
  have hb := F.2.1
  have hl : lv_has ls 4 [(0, .ref (ad 0)), (1, .int a1), (2, .ref qo)] := hl
  have htab : c.exceptionTable.toList = [⟨0, 9, 12, 44⟩, ⟨0, 9, 15, 35⟩] := htab
  refine lv_aload_n hx hb dL_descendants_0 rfl (lv_at hl 2 rfl) ?_
  refine lv_iconst (v := 0) hx hb dL_descendants_1 (by decide) ?_
  refine lv_aload_n hx hb dL_descendants_2 rfl (lv_at hl 0 rfl) ?_
  refine lv_iload_n hx hb dL_descendants_3 rfl (lv_at hl 1 rfl) ?_
  refine k_xcallVi (wl := []) (wr := [(qo, .inl (G.2 1, 1, .inr (.inl o)))]) (rest := [.int 0, .ref qo]) (As := [.int a1]) F wsh_in (t_X6_descendants hlt hf) cv_X6_descendants ml_L_76 hZ.1 hw 0 rfl rfl rfl hl.1 rfl (Nat.le_of_ble_eq_true rfl) ⟨Nat.le_of_ble_eq_true rfl, Nat.le_of_ble_eq_true rfl⟩ ⟨Nat.le_of_ble_eq_true rfl, Nat.le_of_ble_eq_true rfl⟩ dL_descendants_4 (fun hk9 E ce q9 H locs hE hw g1 g2 g3 => ?_) (fun hk9 H locs hw => ?_)
  · rcases hc with ⟨rfl, rfl⟩ | ⟨rfl, rfl⟩ | ⟨rfl, rfl⟩
    · exact absurd rfl hk9
    · subst hE
      refine vx_catch (own := RL) (name := exn 3) F.2.2.2.1 [] ⟨0, 9, 12, 44⟩ [⟨0, 9, 15, 35⟩] htab (fun z hz => by cases hz) (by decide) (by decide) (F.2.2.2.2 _ (wsh_in _ lkx_3)) (hZ.1.2.2.use (by decide)) g1 g2 g3 ?_
      refine lv_astore_n (lv' := [(3, .ref q9), (0, .ref (ad 0)), (1, .int a1), (2, .ref qo)]) hx hb dL_descendants_12 rfl hl (Nat.le_of_ble_eq_true rfl) rfl (fun ls hl => ?_)
      refine lv_iconst (v := 1) hx hb dL_descendants_13 (by decide) ?_
      exact k_liret F hr hlk hw (Nat.le_of_ble_eq_true rfl) (Nat.le_of_ble_eq_true rfl) dL_descendants_14
    · subst hE
      refine vx_catch (own := RL) (name := exn 2) F.2.2.2.1 [⟨0, 9, 12, 44⟩] ⟨0, 9, 15, 35⟩ [] htab (fun z hz => by
          simp only [List.mem_cons, List.not_mem_nil, or_false] at hz
          rcases hz with rfl
          · exact Or.inr ⟨by decide, exn 3, F.2.2.2.2 _ (wsh_in _ lkx_3), hZ.2 2 3 (by decide) (by decide) (by decide) (by decide) (by decide)⟩) (by decide) (by decide) (F.2.2.2.2 _ (wsh_in _ lkx_2)) (hZ.1.2.2.use (by decide)) g1 g2 g3 ?_
      refine lv_astore_n (lv' := [(3, .ref q9), (0, .ref (ad 0)), (1, .int a1), (2, .ref qo)]) hx hb dL_descendants_15 rfl hl (Nat.le_of_ble_eq_true rfl) rfl (fun ls hl => ?_)
      refine lv_iconst (v := 2) hx hb dL_descendants_16 (by decide) ?_
      exact k_liret F hr hlk hw (Nat.le_of_ble_eq_true rfl) (Nat.le_of_ble_eq_true rfl) dL_descendants_17
  · have hc0 : c0 = 0 := by
      rcases hc with ⟨h1, h2⟩ | ⟨h1, h2⟩ | ⟨h1, h2⟩
      · exact h2
      · rw [hk9] at h1; cases h1
      · rw [hk9] at h1; cases h1
    subst hc0; subst hk9
    refine lv_i2l hx hb dL_descendants_7 rfl ?_
    refine k_lst (w' := wX G ad x ++ [(qo, .inl (G.2 1, 1, .inr (.inl (vp_updL o 0 (rv.toInt64)))))]) F hw 34 rfl (by decide) rfl dL_descendants_8 (fun H locs hw => ?_)
    refine lv_goto (tgt := 18) hx hb dL_descendants_9 rfl ?_
    refine lv_iconst (v := 0) hx hb dL_descendants_18 (by decide) ?_
    exact k_liret F hr hlk hw (Nat.le_of_ble_eq_true rfl) (Nat.le_of_ble_eq_true rfl) dL_descendants_19
set_option maxHeartbeats 4000000 in
set_option maxRecDepth 100000 in
theorem t_L_endDay {G : gG} {l : Launch} (hlt : l.stackTraces = false) {ad : Nat → Nat} {qo n : Nat} {x : SX} {o : Nat → Int64} {a1 : Int32} {k0 : Nat} {rv c0 : Int32} (hf : f_X6_endDay n x a1 = some (k0, rv)) (hc : (k0 = 0 ∧ c0 = 0) ∨ (k0 = 3 ∧ c0 = 1) ∨ (k0 = 2 ∧ c0 = 2)) : MetL PrW G l yL_endDay cL_endDay 4 (some .int) hh_L_endDay 9 2 12 163 [.ref (ad 0), .int a1, .ref qo] (wX G ad x ++ [(qo, .inl (G.2 1, 1, .inr (.inl o)))]) (wX G ad x ++ [(qo, .inl (G.2 1, 1, .inr (.inl (if k0 = 0 then vp_updL o 0 rv.toInt64 else o))))]) c0 := by
  refine k_ofL (by decide) (Nat.le_of_ble_eq_true rfl) ?_
  intro p e s m args below meth c ls A F hr hlk htab hl hw hZ
  have hx := F.1
  have hb := F.2.1
  have hl : lv_has ls 4 [(0, .ref (ad 0)), (1, .int a1), (2, .ref qo)] := hl
  have htab : c.exceptionTable.toList = [⟨0, 9, 12, 44⟩, ⟨0, 9, 15, 35⟩] := htab
  refine lv_aload_n hx hb dL_endDay_0 rfl (lv_at hl 2 rfl) ?_
  refine lv_iconst (v := 0) hx hb dL_endDay_1 (by decide) ?_
  refine lv_aload_n hx hb dL_endDay_2 rfl (lv_at hl 0 rfl) ?_
  refine lv_iload_n hx hb dL_endDay_3 rfl (lv_at hl 1 rfl) ?_
  refine k_xcallVi (wl := []) (wr := [(qo, .inl (G.2 1, 1, .inr (.inl o)))]) (rest := [.int 0, .ref qo]) (As := [.int a1]) F wsh_in (t_X6_endDay hlt hf) cv_X6_endDay ml_L_106 hZ.1 hw 0 rfl rfl rfl hl.1 rfl (Nat.le_of_ble_eq_true rfl) ⟨Nat.le_of_ble_eq_true rfl, Nat.le_of_ble_eq_true rfl⟩ ⟨Nat.le_of_ble_eq_true rfl, Nat.le_of_ble_eq_true rfl⟩ dL_endDay_4 (fun hk9 E ce q9 H locs hE hw g1 g2 g3 => ?_) (fun hk9 H locs hw => ?_)
  · rcases hc with ⟨rfl, rfl⟩ | ⟨rfl, rfl⟩ | ⟨rfl, rfl⟩
    · exact absurd rfl hk9
    · subst hE
      refine vx_catch (own := RL) (name := exn 3) F.2.2.2.1 [] ⟨0, 9, 12, 44⟩ [⟨0, 9, 15, 35⟩] htab (fun z hz => by cases hz) (by decide) (by decide) (F.2.2.2.2 _ (wsh_in _ lkx_3)) (hZ.1.2.2.use (by decide)) g1 g2 g3 ?_
      refine lv_astore_n (lv' := [(3, .ref q9), (0, .ref (ad 0)), (1, .int a1), (2, .ref qo)]) hx hb dL_endDay_12 rfl hl (Nat.le_of_ble_eq_true rfl) rfl (fun ls hl => ?_)
      refine lv_iconst (v := 1) hx hb dL_endDay_13 (by decide) ?_
      exact k_liret F hr hlk hw (Nat.le_of_ble_eq_true rfl) (Nat.le_of_ble_eq_true rfl) dL_endDay_14
    · subst hE
      refine vx_catch (own := RL) (name := exn 2) F.2.2.2.1 [⟨0, 9, 12, 44⟩] ⟨0, 9, 15, 35⟩ [] htab (fun z hz => by
          simp only [List.mem_cons, List.not_mem_nil, or_false] at hz
          rcases hz with rfl
          · exact Or.inr ⟨by decide, exn 3, F.2.2.2.2 _ (wsh_in _ lkx_3), hZ.2 2 3 (by decide) (by decide) (by decide) (by decide) (by decide)⟩) (by decide) (by decide) (F.2.2.2.2 _ (wsh_in _ lkx_2)) (hZ.1.2.2.use (by decide)) g1 g2 g3 ?_
      refine lv_astore_n (lv' := [(3, .ref q9), (0, .ref (ad 0)), (1, .int a1), (2, .ref qo)]) hx hb dL_endDay_15 rfl hl (Nat.le_of_ble_eq_true rfl) rfl (fun ls hl => ?_)
      refine lv_iconst (v := 2) hx hb dL_endDay_16 (by decide) ?_
      exact k_liret F hr hlk hw (Nat.le_of_ble_eq_true rfl) (Nat.le_of_ble_eq_true rfl) dL_endDay_17
  · have hc0 : c0 = 0 := by
      rcases hc with ⟨h1, h2⟩ | ⟨h1, h2⟩ | ⟨h1, h2⟩
      · exact h2
      · rw [hk9] at h1; cases h1
      · rw [hk9] at h1; cases h1
    subst hc0; subst hk9
    refine lv_i2l hx hb dL_endDay_7 rfl ?_
    refine k_lst (w' := wX G ad x ++ [(qo, .inl (G.2 1, 1, .inr (.inl (vp_updL o 0 (rv.toInt64)))))]) F hw 34 rfl (by decide) rfl dL_endDay_8 (fun H locs hw => ?_)
    refine lv_goto (tgt := 18) hx hb dL_endDay_9 rfl ?_
    refine lv_iconst (v := 0) hx hb dL_endDay_18 (by decide) ?_
    exact k_liret F hr hlk hw (Nat.le_of_ble_eq_true rfl) (Nat.le_of_ble_eq_true rfl) dL_endDay_19
set_option maxHeartbeats 4000000 in
set_option maxRecDepth 100000 in
theorem t_L_giveBack {G : gG} {l : Launch} (hlt : l.stackTraces = false) {ad : Nat → Nat} {qo n : Nat} {x xr : SX} {o : Nat → Int64} {a1 a2 : Int32} {k0 : Nat} {rv c0 : Int32} (hf : f_X6_giveBack n x a1 a2 = some (k0, rv, xr)) (hc : (k0 = 0 ∧ c0 = 0) ∨ (k0 = 3 ∧ c0 = 1) ∨ (k0 = 1 ∧ c0 = 2)) : MetL PrW G l yL_giveBack cL_giveBack 5 (some .int) hh_L_giveBack 8 2 12 143 [.ref (ad 0), .int a1, .int a2, .ref qo] (wX G ad x ++ [(qo, .inl (G.2 1, 1, .inr (.inl o)))]) (wX G ad xr ++ [(qo, .inl (G.2 1, 1, .inr (.inl (if k0 = 0 then vp_updL o 0 rv.toInt64 else o))))]) c0 := by
  refine k_ofL (by decide) (Nat.le_of_ble_eq_true rfl) ?_
  intro p e s m args below meth c ls A F hr hlk htab hl hw hZ
  have hx := F.1
  have hb := F.2.1
  have hl : lv_has ls 5 [(0, .ref (ad 0)), (1, .int a1), (2, .int a2), (3, .ref qo)] := hl
  have htab : c.exceptionTable.toList = [⟨0, 10, 13, 44⟩, ⟨0, 10, 17, 13⟩] := htab
  refine lv_aload_n hx hb dL_giveBack_0 rfl (lv_at hl 3 rfl) ?_
  refine lv_iconst (v := 0) hx hb dL_giveBack_1 (by decide) ?_
  refine lv_aload_n hx hb dL_giveBack_2 rfl (lv_at hl 0 rfl) ?_
  refine lv_iload_n hx hb dL_giveBack_3 rfl (lv_at hl 1 rfl) ?_
  refine lv_iload_n hx hb dL_giveBack_4 rfl (lv_at hl 2 rfl) ?_
  refine k_xcallVi (wl := []) (wr := [(qo, .inl (G.2 1, 1, .inr (.inl o)))]) (rest := [.int 0, .ref qo]) (As := [.int a1, .int a2]) F wsh_in (t_X6_giveBack hlt hf) cv_X6_giveBack ml_L_55 hZ.1 hw 0 rfl rfl rfl hl.1 rfl (Nat.le_of_ble_eq_true rfl) ⟨Nat.le_of_ble_eq_true rfl, Nat.le_of_ble_eq_true rfl⟩ ⟨Nat.le_of_ble_eq_true rfl, Nat.le_of_ble_eq_true rfl⟩ dL_giveBack_5 (fun hk9 E ce q9 H locs hE hw g1 g2 g3 => ?_) (fun hk9 H locs hw => ?_)
  · rcases hc with ⟨rfl, rfl⟩ | ⟨rfl, rfl⟩ | ⟨rfl, rfl⟩
    · exact absurd rfl hk9
    · subst hE
      refine vx_catch (own := RL) (name := exn 3) F.2.2.2.1 [] ⟨0, 10, 13, 44⟩ [⟨0, 10, 17, 13⟩] htab (fun z hz => by cases hz) (by decide) (by decide) (F.2.2.2.2 _ (wsh_in _ lkx_3)) (hZ.1.2.2.use (by decide)) g1 g2 g3 ?_
      refine lv_astore (lv' := [(4, .ref q9), (0, .ref (ad 0)), (1, .int a1), (2, .int a2), (3, .ref qo)]) hx hb dL_giveBack_13 hl (Nat.le_of_ble_eq_true rfl) rfl (fun ls hl => ?_)
      refine lv_iconst (v := 1) hx hb dL_giveBack_15 (by decide) ?_
      exact k_liret F hr hlk hw (Nat.le_of_ble_eq_true rfl) (Nat.le_of_ble_eq_true rfl) dL_giveBack_16
    · subst hE
      refine vx_catch (own := RL) (name := exn 1) F.2.2.2.1 [⟨0, 10, 13, 44⟩] ⟨0, 10, 17, 13⟩ [] htab (fun z hz => by
          simp only [List.mem_cons, List.not_mem_nil, or_false] at hz
          rcases hz with rfl
          · exact Or.inr ⟨by decide, exn 3, F.2.2.2.2 _ (wsh_in _ lkx_3), hZ.2 1 3 (by decide) (by decide) (by decide) (by decide) (by decide)⟩) (by decide) (by decide) (F.2.2.2.2 _ (wsh_in _ lkx_1)) (hZ.1.2.2.use (by decide)) g1 g2 g3 ?_
      refine lv_astore (lv' := [(4, .ref q9), (0, .ref (ad 0)), (1, .int a1), (2, .int a2), (3, .ref qo)]) hx hb dL_giveBack_17 hl (Nat.le_of_ble_eq_true rfl) rfl (fun ls hl => ?_)
      refine lv_iconst (v := 2) hx hb dL_giveBack_19 (by decide) ?_
      exact k_liret F hr hlk hw (Nat.le_of_ble_eq_true rfl) (Nat.le_of_ble_eq_true rfl) dL_giveBack_20
  · have hc0 : c0 = 0 := by
      rcases hc with ⟨h1, h2⟩ | ⟨h1, h2⟩ | ⟨h1, h2⟩
      · exact h2
      · rw [hk9] at h1; cases h1
      · rw [hk9] at h1; cases h1
    subst hc0; subst hk9
    refine lv_i2l hx hb dL_giveBack_8 rfl ?_
    refine k_lst (w' := wX G ad xr ++ [(qo, .inl (G.2 1, 1, .inr (.inl (vp_updL o 0 (rv.toInt64)))))]) F hw 34 rfl (by decide) rfl dL_giveBack_9 (fun H locs hw => ?_)
    refine lv_goto (tgt := 21) hx hb dL_giveBack_10 rfl ?_
    refine lv_iconst (v := 0) hx hb dL_giveBack_21 (by decide) ?_
    exact k_liret F hr hlk hw (Nat.le_of_ble_eq_true rfl) (Nat.le_of_ble_eq_true rfl) dL_giveBack_22
set_option maxHeartbeats 4000000 in
set_option maxRecDepth 100000 in
theorem t_L_impose {G : gG} {l : Launch} (hlt : l.stackTraces = false) {ad : Nat → Nat} {qo n : Nat} {x xr : SX} {o : Nat → Int64} {a1 a2 a3 : Int32} {k0 : Nat} {rv c0 : Int32} (hf : f_X6_impose n x a1 a2 a3 = some (k0, rv, xr)) (hc : (k0 = 0 ∧ c0 = 0) ∨ (k0 = 1 ∧ c0 = 1) ∨ (k0 = 2 ∧ c0 = 2)) : MetL PrW G l yL_impose cL_impose 6 (some .int) hh_L_impose 8 2 12 168 [.ref (ad 0), .int a1, .int a2, .int a3, .ref qo] (wX G ad x ++ [(qo, .inl (G.2 1, 1, .inr (.inl o)))]) (wX G ad xr ++ [(qo, .inl (G.2 1, 1, .inr (.inl (if k0 = 0 then vp_updL o 0 rv.toInt64 else o))))]) c0 := by
  refine k_ofL (by decide) (Nat.le_of_ble_eq_true rfl) ?_
  intro p e s m args below meth c ls A F hr hlk htab hl hw hZ
  have hx := F.1
  have hb := F.2.1
  have hl : lv_has ls 6 [(0, .ref (ad 0)), (1, .int a1), (2, .int a2), (3, .int a3), (4, .ref qo)] := hl
  have htab : c.exceptionTable.toList = [⟨0, 12, 15, 13⟩, ⟨0, 12, 19, 35⟩] := htab
  refine lv_aload hx hb dL_impose_0 (lv_at hl 4 rfl) ?_
  refine lv_iconst (v := 0) hx hb dL_impose_2 (by decide) ?_
  refine lv_aload_n hx hb dL_impose_3 rfl (lv_at hl 0 rfl) ?_
  refine lv_iload_n hx hb dL_impose_4 rfl (lv_at hl 1 rfl) ?_
  refine lv_iload_n hx hb dL_impose_5 rfl (lv_at hl 2 rfl) ?_
  refine lv_iload_n hx hb dL_impose_6 rfl (lv_at hl 3 rfl) ?_
  refine k_xcallVi (wl := []) (wr := [(qo, .inl (G.2 1, 1, .inr (.inl o)))]) (rest := [.int 0, .ref qo]) (As := [.int a1, .int a2, .int a3]) F wsh_in (t_X6_impose hlt hf) cv_X6_impose ml_L_37 hZ.1 hw 0 rfl rfl rfl hl.1 rfl (Nat.le_of_ble_eq_true rfl) ⟨Nat.le_of_ble_eq_true rfl, Nat.le_of_ble_eq_true rfl⟩ ⟨Nat.le_of_ble_eq_true rfl, Nat.le_of_ble_eq_true rfl⟩ dL_impose_7 (fun hk9 E ce q9 H locs hE hw g1 g2 g3 => ?_) (fun hk9 H locs hw => ?_)
  · rcases hc with ⟨rfl, rfl⟩ | ⟨rfl, rfl⟩ | ⟨rfl, rfl⟩
    · exact absurd rfl hk9
    · subst hE
      refine vx_catch (own := RL) (name := exn 1) F.2.2.2.1 [] ⟨0, 12, 15, 13⟩ [⟨0, 12, 19, 35⟩] htab (fun z hz => by cases hz) (by decide) (by decide) (F.2.2.2.2 _ (wsh_in _ lkx_1)) (hZ.1.2.2.use (by decide)) g1 g2 g3 ?_
      refine lv_astore (lv' := [(5, .ref q9), (0, .ref (ad 0)), (1, .int a1), (2, .int a2), (3, .int a3), (4, .ref qo)]) hx hb dL_impose_15 hl (Nat.le_of_ble_eq_true rfl) rfl (fun ls hl => ?_)
      refine lv_iconst (v := 1) hx hb dL_impose_17 (by decide) ?_
      exact k_liret F hr hlk hw (Nat.le_of_ble_eq_true rfl) (Nat.le_of_ble_eq_true rfl) dL_impose_18
    · subst hE
      refine vx_catch (own := RL) (name := exn 2) F.2.2.2.1 [⟨0, 12, 15, 13⟩] ⟨0, 12, 19, 35⟩ [] htab (fun z hz => by
          simp only [List.mem_cons, List.not_mem_nil, or_false] at hz
          rcases hz with rfl
          · exact Or.inr ⟨by decide, exn 1, F.2.2.2.2 _ (wsh_in _ lkx_1), hZ.2 2 1 (by decide) (by decide) (by decide) (by decide) (by decide)⟩) (by decide) (by decide) (F.2.2.2.2 _ (wsh_in _ lkx_2)) (hZ.1.2.2.use (by decide)) g1 g2 g3 ?_
      refine lv_astore (lv' := [(5, .ref q9), (0, .ref (ad 0)), (1, .int a1), (2, .int a2), (3, .int a3), (4, .ref qo)]) hx hb dL_impose_19 hl (Nat.le_of_ble_eq_true rfl) rfl (fun ls hl => ?_)
      refine lv_iconst (v := 2) hx hb dL_impose_21 (by decide) ?_
      exact k_liret F hr hlk hw (Nat.le_of_ble_eq_true rfl) (Nat.le_of_ble_eq_true rfl) dL_impose_22
  · have hc0 : c0 = 0 := by
      rcases hc with ⟨h1, h2⟩ | ⟨h1, h2⟩ | ⟨h1, h2⟩
      · exact h2
      · rw [hk9] at h1; cases h1
      · rw [hk9] at h1; cases h1
    subst hc0; subst hk9
    refine lv_i2l hx hb dL_impose_10 rfl ?_
    refine k_lst (w' := wX G ad xr ++ [(qo, .inl (G.2 1, 1, .inr (.inl (vp_updL o 0 (rv.toInt64)))))]) F hw 34 rfl (by decide) rfl dL_impose_11 (fun H locs hw => ?_)
    refine lv_goto (tgt := 23) hx hb dL_impose_12 rfl ?_
    refine lv_iconst (v := 0) hx hb dL_impose_23 (by decide) ?_
    exact k_liret F hr hlk hw (Nat.le_of_ble_eq_true rfl) (Nat.le_of_ble_eq_true rfl) dL_impose_24
set_option maxHeartbeats 4000000 in
set_option maxRecDepth 100000 in
theorem t_L_imposeConsecutive {G : gG} {l : Launch} (hlt : l.stackTraces = false) {ad : Nat → Nat} {qo n : Nat} {x xr : SX} {o : Nat → Int64} {a1 a2 a3 a4 : Int32} {k0 : Nat} {rv c0 : Int32} (hf : f_X6_imposeConsecutive n x a1 a2 a3 a4 = some (k0, rv, xr)) (hc : (k0 = 0 ∧ c0 = 0) ∨ (k0 = 3 ∧ c0 = 1) ∨ (k0 = 1 ∧ c0 = 2) ∨ (k0 = 2 ∧ c0 = 3)) : MetL PrW G l yL_imposeConsecutive cL_imposeConsecutive 7 (some .int) hh_L_imposeConsecutive 8 4 24 169 [.ref (ad 0), .int a1, .int a2, .int a3, .int a4, .ref qo] (wX G ad x ++ [(qo, .inl (G.2 1, 1, .inr (.inl o)))]) (wX G ad xr ++ [(qo, .inl (G.2 1, 1, .inr (.inl (if k0 = 0 then vp_updL o 0 rv.toInt64 else o))))]) c0 := by
  refine k_ofL (by decide) (Nat.le_of_ble_eq_true rfl) ?_
  intro p e s m args below meth c ls A F hr hlk htab hl hw hZ
  have hx := F.1
  have hb := F.2.1
  have hl : lv_has ls 7 [(0, .ref (ad 0)), (1, .int a1), (2, .int a2), (3, .int a3), (4, .int a4), (5, .ref qo)] := hl
  have htab : c.exceptionTable.toList = [⟨0, 14, 17, 44⟩, ⟨0, 14, 21, 13⟩, ⟨0, 14, 25, 35⟩] := htab
  refine lv_aload hx hb dL_imposeConsecutive_0 (lv_at hl 5 rfl) ?_
  refine lv_iconst (v := 0) hx hb dL_imposeConsecutive_2 (by decide) ?_
  refine lv_aload_n hx hb dL_imposeConsecutive_3 rfl (lv_at hl 0 rfl) ?_
  refine lv_iload_n hx hb dL_imposeConsecutive_4 rfl (lv_at hl 1 rfl) ?_
  refine lv_iload_n hx hb dL_imposeConsecutive_5 rfl (lv_at hl 2 rfl) ?_
  refine lv_iload_n hx hb dL_imposeConsecutive_6 rfl (lv_at hl 3 rfl) ?_
  refine lv_iload hx hb dL_imposeConsecutive_7 (lv_at hl 4 rfl) ?_
  refine k_xcallVi (wl := []) (wr := [(qo, .inl (G.2 1, 1, .inr (.inl o)))]) (rest := [.int 0, .ref qo]) (As := [.int a1, .int a2, .int a3, .int a4]) F wsh_in (t_X6_imposeConsecutive hlt hf) cv_X6_imposeConsecutive ml_L_40 hZ.1 hw 0 rfl rfl rfl hl.1 rfl (Nat.le_of_ble_eq_true rfl) ⟨Nat.le_of_ble_eq_true rfl, Nat.le_of_ble_eq_true rfl⟩ ⟨Nat.le_of_ble_eq_true rfl, Nat.le_of_ble_eq_true rfl⟩ dL_imposeConsecutive_9 (fun hk9 E ce q9 H locs hE hw g1 g2 g3 => ?_) (fun hk9 H locs hw => ?_)
  · rcases hc with ⟨rfl, rfl⟩ | ⟨rfl, rfl⟩ | ⟨rfl, rfl⟩ | ⟨rfl, rfl⟩
    · exact absurd rfl hk9
    · subst hE
      refine vx_catch (own := RL) (name := exn 3) F.2.2.2.1 [] ⟨0, 14, 17, 44⟩ [⟨0, 14, 21, 13⟩, ⟨0, 14, 25, 35⟩] htab (fun z hz => by cases hz) (by decide) (by decide) (F.2.2.2.2 _ (wsh_in _ lkx_3)) (hZ.1.2.2.use (by decide)) g1 g2 g3 ?_
      refine lv_astore (lv' := [(6, .ref q9), (0, .ref (ad 0)), (1, .int a1), (2, .int a2), (3, .int a3), (4, .int a4), (5, .ref qo)]) hx hb dL_imposeConsecutive_17 hl (Nat.le_of_ble_eq_true rfl) rfl (fun ls hl => ?_)
      refine lv_iconst (v := 1) hx hb dL_imposeConsecutive_19 (by decide) ?_
      exact k_liret F hr hlk hw (Nat.le_of_ble_eq_true rfl) (Nat.le_of_ble_eq_true rfl) dL_imposeConsecutive_20
    · subst hE
      refine vx_catch (own := RL) (name := exn 1) F.2.2.2.1 [⟨0, 14, 17, 44⟩] ⟨0, 14, 21, 13⟩ [⟨0, 14, 25, 35⟩] htab (fun z hz => by
          simp only [List.mem_cons, List.not_mem_nil, or_false] at hz
          rcases hz with rfl
          · exact Or.inr ⟨by decide, exn 3, F.2.2.2.2 _ (wsh_in _ lkx_3), hZ.2 1 3 (by decide) (by decide) (by decide) (by decide) (by decide)⟩) (by decide) (by decide) (F.2.2.2.2 _ (wsh_in _ lkx_1)) (hZ.1.2.2.use (by decide)) g1 g2 g3 ?_
      refine lv_astore (lv' := [(6, .ref q9), (0, .ref (ad 0)), (1, .int a1), (2, .int a2), (3, .int a3), (4, .int a4), (5, .ref qo)]) hx hb dL_imposeConsecutive_21 hl (Nat.le_of_ble_eq_true rfl) rfl (fun ls hl => ?_)
      refine lv_iconst (v := 2) hx hb dL_imposeConsecutive_23 (by decide) ?_
      exact k_liret F hr hlk hw (Nat.le_of_ble_eq_true rfl) (Nat.le_of_ble_eq_true rfl) dL_imposeConsecutive_24
    · subst hE
      refine vx_catch (own := RL) (name := exn 2) F.2.2.2.1 [⟨0, 14, 17, 44⟩, ⟨0, 14, 21, 13⟩] ⟨0, 14, 25, 35⟩ [] htab (fun z hz => by
          simp only [List.mem_cons, List.not_mem_nil, or_false] at hz
          rcases hz with rfl | rfl
          · exact Or.inr ⟨by decide, exn 3, F.2.2.2.2 _ (wsh_in _ lkx_3), hZ.2 2 3 (by decide) (by decide) (by decide) (by decide) (by decide)⟩
          · exact Or.inr ⟨by decide, exn 1, F.2.2.2.2 _ (wsh_in _ lkx_1), hZ.2 2 1 (by decide) (by decide) (by decide) (by decide) (by decide)⟩) (by decide) (by decide) (F.2.2.2.2 _ (wsh_in _ lkx_2)) (hZ.1.2.2.use (by decide)) g1 g2 g3 ?_
      refine lv_astore (lv' := [(6, .ref q9), (0, .ref (ad 0)), (1, .int a1), (2, .int a2), (3, .int a3), (4, .int a4), (5, .ref qo)]) hx hb dL_imposeConsecutive_25 hl (Nat.le_of_ble_eq_true rfl) rfl (fun ls hl => ?_)
      refine lv_iconst (v := 3) hx hb dL_imposeConsecutive_27 (by decide) ?_
      exact k_liret F hr hlk hw (Nat.le_of_ble_eq_true rfl) (Nat.le_of_ble_eq_true rfl) dL_imposeConsecutive_28
  · have hc0 : c0 = 0 := by
      rcases hc with ⟨h1, h2⟩ | ⟨h1, h2⟩ | ⟨h1, h2⟩ | ⟨h1, h2⟩
      · exact h2
      · rw [hk9] at h1; cases h1
      · rw [hk9] at h1; cases h1
      · rw [hk9] at h1; cases h1
    subst hc0; subst hk9
    refine lv_i2l hx hb dL_imposeConsecutive_12 rfl ?_
    refine k_lst (w' := wX G ad xr ++ [(qo, .inl (G.2 1, 1, .inr (.inl (vp_updL o 0 (rv.toInt64)))))]) F hw 34 rfl (by decide) rfl dL_imposeConsecutive_13 (fun H locs hw => ?_)
    refine lv_goto (tgt := 29) hx hb dL_imposeConsecutive_14 rfl ?_
    refine lv_iconst (v := 0) hx hb dL_imposeConsecutive_29 (by decide) ?_
    exact k_liret F hr hlk hw (Nat.le_of_ble_eq_true rfl) (Nat.le_of_ble_eq_true rfl) dL_imposeConsecutive_30
set_option maxHeartbeats 4000000 in
set_option maxRecDepth 100000 in
theorem t_L_isQuashed {G : gG} {l : Launch} (hlt : l.stackTraces = false) {ad : Nat → Nat} {qo n : Nat} {x : SX} {o : Nat → Int64} {a1 : Int32} {k0 : Nat} {rv c0 : Int32} (hf : f_X6_isQuashed n x a1 = some (k0, rv)) (hbz : rv = 0 ∨ rv = 1) (hc : (k0 = 0 ∧ c0 = 0) ∨ (k0 = 3 ∧ c0 = 1)) : MetL PrW G l yL_isQuashed cL_isQuashed 4 (some .int) hh_L_isQuashed 8 1 6 142 [.ref (ad 0), .int a1, .ref qo] (wX G ad x ++ [(qo, .inl (G.2 1, 1, .inr (.inl o)))]) (wX G ad x ++ [(qo, .inl (G.2 1, 1, .inr (.inl (if k0 = 0 then vp_updL o 0 rv.toInt64 else o))))]) c0 := by
  refine k_ofL (by decide) (Nat.le_of_ble_eq_true rfl) ?_
  intro p e s m args below meth c ls A F hr hlk htab hl hw hZ
  have hx := F.1
  have hb := F.2.1
  have hl : lv_has ls 4 [(0, .ref (ad 0)), (1, .int a1), (2, .ref qo)] := hl
  have htab : c.exceptionTable.toList = [⟨0, 16, 19, 44⟩] := htab
  refine lv_aload_n hx hb dL_isQuashed_0 rfl (lv_at hl 2 rfl) ?_
  refine lv_iconst (v := 0) hx hb dL_isQuashed_1 (by decide) ?_
  refine lv_aload_n hx hb dL_isQuashed_2 rfl (lv_at hl 0 rfl) ?_
  refine lv_iload_n hx hb dL_isQuashed_3 rfl (lv_at hl 1 rfl) ?_
  refine k_xcallVi (wl := []) (wr := [(qo, .inl (G.2 1, 1, .inr (.inl o)))]) (rest := [.int 0, .ref qo]) (As := [.int a1]) F wsh_in (t_X6_isQuashed hlt hf) cv_X6_isQuashed ml_L_64 hZ.1 hw 0 rfl rfl rfl hl.1 rfl (Nat.le_of_ble_eq_true rfl) ⟨Nat.le_of_ble_eq_true rfl, Nat.le_of_ble_eq_true rfl⟩ ⟨Nat.le_of_ble_eq_true rfl, Nat.le_of_ble_eq_true rfl⟩ dL_isQuashed_4 (fun hk9 E ce q9 H locs hE hw g1 g2 g3 => ?_) (fun hk9 H locs hw => ?_)
  · rcases hc with ⟨rfl, rfl⟩ | ⟨rfl, rfl⟩
    · exact absurd rfl hk9
    · subst hE
      refine vx_catch (own := RL) (name := exn 3) F.2.2.2.1 [] ⟨0, 16, 19, 44⟩ [] htab (fun z hz => by cases hz) (by decide) (by decide) (F.2.2.2.2 _ (wsh_in _ lkx_3)) (hZ.1.2.2.use (by decide)) g1 g2 g3 ?_
      refine lv_astore_n (lv' := [(3, .ref q9), (0, .ref (ad 0)), (1, .int a1), (2, .ref qo)]) hx hb dL_isQuashed_19 rfl hl (Nat.le_of_ble_eq_true rfl) rfl (fun ls hl => ?_)
      refine lv_iconst (v := 1) hx hb dL_isQuashed_20 (by decide) ?_
      exact k_liret F hr hlk hw (Nat.le_of_ble_eq_true rfl) (Nat.le_of_ble_eq_true rfl) dL_isQuashed_21
  · have hc0 : c0 = 0 := by
      rcases hc with ⟨h1, h2⟩ | ⟨h1, h2⟩
      · exact h2
      · rw [hk9] at h1; cases h1
    subst hc0; subst hk9
    have hz : rv = 0 ∨ rv = 1 := hbz
    refine lv_if_eq (tgt := 14) hx hb dL_isQuashed_7 rfl (fun cz => ?_) (fun cz => ?_)
    · subst cz
      refine lv_lconst (v := 0) hx hb dL_isQuashed_14 (by decide) ?_
      refine k_lst (w' := wX G ad x ++ [(qo, .inl (G.2 1, 1, .inr (.inl (vp_updL o 0 ((0 : Int32).toInt64)))))]) F hw 34 rfl (by decide) rfl dL_isQuashed_15 (fun H locs hw => ?_)
      refine lv_goto (tgt := 22) hx hb dL_isQuashed_16 rfl ?_
      refine lv_iconst (v := 0) hx hb dL_isQuashed_22 (by decide) ?_
      exact k_liret F hr hlk hw (Nat.le_of_ble_eq_true rfl) (Nat.le_of_ble_eq_true rfl) dL_isQuashed_23
    · obtain rfl : rv = 1 := hz.resolve_left cz
      refine lv_lconst (v := 1) hx hb dL_isQuashed_10 (by decide) ?_
      refine lv_goto (tgt := 15) hx hb dL_isQuashed_11 rfl ?_
      refine k_lst (w' := wX G ad x ++ [(qo, .inl (G.2 1, 1, .inr (.inl (vp_updL o 0 ((1 : Int32).toInt64)))))]) F hw 34 rfl (by decide) rfl dL_isQuashed_15 (fun H locs hw => ?_)
      refine lv_goto (tgt := 22) hx hb dL_isQuashed_16 rfl ?_
      refine lv_iconst (v := 0) hx hb dL_isQuashed_22 (by decide) ?_
      exact k_liret F hr hlk hw (Nat.le_of_ble_eq_true rfl) (Nat.le_of_ble_eq_true rfl) dL_isQuashed_23
set_option maxHeartbeats 4000000 in
set_option maxRecDepth 100000 in
theorem t_L_kindOf {G : gG} {l : Launch} (hlt : l.stackTraces = false) {ad : Nat → Nat} {qo n : Nat} {x : SX} {o : Nat → Int64} {a1 : Int32} {k0 : Nat} {rv c0 : Int32} (hf : f_X6_kindOf n x a1 = some (k0, rv)) (hc : (k0 = 0 ∧ c0 = 0) ∨ (k0 = 3 ∧ c0 = 1)) : MetL PrW G l yL_kindOf cL_kindOf 4 (some .int) hh_L_kindOf 8 1 6 142 [.ref (ad 0), .int a1, .ref qo] (wX G ad x ++ [(qo, .inl (G.2 1, 1, .inr (.inl o)))]) (wX G ad x ++ [(qo, .inl (G.2 1, 1, .inr (.inl (if k0 = 0 then vp_updL o 0 rv.toInt64 else o))))]) c0 := by
  refine k_ofL (by decide) (Nat.le_of_ble_eq_true rfl) ?_
  intro p e s m args below meth c ls A F hr hlk htab hl hw hZ
  have hx := F.1
  have hb := F.2.1
  have hl : lv_has ls 4 [(0, .ref (ad 0)), (1, .int a1), (2, .ref qo)] := hl
  have htab : c.exceptionTable.toList = [⟨0, 9, 12, 44⟩] := htab
  refine lv_aload_n hx hb dL_kindOf_0 rfl (lv_at hl 2 rfl) ?_
  refine lv_iconst (v := 0) hx hb dL_kindOf_1 (by decide) ?_
  refine lv_aload_n hx hb dL_kindOf_2 rfl (lv_at hl 0 rfl) ?_
  refine lv_iload_n hx hb dL_kindOf_3 rfl (lv_at hl 1 rfl) ?_
  refine k_xcallVi (wl := []) (wr := [(qo, .inl (G.2 1, 1, .inr (.inl o)))]) (rest := [.int 0, .ref qo]) (As := [.int a1]) F wsh_in (t_X6_kindOf hlt hf) cv_X6_kindOf ml_L_61 hZ.1 hw 0 rfl rfl rfl hl.1 rfl (Nat.le_of_ble_eq_true rfl) ⟨Nat.le_of_ble_eq_true rfl, Nat.le_of_ble_eq_true rfl⟩ ⟨Nat.le_of_ble_eq_true rfl, Nat.le_of_ble_eq_true rfl⟩ dL_kindOf_4 (fun hk9 E ce q9 H locs hE hw g1 g2 g3 => ?_) (fun hk9 H locs hw => ?_)
  · rcases hc with ⟨rfl, rfl⟩ | ⟨rfl, rfl⟩
    · exact absurd rfl hk9
    · subst hE
      refine vx_catch (own := RL) (name := exn 3) F.2.2.2.1 [] ⟨0, 9, 12, 44⟩ [] htab (fun z hz => by cases hz) (by decide) (by decide) (F.2.2.2.2 _ (wsh_in _ lkx_3)) (hZ.1.2.2.use (by decide)) g1 g2 g3 ?_
      refine lv_astore_n (lv' := [(3, .ref q9), (0, .ref (ad 0)), (1, .int a1), (2, .ref qo)]) hx hb dL_kindOf_12 rfl hl (Nat.le_of_ble_eq_true rfl) rfl (fun ls hl => ?_)
      refine lv_iconst (v := 1) hx hb dL_kindOf_13 (by decide) ?_
      exact k_liret F hr hlk hw (Nat.le_of_ble_eq_true rfl) (Nat.le_of_ble_eq_true rfl) dL_kindOf_14
  · have hc0 : c0 = 0 := by
      rcases hc with ⟨h1, h2⟩ | ⟨h1, h2⟩
      · exact h2
      · rw [hk9] at h1; cases h1
    subst hc0; subst hk9
    refine lv_i2l hx hb dL_kindOf_7 rfl ?_
    refine k_lst (w' := wX G ad x ++ [(qo, .inl (G.2 1, 1, .inr (.inl (vp_updL o 0 (rv.toInt64)))))]) F hw 34 rfl (by decide) rfl dL_kindOf_8 (fun H locs hw => ?_)
    refine lv_goto (tgt := 15) hx hb dL_kindOf_9 rfl ?_
    refine lv_iconst (v := 0) hx hb dL_kindOf_15 (by decide) ?_
    exact k_liret F hr hlk hw (Nat.le_of_ble_eq_true rfl) (Nat.le_of_ble_eq_true rfl) dL_kindOf_16
set_option maxHeartbeats 4000000 in
set_option maxRecDepth 100000 in
theorem t_L_lastEnd {G : gG} {l : Launch} (hlt : l.stackTraces = false) {ad : Nat → Nat} {qo n : Nat} {x : SX} {o : Nat → Int64} {k0 : Nat} {rv c0 : Int32} (hf : f_X6_lastEnd n x = some (k0, rv)) (hc : (k0 = 0 ∧ c0 = 0) ∨ (k0 = 4 ∧ c0 = 1)) : MetL PrW G l yL_lastEnd cL_lastEnd 3 (some .int) hh_L_lastEnd 8 1 6 140 [.ref (ad 0), .ref qo] (wX G ad x ++ [(qo, .inl (G.2 1, 1, .inr (.inl o)))]) (wX G ad x ++ [(qo, .inl (G.2 1, 1, .inr (.inl (if k0 = 0 then vp_updL o 0 rv.toInt64 else o))))]) c0 := by
  refine k_ofL (by decide) (Nat.le_of_ble_eq_true rfl) ?_
  intro p e s m args below meth c ls A F hr hlk htab hl hw hZ
  have hx := F.1
  have hb := F.2.1
  have hl : lv_has ls 3 [(0, .ref (ad 0)), (1, .ref qo)] := hl
  have htab : c.exceptionTable.toList = [⟨0, 8, 11, 71⟩] := htab
  refine lv_aload_n hx hb dL_lastEnd_0 rfl (lv_at hl 1 rfl) ?_
  refine lv_iconst (v := 0) hx hb dL_lastEnd_1 (by decide) ?_
  refine lv_aload_n hx hb dL_lastEnd_2 rfl (lv_at hl 0 rfl) ?_
  refine k_xcallVi (wl := []) (wr := [(qo, .inl (G.2 1, 1, .inr (.inl o)))]) (rest := [.int 0, .ref qo]) (As := []) F wsh_in (t_X6_lastEnd hlt hf) cv_X6_lastEnd ml_L_113 hZ.1 hw 0 rfl rfl rfl hl.1 rfl (Nat.le_of_ble_eq_true rfl) ⟨Nat.le_of_ble_eq_true rfl, Nat.le_of_ble_eq_true rfl⟩ ⟨Nat.le_of_ble_eq_true rfl, Nat.le_of_ble_eq_true rfl⟩ dL_lastEnd_3 (fun hk9 E ce q9 H locs hE hw g1 g2 g3 => ?_) (fun hk9 H locs hw => ?_)
  · rcases hc with ⟨rfl, rfl⟩ | ⟨rfl, rfl⟩
    · exact absurd rfl hk9
    · subst hE
      refine vx_catch (own := RL) (name := exn 4) F.2.2.2.1 [] ⟨0, 8, 11, 71⟩ [] htab (fun z hz => by cases hz) (by decide) (by decide) (F.2.2.2.2 _ (wsh_in _ lkx_4)) (hZ.1.2.2.use (by decide)) g1 g2 g3 ?_
      refine lv_astore_n (lv' := [(2, .ref q9), (0, .ref (ad 0)), (1, .ref qo)]) hx hb dL_lastEnd_11 rfl hl (Nat.le_of_ble_eq_true rfl) rfl (fun ls hl => ?_)
      refine lv_iconst (v := 1) hx hb dL_lastEnd_12 (by decide) ?_
      exact k_liret F hr hlk hw (Nat.le_of_ble_eq_true rfl) (Nat.le_of_ble_eq_true rfl) dL_lastEnd_13
  · have hc0 : c0 = 0 := by
      rcases hc with ⟨h1, h2⟩ | ⟨h1, h2⟩
      · exact h2
      · rw [hk9] at h1; cases h1
    subst hc0; subst hk9
    refine lv_i2l hx hb dL_lastEnd_6 rfl ?_
    refine k_lst (w' := wX G ad x ++ [(qo, .inl (G.2 1, 1, .inr (.inl (vp_updL o 0 (rv.toInt64)))))]) F hw 34 rfl (by decide) rfl dL_lastEnd_7 (fun H locs hw => ?_)
    refine lv_goto (tgt := 14) hx hb dL_lastEnd_8 rfl ?_
    refine lv_iconst (v := 0) hx hb dL_lastEnd_14 (by decide) ?_
    exact k_liret F hr hlk hw (Nat.le_of_ble_eq_true rfl) (Nat.le_of_ble_eq_true rfl) dL_lastEnd_15
set_option maxHeartbeats 4000000 in
set_option maxRecDepth 100000 in
theorem t_L_lastRelease {G : gG} {l : Launch} (hlt : l.stackTraces = false) {ad : Nat → Nat} {qo n : Nat} {x : SX} {o : Nat → Int64} {k0 : Nat} {rv c0 : Int32} (hf : f_X6_lastRelease n x = some (k0, rv)) (hc : (k0 = 0 ∧ c0 = 0) ∨ (k0 = 4 ∧ c0 = 1)) : MetL PrW G l yL_lastRelease cL_lastRelease 3 (some .int) hh_L_lastRelease 8 1 6 140 [.ref (ad 0), .ref qo] (wX G ad x ++ [(qo, .inl (G.2 1, 1, .inr (.inl o)))]) (wX G ad x ++ [(qo, .inl (G.2 1, 1, .inr (.inl (if k0 = 0 then vp_updL o 0 rv.toInt64 else o))))]) c0 := by
  refine k_ofL (by decide) (Nat.le_of_ble_eq_true rfl) ?_
  intro p e s m args below meth c ls A F hr hlk htab hl hw hZ
  have hx := F.1
  have hb := F.2.1
  have hl : lv_has ls 3 [(0, .ref (ad 0)), (1, .ref qo)] := hl
  have htab : c.exceptionTable.toList = [⟨0, 8, 11, 71⟩] := htab
  refine lv_aload_n hx hb dL_lastRelease_0 rfl (lv_at hl 1 rfl) ?_
  refine lv_iconst (v := 0) hx hb dL_lastRelease_1 (by decide) ?_
  refine lv_aload_n hx hb dL_lastRelease_2 rfl (lv_at hl 0 rfl) ?_
  refine k_xcallVi (wl := []) (wr := [(qo, .inl (G.2 1, 1, .inr (.inl o)))]) (rest := [.int 0, .ref qo]) (As := []) F wsh_in (t_X6_lastRelease hlt hf) cv_X6_lastRelease ml_L_109 hZ.1 hw 0 rfl rfl rfl hl.1 rfl (Nat.le_of_ble_eq_true rfl) ⟨Nat.le_of_ble_eq_true rfl, Nat.le_of_ble_eq_true rfl⟩ ⟨Nat.le_of_ble_eq_true rfl, Nat.le_of_ble_eq_true rfl⟩ dL_lastRelease_3 (fun hk9 E ce q9 H locs hE hw g1 g2 g3 => ?_) (fun hk9 H locs hw => ?_)
  · rcases hc with ⟨rfl, rfl⟩ | ⟨rfl, rfl⟩
    · exact absurd rfl hk9
    · subst hE
      refine vx_catch (own := RL) (name := exn 4) F.2.2.2.1 [] ⟨0, 8, 11, 71⟩ [] htab (fun z hz => by cases hz) (by decide) (by decide) (F.2.2.2.2 _ (wsh_in _ lkx_4)) (hZ.1.2.2.use (by decide)) g1 g2 g3 ?_
      refine lv_astore_n (lv' := [(2, .ref q9), (0, .ref (ad 0)), (1, .ref qo)]) hx hb dL_lastRelease_11 rfl hl (Nat.le_of_ble_eq_true rfl) rfl (fun ls hl => ?_)
      refine lv_iconst (v := 1) hx hb dL_lastRelease_12 (by decide) ?_
      exact k_liret F hr hlk hw (Nat.le_of_ble_eq_true rfl) (Nat.le_of_ble_eq_true rfl) dL_lastRelease_13
  · have hc0 : c0 = 0 := by
      rcases hc with ⟨h1, h2⟩ | ⟨h1, h2⟩
      · exact h2
      · rw [hk9] at h1; cases h1
    subst hc0; subst hk9
    refine lv_i2l hx hb dL_lastRelease_6 rfl ?_
    refine k_lst (w' := wX G ad x ++ [(qo, .inl (G.2 1, 1, .inr (.inl (vp_updL o 0 (rv.toInt64)))))]) F hw 34 rfl (by decide) rfl dL_lastRelease_7 (fun H locs hw => ?_)
    refine lv_goto (tgt := 14) hx hb dL_lastRelease_8 rfl ?_
    refine lv_iconst (v := 0) hx hb dL_lastRelease_14 (by decide) ?_
    exact k_liret F hr hlk hw (Nat.le_of_ble_eq_true rfl) (Nat.le_of_ble_eq_true rfl) dL_lastRelease_15
set_option maxHeartbeats 4000000 in
set_option maxRecDepth 100000 in
theorem t_L_lastReleaseWithAward {G : gG} {l : Launch} (hlt : l.stackTraces = false) {ad : Nat → Nat} {qo n : Nat} {x : SX} {o : Nat → Int64} {a1 : Int32} {k0 : Nat} {rv c0 : Int32} (hf : f_X6_lastReleaseWithAward n x a1 = some (k0, rv)) (hc : (k0 = 0 ∧ c0 = 0) ∨ (k0 = 1 ∧ c0 = 1) ∨ (k0 = 2 ∧ c0 = 2)) : MetL PrW G l yL_lastReleaseWithAward cL_lastReleaseWithAward 4 (some .int) hh_L_lastReleaseWithAward 8 2 12 141 [.ref (ad 0), .int a1, .ref qo] (wX G ad x ++ [(qo, .inl (G.2 1, 1, .inr (.inl o)))]) (wX G ad x ++ [(qo, .inl (G.2 1, 1, .inr (.inl (if k0 = 0 then vp_updL o 0 rv.toInt64 else o))))]) c0 := by
  refine k_ofL (by decide) (Nat.le_of_ble_eq_true rfl) ?_
  intro p e s m args below meth c ls A F hr hlk htab hl hw hZ
  have hx := F.1
  have hb := F.2.1
  have hl : lv_has ls 4 [(0, .ref (ad 0)), (1, .int a1), (2, .ref qo)] := hl
  have htab : c.exceptionTable.toList = [⟨0, 9, 12, 13⟩, ⟨0, 9, 15, 35⟩] := htab
  refine lv_aload_n hx hb dL_lastReleaseWithAward_0 rfl (lv_at hl 2 rfl) ?_
  refine lv_iconst (v := 0) hx hb dL_lastReleaseWithAward_1 (by decide) ?_
  refine lv_aload_n hx hb dL_lastReleaseWithAward_2 rfl (lv_at hl 0 rfl) ?_
  refine lv_iload_n hx hb dL_lastReleaseWithAward_3 rfl (lv_at hl 1 rfl) ?_
  refine k_xcallVi (wl := []) (wr := [(qo, .inl (G.2 1, 1, .inr (.inl o)))]) (rest := [.int 0, .ref qo]) (As := [.int a1]) F wsh_in (t_X6_lastReleaseWithAward hlt hf) cv_X6_lastReleaseWithAward ml_L_132 hZ.1 hw 0 rfl rfl rfl hl.1 rfl (Nat.le_of_ble_eq_true rfl) ⟨Nat.le_of_ble_eq_true rfl, Nat.le_of_ble_eq_true rfl⟩ ⟨Nat.le_of_ble_eq_true rfl, Nat.le_of_ble_eq_true rfl⟩ dL_lastReleaseWithAward_4 (fun hk9 E ce q9 H locs hE hw g1 g2 g3 => ?_) (fun hk9 H locs hw => ?_)
  · rcases hc with ⟨rfl, rfl⟩ | ⟨rfl, rfl⟩ | ⟨rfl, rfl⟩
    · exact absurd rfl hk9
    · subst hE
      refine vx_catch (own := RL) (name := exn 1) F.2.2.2.1 [] ⟨0, 9, 12, 13⟩ [⟨0, 9, 15, 35⟩] htab (fun z hz => by cases hz) (by decide) (by decide) (F.2.2.2.2 _ (wsh_in _ lkx_1)) (hZ.1.2.2.use (by decide)) g1 g2 g3 ?_
      refine lv_astore_n (lv' := [(3, .ref q9), (0, .ref (ad 0)), (1, .int a1), (2, .ref qo)]) hx hb dL_lastReleaseWithAward_12 rfl hl (Nat.le_of_ble_eq_true rfl) rfl (fun ls hl => ?_)
      refine lv_iconst (v := 1) hx hb dL_lastReleaseWithAward_13 (by decide) ?_
      exact k_liret F hr hlk hw (Nat.le_of_ble_eq_true rfl) (Nat.le_of_ble_eq_true rfl) dL_lastReleaseWithAward_14
    · subst hE
      refine vx_catch (own := RL) (name := exn 2) F.2.2.2.1 [⟨0, 9, 12, 13⟩] ⟨0, 9, 15, 35⟩ [] htab (fun z hz => by
          simp only [List.mem_cons, List.not_mem_nil, or_false] at hz
          rcases hz with rfl
          · exact Or.inr ⟨by decide, exn 1, F.2.2.2.2 _ (wsh_in _ lkx_1), hZ.2 2 1 (by decide) (by decide) (by decide) (by decide) (by decide)⟩) (by decide) (by decide) (F.2.2.2.2 _ (wsh_in _ lkx_2)) (hZ.1.2.2.use (by decide)) g1 g2 g3 ?_
      refine lv_astore_n (lv' := [(3, .ref q9), (0, .ref (ad 0)), (1, .int a1), (2, .ref qo)]) hx hb dL_lastReleaseWithAward_15 rfl hl (Nat.le_of_ble_eq_true rfl) rfl (fun ls hl => ?_)
      refine lv_iconst (v := 2) hx hb dL_lastReleaseWithAward_16 (by decide) ?_
      exact k_liret F hr hlk hw (Nat.le_of_ble_eq_true rfl) (Nat.le_of_ble_eq_true rfl) dL_lastReleaseWithAward_17
  · have hc0 : c0 = 0 := by
      rcases hc with ⟨h1, h2⟩ | ⟨h1, h2⟩ | ⟨h1, h2⟩
      · exact h2
      · rw [hk9] at h1; cases h1
      · rw [hk9] at h1; cases h1
    subst hc0; subst hk9
    refine lv_i2l hx hb dL_lastReleaseWithAward_7 rfl ?_
    refine k_lst (w' := wX G ad x ++ [(qo, .inl (G.2 1, 1, .inr (.inl (vp_updL o 0 (rv.toInt64)))))]) F hw 34 rfl (by decide) rfl dL_lastReleaseWithAward_8 (fun H locs hw => ?_)
    refine lv_goto (tgt := 18) hx hb dL_lastReleaseWithAward_9 rfl ?_
    refine lv_iconst (v := 0) hx hb dL_lastReleaseWithAward_18 (by decide) ?_
    exact k_liret F hr hlk hw (Nat.le_of_ble_eq_true rfl) (Nat.le_of_ble_eq_true rfl) dL_lastReleaseWithAward_19
set_option maxHeartbeats 4000000 in
set_option maxRecDepth 100000 in
theorem t_L_lastReleaseWithout {G : gG} {l : Launch} (hlt : l.stackTraces = false) {ad : Nat → Nat} {qo n : Nat} {x xr : SX} {o : Nat → Int64} {a1 : Int32} {k0 : Nat} {rv c0 : Int32} (hf : f_X6_lastReleaseWithout n x a1 = some (k0, rv, xr)) (hc : (k0 = 0 ∧ c0 = 0) ∨ (k0 = 3 ∧ c0 = 1) ∨ (k0 = 2 ∧ c0 = 2) ∨ (k0 = 4 ∧ c0 = 3)) : MetL PrW G l yL_lastReleaseWithout cL_lastReleaseWithout 4 (some .int) hh_L_lastReleaseWithout 9 3 18 164 [.ref (ad 0), .int a1, .ref qo] (wX G ad x ++ [(qo, .inl (G.2 1, 1, .inr (.inl o)))]) (wX G ad xr ++ [(qo, .inl (G.2 1, 1, .inr (.inl (if k0 = 0 then vp_updL o 0 rv.toInt64 else o))))]) c0 := by
  refine k_ofL (by decide) (Nat.le_of_ble_eq_true rfl) ?_
  intro p e s m args below meth c ls A F hr hlk htab hl hw hZ
  have hx := F.1
  have hb := F.2.1
  have hl : lv_has ls 4 [(0, .ref (ad 0)), (1, .int a1), (2, .ref qo)] := hl
  have htab : c.exceptionTable.toList = [⟨0, 9, 12, 44⟩, ⟨0, 9, 15, 35⟩, ⟨0, 9, 18, 71⟩] := htab
  refine lv_aload_n hx hb dL_lastReleaseWithout_0 rfl (lv_at hl 2 rfl) ?_
  refine lv_iconst (v := 0) hx hb dL_lastReleaseWithout_1 (by decide) ?_
  refine lv_aload_n hx hb dL_lastReleaseWithout_2 rfl (lv_at hl 0 rfl) ?_
  refine lv_iload_n hx hb dL_lastReleaseWithout_3 rfl (lv_at hl 1 rfl) ?_
  refine k_xcallVi (wl := []) (wr := [(qo, .inl (G.2 1, 1, .inr (.inl o)))]) (rest := [.int 0, .ref qo]) (As := [.int a1]) F wsh_in (t_X6_lastReleaseWithout hlt hf) cv_X6_lastReleaseWithout ml_L_135 hZ.1 hw 0 rfl rfl rfl hl.1 rfl (Nat.le_of_ble_eq_true rfl) ⟨Nat.le_of_ble_eq_true rfl, Nat.le_of_ble_eq_true rfl⟩ ⟨Nat.le_of_ble_eq_true rfl, Nat.le_of_ble_eq_true rfl⟩ dL_lastReleaseWithout_4 (fun hk9 E ce q9 H locs hE hw g1 g2 g3 => ?_) (fun hk9 H locs hw => ?_)
  · rcases hc with ⟨rfl, rfl⟩ | ⟨rfl, rfl⟩ | ⟨rfl, rfl⟩ | ⟨rfl, rfl⟩
    · exact absurd rfl hk9
    · subst hE
      refine vx_catch (own := RL) (name := exn 3) F.2.2.2.1 [] ⟨0, 9, 12, 44⟩ [⟨0, 9, 15, 35⟩, ⟨0, 9, 18, 71⟩] htab (fun z hz => by cases hz) (by decide) (by decide) (F.2.2.2.2 _ (wsh_in _ lkx_3)) (hZ.1.2.2.use (by decide)) g1 g2 g3 ?_
      refine lv_astore_n (lv' := [(3, .ref q9), (0, .ref (ad 0)), (1, .int a1), (2, .ref qo)]) hx hb dL_lastReleaseWithout_12 rfl hl (Nat.le_of_ble_eq_true rfl) rfl (fun ls hl => ?_)
      refine lv_iconst (v := 1) hx hb dL_lastReleaseWithout_13 (by decide) ?_
      exact k_liret F hr hlk hw (Nat.le_of_ble_eq_true rfl) (Nat.le_of_ble_eq_true rfl) dL_lastReleaseWithout_14
    · subst hE
      refine vx_catch (own := RL) (name := exn 2) F.2.2.2.1 [⟨0, 9, 12, 44⟩] ⟨0, 9, 15, 35⟩ [⟨0, 9, 18, 71⟩] htab (fun z hz => by
          simp only [List.mem_cons, List.not_mem_nil, or_false] at hz
          rcases hz with rfl
          · exact Or.inr ⟨by decide, exn 3, F.2.2.2.2 _ (wsh_in _ lkx_3), hZ.2 2 3 (by decide) (by decide) (by decide) (by decide) (by decide)⟩) (by decide) (by decide) (F.2.2.2.2 _ (wsh_in _ lkx_2)) (hZ.1.2.2.use (by decide)) g1 g2 g3 ?_
      refine lv_astore_n (lv' := [(3, .ref q9), (0, .ref (ad 0)), (1, .int a1), (2, .ref qo)]) hx hb dL_lastReleaseWithout_15 rfl hl (Nat.le_of_ble_eq_true rfl) rfl (fun ls hl => ?_)
      refine lv_iconst (v := 2) hx hb dL_lastReleaseWithout_16 (by decide) ?_
      exact k_liret F hr hlk hw (Nat.le_of_ble_eq_true rfl) (Nat.le_of_ble_eq_true rfl) dL_lastReleaseWithout_17
    · subst hE
      refine vx_catch (own := RL) (name := exn 4) F.2.2.2.1 [⟨0, 9, 12, 44⟩, ⟨0, 9, 15, 35⟩] ⟨0, 9, 18, 71⟩ [] htab (fun z hz => by
          simp only [List.mem_cons, List.not_mem_nil, or_false] at hz
          rcases hz with rfl | rfl
          · exact Or.inr ⟨by decide, exn 3, F.2.2.2.2 _ (wsh_in _ lkx_3), hZ.2 4 3 (by decide) (by decide) (by decide) (by decide) (by decide)⟩
          · exact Or.inr ⟨by decide, exn 2, F.2.2.2.2 _ (wsh_in _ lkx_2), hZ.2 4 2 (by decide) (by decide) (by decide) (by decide) (by decide)⟩) (by decide) (by decide) (F.2.2.2.2 _ (wsh_in _ lkx_4)) (hZ.1.2.2.use (by decide)) g1 g2 g3 ?_
      refine lv_astore_n (lv' := [(3, .ref q9), (0, .ref (ad 0)), (1, .int a1), (2, .ref qo)]) hx hb dL_lastReleaseWithout_18 rfl hl (Nat.le_of_ble_eq_true rfl) rfl (fun ls hl => ?_)
      refine lv_iconst (v := 3) hx hb dL_lastReleaseWithout_19 (by decide) ?_
      exact k_liret F hr hlk hw (Nat.le_of_ble_eq_true rfl) (Nat.le_of_ble_eq_true rfl) dL_lastReleaseWithout_20
  · have hc0 : c0 = 0 := by
      rcases hc with ⟨h1, h2⟩ | ⟨h1, h2⟩ | ⟨h1, h2⟩ | ⟨h1, h2⟩
      · exact h2
      · rw [hk9] at h1; cases h1
      · rw [hk9] at h1; cases h1
      · rw [hk9] at h1; cases h1
    subst hc0; subst hk9
    refine lv_i2l hx hb dL_lastReleaseWithout_7 rfl ?_
    refine k_lst (w' := wX G ad xr ++ [(qo, .inl (G.2 1, 1, .inr (.inl (vp_updL o 0 (rv.toInt64)))))]) F hw 34 rfl (by decide) rfl dL_lastReleaseWithout_8 (fun H locs hw => ?_)
    refine lv_goto (tgt := 21) hx hb dL_lastReleaseWithout_9 rfl ?_
    refine lv_iconst (v := 0) hx hb dL_lastReleaseWithout_21 (by decide) ?_
    exact k_liret F hr hlk hw (Nat.le_of_ble_eq_true rfl) (Nat.le_of_ble_eq_true rfl) dL_lastReleaseWithout_22
set_option maxHeartbeats 4000000 in
set_option maxRecDepth 100000 in
theorem t_L_length {G : gG} {l : Launch} (hlt : l.stackTraces = false) {ad : Nat → Nat} {qo n : Nat} {x : SX} {o : Nat → Int64} {a1 : Int32} {k0 : Nat} {rv c0 : Int32} (hf : f_X6_length n x a1 = some (k0, rv)) (hc : (k0 = 0 ∧ c0 = 0) ∨ (k0 = 3 ∧ c0 = 1) ∨ (k0 = 2 ∧ c0 = 2)) : MetL PrW G l yL_length cL_length 4 (some .int) hh_L_length 9 2 12 163 [.ref (ad 0), .int a1, .ref qo] (wX G ad x ++ [(qo, .inl (G.2 1, 1, .inr (.inl o)))]) (wX G ad x ++ [(qo, .inl (G.2 1, 1, .inr (.inl (if k0 = 0 then vp_updL o 0 rv.toInt64 else o))))]) c0 := by
  refine k_ofL (by decide) (Nat.le_of_ble_eq_true rfl) ?_
  intro p e s m args below meth c ls A F hr hlk htab hl hw hZ
  have hx := F.1
  have hb := F.2.1
  have hl : lv_has ls 4 [(0, .ref (ad 0)), (1, .int a1), (2, .ref qo)] := hl
  have htab : c.exceptionTable.toList = [⟨0, 9, 12, 44⟩, ⟨0, 9, 15, 35⟩] := htab
  refine lv_aload_n hx hb dL_length_0 rfl (lv_at hl 2 rfl) ?_
  refine lv_iconst (v := 0) hx hb dL_length_1 (by decide) ?_
  refine lv_aload_n hx hb dL_length_2 rfl (lv_at hl 0 rfl) ?_
  refine lv_iload_n hx hb dL_length_3 rfl (lv_at hl 1 rfl) ?_
  refine k_xcallVi (wl := []) (wr := [(qo, .inl (G.2 1, 1, .inr (.inl o)))]) (rest := [.int 0, .ref qo]) (As := [.int a1]) F wsh_in (t_X6_length hlt hf) cv_X6_length ml_L_82 hZ.1 hw 0 rfl rfl rfl hl.1 rfl (Nat.le_of_ble_eq_true rfl) ⟨Nat.le_of_ble_eq_true rfl, Nat.le_of_ble_eq_true rfl⟩ ⟨Nat.le_of_ble_eq_true rfl, Nat.le_of_ble_eq_true rfl⟩ dL_length_4 (fun hk9 E ce q9 H locs hE hw g1 g2 g3 => ?_) (fun hk9 H locs hw => ?_)
  · rcases hc with ⟨rfl, rfl⟩ | ⟨rfl, rfl⟩ | ⟨rfl, rfl⟩
    · exact absurd rfl hk9
    · subst hE
      refine vx_catch (own := RL) (name := exn 3) F.2.2.2.1 [] ⟨0, 9, 12, 44⟩ [⟨0, 9, 15, 35⟩] htab (fun z hz => by cases hz) (by decide) (by decide) (F.2.2.2.2 _ (wsh_in _ lkx_3)) (hZ.1.2.2.use (by decide)) g1 g2 g3 ?_
      refine lv_astore_n (lv' := [(3, .ref q9), (0, .ref (ad 0)), (1, .int a1), (2, .ref qo)]) hx hb dL_length_12 rfl hl (Nat.le_of_ble_eq_true rfl) rfl (fun ls hl => ?_)
      refine lv_iconst (v := 1) hx hb dL_length_13 (by decide) ?_
      exact k_liret F hr hlk hw (Nat.le_of_ble_eq_true rfl) (Nat.le_of_ble_eq_true rfl) dL_length_14
    · subst hE
      refine vx_catch (own := RL) (name := exn 2) F.2.2.2.1 [⟨0, 9, 12, 44⟩] ⟨0, 9, 15, 35⟩ [] htab (fun z hz => by
          simp only [List.mem_cons, List.not_mem_nil, or_false] at hz
          rcases hz with rfl
          · exact Or.inr ⟨by decide, exn 3, F.2.2.2.2 _ (wsh_in _ lkx_3), hZ.2 2 3 (by decide) (by decide) (by decide) (by decide) (by decide)⟩) (by decide) (by decide) (F.2.2.2.2 _ (wsh_in _ lkx_2)) (hZ.1.2.2.use (by decide)) g1 g2 g3 ?_
      refine lv_astore_n (lv' := [(3, .ref q9), (0, .ref (ad 0)), (1, .int a1), (2, .ref qo)]) hx hb dL_length_15 rfl hl (Nat.le_of_ble_eq_true rfl) rfl (fun ls hl => ?_)
      refine lv_iconst (v := 2) hx hb dL_length_16 (by decide) ?_
      exact k_liret F hr hlk hw (Nat.le_of_ble_eq_true rfl) (Nat.le_of_ble_eq_true rfl) dL_length_17
  · have hc0 : c0 = 0 := by
      rcases hc with ⟨h1, h2⟩ | ⟨h1, h2⟩ | ⟨h1, h2⟩
      · exact h2
      · rw [hk9] at h1; cases h1
      · rw [hk9] at h1; cases h1
    subst hc0; subst hk9
    refine lv_i2l hx hb dL_length_7 rfl ?_
    refine k_lst (w' := wX G ad x ++ [(qo, .inl (G.2 1, 1, .inr (.inl (vp_updL o 0 (rv.toInt64)))))]) F hw 34 rfl (by decide) rfl dL_length_8 (fun H locs hw => ?_)
    refine lv_goto (tgt := 18) hx hb dL_length_9 rfl ?_
    refine lv_iconst (v := 0) hx hb dL_length_18 (by decide) ?_
    exact k_liret F hr hlk hw (Nat.le_of_ble_eq_true rfl) (Nat.le_of_ble_eq_true rfl) dL_length_19
set_option maxHeartbeats 4000000 in
set_option maxRecDepth 100000 in
theorem t_L_monthOf {G : gG} {l : Launch} (hlt : l.stackTraces = false) {ad : Nat → Nat} {qo n : Nat} {x : SX} {o : Nat → Int64} {a1 : Int32} {k0 : Nat} {rv c0 : Int32} (hf : f_X6_monthOf n x a1 = some (k0, rv)) (hc : (k0 = 0 ∧ c0 = 0) ∨ (k0 = 1 ∧ c0 = 1)) : MetL PrW G l yL_monthOf cL_monthOf 4 (some .int) hh_L_monthOf 8 1 6 141 [.ref (ad 0), .int a1, .ref qo] (wX G ad x ++ [(qo, .inl (G.2 1, 1, .inr (.inl o)))]) (wX G ad x ++ [(qo, .inl (G.2 1, 1, .inr (.inl (if k0 = 0 then vp_updL o 0 rv.toInt64 else o))))]) c0 := by
  refine k_ofL (by decide) (Nat.le_of_ble_eq_true rfl) ?_
  intro p e s m args below meth c ls A F hr hlk htab hl hw hZ
  have hx := F.1
  have hb := F.2.1
  have hl : lv_has ls 4 [(0, .ref (ad 0)), (1, .int a1), (2, .ref qo)] := hl
  have htab : c.exceptionTable.toList = [⟨0, 9, 12, 13⟩] := htab
  refine lv_aload_n hx hb dL_monthOf_0 rfl (lv_at hl 2 rfl) ?_
  refine lv_iconst (v := 0) hx hb dL_monthOf_1 (by decide) ?_
  refine lv_aload_n hx hb dL_monthOf_2 rfl (lv_at hl 0 rfl) ?_
  refine lv_iload_n hx hb dL_monthOf_3 rfl (lv_at hl 1 rfl) ?_
  refine k_xcallVi (wl := []) (wr := [(qo, .inl (G.2 1, 1, .inr (.inl o)))]) (rest := [.int 0, .ref qo]) (As := [.int a1]) F wsh_in (t_X6_monthOf hlt hf) cv_X6_monthOf ml_L_22 hZ.1 hw 0 rfl rfl rfl hl.1 rfl (Nat.le_of_ble_eq_true rfl) ⟨Nat.le_of_ble_eq_true rfl, Nat.le_of_ble_eq_true rfl⟩ ⟨Nat.le_of_ble_eq_true rfl, Nat.le_of_ble_eq_true rfl⟩ dL_monthOf_4 (fun hk9 E ce q9 H locs hE hw g1 g2 g3 => ?_) (fun hk9 H locs hw => ?_)
  · rcases hc with ⟨rfl, rfl⟩ | ⟨rfl, rfl⟩
    · exact absurd rfl hk9
    · subst hE
      refine vx_catch (own := RL) (name := exn 1) F.2.2.2.1 [] ⟨0, 9, 12, 13⟩ [] htab (fun z hz => by cases hz) (by decide) (by decide) (F.2.2.2.2 _ (wsh_in _ lkx_1)) (hZ.1.2.2.use (by decide)) g1 g2 g3 ?_
      refine lv_astore_n (lv' := [(3, .ref q9), (0, .ref (ad 0)), (1, .int a1), (2, .ref qo)]) hx hb dL_monthOf_12 rfl hl (Nat.le_of_ble_eq_true rfl) rfl (fun ls hl => ?_)
      refine lv_iconst (v := 1) hx hb dL_monthOf_13 (by decide) ?_
      exact k_liret F hr hlk hw (Nat.le_of_ble_eq_true rfl) (Nat.le_of_ble_eq_true rfl) dL_monthOf_14
  · have hc0 : c0 = 0 := by
      rcases hc with ⟨h1, h2⟩ | ⟨h1, h2⟩
      · exact h2
      · rw [hk9] at h1; cases h1
    subst hc0; subst hk9
    refine lv_i2l hx hb dL_monthOf_7 rfl ?_
    refine k_lst (w' := wX G ad x ++ [(qo, .inl (G.2 1, 1, .inr (.inl (vp_updL o 0 (rv.toInt64)))))]) F hw 34 rfl (by decide) rfl dL_monthOf_8 (fun H locs hw => ?_)
    refine lv_goto (tgt := 15) hx hb dL_monthOf_9 rfl ?_
    refine lv_iconst (v := 0) hx hb dL_monthOf_15 (by decide) ?_
    exact k_liret F hr hlk hw (Nat.le_of_ble_eq_true rfl) (Nat.le_of_ble_eq_true rfl) dL_monthOf_16
set_option maxHeartbeats 4000000 in
set_option maxRecDepth 100000 in
theorem t_L_monthsAfter {G : gG} {l : Launch} (hlt : l.stackTraces = false) {ad : Nat → Nat} {qo n : Nat} {x : SX} {o : Nat → Int64} {a1 a2 : Int32} {k0 : Nat} {rv c0 : Int32} (hf : f_X6_monthsAfter n x a1 a2 = some (k0, rv)) (hc : (k0 = 0 ∧ c0 = 0) ∨ (k0 = 1 ∧ c0 = 1)) : MetL PrW G l yL_monthsAfter cL_monthsAfter 5 (some .int) hh_L_monthsAfter 8 2 12 143 [.ref (ad 0), .int a1, .int a2, .ref qo] (wX G ad x ++ [(qo, .inl (G.2 1, 1, .inr (.inl o)))]) (wX G ad x ++ [(qo, .inl (G.2 1, 1, .inr (.inl (if k0 = 0 then vp_updL o 0 rv.toInt64 else o))))]) c0 := by
  refine k_ofL (by decide) (Nat.le_of_ble_eq_true rfl) ?_
  intro p e s m args below meth c ls A F hr hlk htab hl hw hZ
  have hx := F.1
  have hb := F.2.1
  have hl : lv_has ls 5 [(0, .ref (ad 0)), (1, .int a1), (2, .int a2), (3, .ref qo)] := hl
  have htab : c.exceptionTable.toList = [⟨0, 10, 13, 13⟩] := htab
  refine lv_aload_n hx hb dL_monthsAfter_0 rfl (lv_at hl 3 rfl) ?_
  refine lv_iconst (v := 0) hx hb dL_monthsAfter_1 (by decide) ?_
  refine lv_aload_n hx hb dL_monthsAfter_2 rfl (lv_at hl 0 rfl) ?_
  refine lv_iload_n hx hb dL_monthsAfter_3 rfl (lv_at hl 1 rfl) ?_
  refine lv_iload_n hx hb dL_monthsAfter_4 rfl (lv_at hl 2 rfl) ?_
  refine k_xcallVi (wl := []) (wr := [(qo, .inl (G.2 1, 1, .inr (.inl o)))]) (rest := [.int 0, .ref qo]) (As := [.int a1, .int a2]) F wsh_in (t_X6_monthsAfter hlt hf) cv_X6_monthsAfter ml_L_28 hZ.1 hw 0 rfl rfl rfl hl.1 rfl (Nat.le_of_ble_eq_true rfl) ⟨Nat.le_of_ble_eq_true rfl, Nat.le_of_ble_eq_true rfl⟩ ⟨Nat.le_of_ble_eq_true rfl, Nat.le_of_ble_eq_true rfl⟩ dL_monthsAfter_5 (fun hk9 E ce q9 H locs hE hw g1 g2 g3 => ?_) (fun hk9 H locs hw => ?_)
  · rcases hc with ⟨rfl, rfl⟩ | ⟨rfl, rfl⟩
    · exact absurd rfl hk9
    · subst hE
      refine vx_catch (own := RL) (name := exn 1) F.2.2.2.1 [] ⟨0, 10, 13, 13⟩ [] htab (fun z hz => by cases hz) (by decide) (by decide) (F.2.2.2.2 _ (wsh_in _ lkx_1)) (hZ.1.2.2.use (by decide)) g1 g2 g3 ?_
      refine lv_astore (lv' := [(4, .ref q9), (0, .ref (ad 0)), (1, .int a1), (2, .int a2), (3, .ref qo)]) hx hb dL_monthsAfter_13 hl (Nat.le_of_ble_eq_true rfl) rfl (fun ls hl => ?_)
      refine lv_iconst (v := 1) hx hb dL_monthsAfter_15 (by decide) ?_
      exact k_liret F hr hlk hw (Nat.le_of_ble_eq_true rfl) (Nat.le_of_ble_eq_true rfl) dL_monthsAfter_16
  · have hc0 : c0 = 0 := by
      rcases hc with ⟨h1, h2⟩ | ⟨h1, h2⟩
      · exact h2
      · rw [hk9] at h1; cases h1
    subst hc0; subst hk9
    refine lv_i2l hx hb dL_monthsAfter_8 rfl ?_
    refine k_lst (w' := wX G ad x ++ [(qo, .inl (G.2 1, 1, .inr (.inl (vp_updL o 0 (rv.toInt64)))))]) F hw 34 rfl (by decide) rfl dL_monthsAfter_9 (fun H locs hw => ?_)
    refine lv_goto (tgt := 17) hx hb dL_monthsAfter_10 rfl ?_
    refine lv_iconst (v := 0) hx hb dL_monthsAfter_17 (by decide) ?_
    exact k_liret F hr hlk hw (Nat.le_of_ble_eq_true rfl) (Nat.le_of_ble_eq_true rfl) dL_monthsAfter_18
set_option maxHeartbeats 4000000 in
set_option maxRecDepth 100000 in
theorem t_L_parentOf {G : gG} {l : Launch} (hlt : l.stackTraces = false) {ad : Nat → Nat} {qo n : Nat} {x : SX} {o : Nat → Int64} {a1 : Int32} {k0 : Nat} {rv c0 : Int32} (hf : f_X6_parentOf n x a1 = some (k0, rv)) (hc : (k0 = 0 ∧ c0 = 0) ∨ (k0 = 3 ∧ c0 = 1) ∨ (k0 = 2 ∧ c0 = 2) ∨ (k0 = 4 ∧ c0 = 3)) : MetL PrW G l yL_parentOf cL_parentOf 4 (some .int) hh_L_parentOf 9 3 18 163 [.ref (ad 0), .int a1, .ref qo] (wX G ad x ++ [(qo, .inl (G.2 1, 1, .inr (.inl o)))]) (wX G ad x ++ [(qo, .inl (G.2 1, 1, .inr (.inl (if k0 = 0 then vp_updL o 0 rv.toInt64 else o))))]) c0 := by
  refine k_ofL (by decide) (Nat.le_of_ble_eq_true rfl) ?_
  intro p e s m args below meth c ls A F hr hlk htab hl hw hZ
  have hx := F.1
  have hb := F.2.1
  have hl : lv_has ls 4 [(0, .ref (ad 0)), (1, .int a1), (2, .ref qo)] := hl
  have htab : c.exceptionTable.toList = [⟨0, 9, 12, 44⟩, ⟨0, 9, 15, 35⟩, ⟨0, 9, 18, 71⟩] := htab
  refine lv_aload_n hx hb dL_parentOf_0 rfl (lv_at hl 2 rfl) ?_
  refine lv_iconst (v := 0) hx hb dL_parentOf_1 (by decide) ?_
  refine lv_aload_n hx hb dL_parentOf_2 rfl (lv_at hl 0 rfl) ?_
  refine lv_iload_n hx hb dL_parentOf_3 rfl (lv_at hl 1 rfl) ?_
  refine k_xcallVi (wl := []) (wr := [(qo, .inl (G.2 1, 1, .inr (.inl o)))]) (rest := [.int 0, .ref qo]) (As := [.int a1]) F wsh_in (t_X6_parentOf hlt hf) cv_X6_parentOf ml_L_68 hZ.1 hw 0 rfl rfl rfl hl.1 rfl (Nat.le_of_ble_eq_true rfl) ⟨Nat.le_of_ble_eq_true rfl, Nat.le_of_ble_eq_true rfl⟩ ⟨Nat.le_of_ble_eq_true rfl, Nat.le_of_ble_eq_true rfl⟩ dL_parentOf_4 (fun hk9 E ce q9 H locs hE hw g1 g2 g3 => ?_) (fun hk9 H locs hw => ?_)
  · rcases hc with ⟨rfl, rfl⟩ | ⟨rfl, rfl⟩ | ⟨rfl, rfl⟩ | ⟨rfl, rfl⟩
    · exact absurd rfl hk9
    · subst hE
      refine vx_catch (own := RL) (name := exn 3) F.2.2.2.1 [] ⟨0, 9, 12, 44⟩ [⟨0, 9, 15, 35⟩, ⟨0, 9, 18, 71⟩] htab (fun z hz => by cases hz) (by decide) (by decide) (F.2.2.2.2 _ (wsh_in _ lkx_3)) (hZ.1.2.2.use (by decide)) g1 g2 g3 ?_
      refine lv_astore_n (lv' := [(3, .ref q9), (0, .ref (ad 0)), (1, .int a1), (2, .ref qo)]) hx hb dL_parentOf_12 rfl hl (Nat.le_of_ble_eq_true rfl) rfl (fun ls hl => ?_)
      refine lv_iconst (v := 1) hx hb dL_parentOf_13 (by decide) ?_
      exact k_liret F hr hlk hw (Nat.le_of_ble_eq_true rfl) (Nat.le_of_ble_eq_true rfl) dL_parentOf_14
    · subst hE
      refine vx_catch (own := RL) (name := exn 2) F.2.2.2.1 [⟨0, 9, 12, 44⟩] ⟨0, 9, 15, 35⟩ [⟨0, 9, 18, 71⟩] htab (fun z hz => by
          simp only [List.mem_cons, List.not_mem_nil, or_false] at hz
          rcases hz with rfl
          · exact Or.inr ⟨by decide, exn 3, F.2.2.2.2 _ (wsh_in _ lkx_3), hZ.2 2 3 (by decide) (by decide) (by decide) (by decide) (by decide)⟩) (by decide) (by decide) (F.2.2.2.2 _ (wsh_in _ lkx_2)) (hZ.1.2.2.use (by decide)) g1 g2 g3 ?_
      refine lv_astore_n (lv' := [(3, .ref q9), (0, .ref (ad 0)), (1, .int a1), (2, .ref qo)]) hx hb dL_parentOf_15 rfl hl (Nat.le_of_ble_eq_true rfl) rfl (fun ls hl => ?_)
      refine lv_iconst (v := 2) hx hb dL_parentOf_16 (by decide) ?_
      exact k_liret F hr hlk hw (Nat.le_of_ble_eq_true rfl) (Nat.le_of_ble_eq_true rfl) dL_parentOf_17
    · subst hE
      refine vx_catch (own := RL) (name := exn 4) F.2.2.2.1 [⟨0, 9, 12, 44⟩, ⟨0, 9, 15, 35⟩] ⟨0, 9, 18, 71⟩ [] htab (fun z hz => by
          simp only [List.mem_cons, List.not_mem_nil, or_false] at hz
          rcases hz with rfl | rfl
          · exact Or.inr ⟨by decide, exn 3, F.2.2.2.2 _ (wsh_in _ lkx_3), hZ.2 4 3 (by decide) (by decide) (by decide) (by decide) (by decide)⟩
          · exact Or.inr ⟨by decide, exn 2, F.2.2.2.2 _ (wsh_in _ lkx_2), hZ.2 4 2 (by decide) (by decide) (by decide) (by decide) (by decide)⟩) (by decide) (by decide) (F.2.2.2.2 _ (wsh_in _ lkx_4)) (hZ.1.2.2.use (by decide)) g1 g2 g3 ?_
      refine lv_astore_n (lv' := [(3, .ref q9), (0, .ref (ad 0)), (1, .int a1), (2, .ref qo)]) hx hb dL_parentOf_18 rfl hl (Nat.le_of_ble_eq_true rfl) rfl (fun ls hl => ?_)
      refine lv_iconst (v := 3) hx hb dL_parentOf_19 (by decide) ?_
      exact k_liret F hr hlk hw (Nat.le_of_ble_eq_true rfl) (Nat.le_of_ble_eq_true rfl) dL_parentOf_20
  · have hc0 : c0 = 0 := by
      rcases hc with ⟨h1, h2⟩ | ⟨h1, h2⟩ | ⟨h1, h2⟩ | ⟨h1, h2⟩
      · exact h2
      · rw [hk9] at h1; cases h1
      · rw [hk9] at h1; cases h1
      · rw [hk9] at h1; cases h1
    subst hc0; subst hk9
    refine lv_i2l hx hb dL_parentOf_7 rfl ?_
    refine k_lst (w' := wX G ad x ++ [(qo, .inl (G.2 1, 1, .inr (.inl (vp_updL o 0 (rv.toInt64)))))]) F hw 34 rfl (by decide) rfl dL_parentOf_8 (fun H locs hw => ?_)
    refine lv_goto (tgt := 21) hx hb dL_parentOf_9 rfl ?_
    refine lv_iconst (v := 0) hx hb dL_parentOf_21 (by decide) ?_
    exact k_liret F hr hlk hw (Nat.le_of_ble_eq_true rfl) (Nat.le_of_ble_eq_true rfl) dL_parentOf_22
set_option maxHeartbeats 4000000 in
set_option maxRecDepth 100000 in
theorem t_L_quash {G : gG} {l : Launch} (hlt : l.stackTraces = false) {ad : Nat → Nat} {qo n : Nat} {x xr : SX} {o : Nat → Int64} {a1 : Int32} {k0 : Nat} {rv c0 : Int32} (hf : f_X6_quash n x a1 = some (k0, rv, xr)) (hc : (k0 = 0 ∧ c0 = 0) ∨ (k0 = 3 ∧ c0 = 1) ∨ (k0 = 2 ∧ c0 = 2)) : MetL PrW G l yL_quash cL_quash 4 (some .int) hh_L_quash 9 2 12 164 [.ref (ad 0), .int a1, .ref qo] (wX G ad x ++ [(qo, .inl (G.2 1, 1, .inr (.inl o)))]) (wX G ad xr ++ [(qo, .inl (G.2 1, 1, .inr (.inl (if k0 = 0 then vp_updL o 0 rv.toInt64 else o))))]) c0 := by
  refine k_ofL (by decide) (Nat.le_of_ble_eq_true rfl) ?_
  intro p e s m args below meth c ls A F hr hlk htab hl hw hZ
  have hx := F.1
  have hb := F.2.1
  have hl : lv_has ls 4 [(0, .ref (ad 0)), (1, .int a1), (2, .ref qo)] := hl
  have htab : c.exceptionTable.toList = [⟨0, 9, 12, 44⟩, ⟨0, 9, 15, 35⟩] := htab
  refine lv_aload_n hx hb dL_quash_0 rfl (lv_at hl 2 rfl) ?_
  refine lv_iconst (v := 0) hx hb dL_quash_1 (by decide) ?_
  refine lv_aload_n hx hb dL_quash_2 rfl (lv_at hl 0 rfl) ?_
  refine lv_iload_n hx hb dL_quash_3 rfl (lv_at hl 1 rfl) ?_
  refine k_xcallVi (wl := []) (wr := [(qo, .inl (G.2 1, 1, .inr (.inl o)))]) (rest := [.int 0, .ref qo]) (As := [.int a1]) F wsh_in (t_X6_quash hlt hf) cv_X6_quash ml_L_49 hZ.1 hw 0 rfl rfl rfl hl.1 rfl (Nat.le_of_ble_eq_true rfl) ⟨Nat.le_of_ble_eq_true rfl, Nat.le_of_ble_eq_true rfl⟩ ⟨Nat.le_of_ble_eq_true rfl, Nat.le_of_ble_eq_true rfl⟩ dL_quash_4 (fun hk9 E ce q9 H locs hE hw g1 g2 g3 => ?_) (fun hk9 H locs hw => ?_)
  · rcases hc with ⟨rfl, rfl⟩ | ⟨rfl, rfl⟩ | ⟨rfl, rfl⟩
    · exact absurd rfl hk9
    · subst hE
      refine vx_catch (own := RL) (name := exn 3) F.2.2.2.1 [] ⟨0, 9, 12, 44⟩ [⟨0, 9, 15, 35⟩] htab (fun z hz => by cases hz) (by decide) (by decide) (F.2.2.2.2 _ (wsh_in _ lkx_3)) (hZ.1.2.2.use (by decide)) g1 g2 g3 ?_
      refine lv_astore_n (lv' := [(3, .ref q9), (0, .ref (ad 0)), (1, .int a1), (2, .ref qo)]) hx hb dL_quash_12 rfl hl (Nat.le_of_ble_eq_true rfl) rfl (fun ls hl => ?_)
      refine lv_iconst (v := 1) hx hb dL_quash_13 (by decide) ?_
      exact k_liret F hr hlk hw (Nat.le_of_ble_eq_true rfl) (Nat.le_of_ble_eq_true rfl) dL_quash_14
    · subst hE
      refine vx_catch (own := RL) (name := exn 2) F.2.2.2.1 [⟨0, 9, 12, 44⟩] ⟨0, 9, 15, 35⟩ [] htab (fun z hz => by
          simp only [List.mem_cons, List.not_mem_nil, or_false] at hz
          rcases hz with rfl
          · exact Or.inr ⟨by decide, exn 3, F.2.2.2.2 _ (wsh_in _ lkx_3), hZ.2 2 3 (by decide) (by decide) (by decide) (by decide) (by decide)⟩) (by decide) (by decide) (F.2.2.2.2 _ (wsh_in _ lkx_2)) (hZ.1.2.2.use (by decide)) g1 g2 g3 ?_
      refine lv_astore_n (lv' := [(3, .ref q9), (0, .ref (ad 0)), (1, .int a1), (2, .ref qo)]) hx hb dL_quash_15 rfl hl (Nat.le_of_ble_eq_true rfl) rfl (fun ls hl => ?_)
      refine lv_iconst (v := 2) hx hb dL_quash_16 (by decide) ?_
      exact k_liret F hr hlk hw (Nat.le_of_ble_eq_true rfl) (Nat.le_of_ble_eq_true rfl) dL_quash_17
  · have hc0 : c0 = 0 := by
      rcases hc with ⟨h1, h2⟩ | ⟨h1, h2⟩ | ⟨h1, h2⟩
      · exact h2
      · rw [hk9] at h1; cases h1
      · rw [hk9] at h1; cases h1
    subst hc0; subst hk9
    refine lv_i2l hx hb dL_quash_7 rfl ?_
    refine k_lst (w' := wX G ad xr ++ [(qo, .inl (G.2 1, 1, .inr (.inl (vp_updL o 0 (rv.toInt64)))))]) F hw 34 rfl (by decide) rfl dL_quash_8 (fun H locs hw => ?_)
    refine lv_goto (tgt := 18) hx hb dL_quash_9 rfl ?_
    refine lv_iconst (v := 0) hx hb dL_quash_18 (by decide) ?_
    exact k_liret F hr hlk hw (Nat.le_of_ble_eq_true rfl) (Nat.le_of_ble_eq_true rfl) dL_quash_19
set_option maxHeartbeats 4000000 in
set_option maxRecDepth 100000 in
theorem t_L_recall {G : gG} {l : Launch} (hlt : l.stackTraces = false) {ad : Nat → Nat} {qo n : Nat} {x xr : SX} {o : Nat → Int64} {a1 : Int32} {k0 : Nat} {rv c0 : Int32} (hf : f_X6_recall n x a1 = some (k0, rv, xr)) (hc : (k0 = 0 ∧ c0 = 0) ∨ (k0 = 1 ∧ c0 = 1) ∨ (k0 = 2 ∧ c0 = 2)) : MetL PrW G l yL_recall cL_recall 4 (some .int) hh_L_recall 7 1 6 153 [.ref (ad 0), .int a1, .ref qo] (wX G ad x ++ [(qo, .inl (G.2 1, 1, .inr (.inl o)))]) (wX G ad xr ++ [(qo, .inl (G.2 1, 1, .inr (.inl (if k0 = 0 then vp_updL o 0 rv.toInt64 else o))))]) c0 := by
  refine k_ofL (by decide) (Nat.le_of_ble_eq_true rfl) ?_
  intro p e s m args below meth c ls A F hr hlk htab hl hw hZ
  have hx := F.1
  have hb := F.2.1
  have hl : lv_has ls 4 [(0, .ref (ad 0)), (1, .int a1), (2, .ref qo)] := hl
  have htab : c.exceptionTable.toList = [⟨0, 9, 12, 13⟩, ⟨0, 9, 15, 35⟩] := htab
  refine lv_aload_n hx hb dL_recall_0 rfl (lv_at hl 2 rfl) ?_
  refine lv_iconst (v := 0) hx hb dL_recall_1 (by decide) ?_
  refine lv_aload_n hx hb dL_recall_2 rfl (lv_at hl 0 rfl) ?_
  refine lv_iload_n hx hb dL_recall_3 rfl (lv_at hl 1 rfl) ?_
  refine k_xcallVi (wl := []) (wr := [(qo, .inl (G.2 1, 1, .inr (.inl o)))]) (rest := [.int 0, .ref qo]) (As := [.int a1]) F wsh_in (t_X6_recall hlt hf) cv_X6_recall ml_L_58 hZ.1 hw 0 rfl rfl rfl hl.1 rfl (Nat.le_of_ble_eq_true rfl) ⟨Nat.le_of_ble_eq_true rfl, Nat.le_of_ble_eq_true rfl⟩ ⟨Nat.le_of_ble_eq_true rfl, Nat.le_of_ble_eq_true rfl⟩ dL_recall_4 (fun hk9 E ce q9 H locs hE hw g1 g2 g3 => ?_) (fun hk9 H locs hw => ?_)
  · rcases hc with ⟨rfl, rfl⟩ | ⟨rfl, rfl⟩ | ⟨rfl, rfl⟩
    · exact absurd rfl hk9
    · subst hE
      refine vx_catch (own := RL) (name := exn 1) F.2.2.2.1 [] ⟨0, 9, 12, 13⟩ [⟨0, 9, 15, 35⟩] htab (fun z hz => by cases hz) (by decide) (by decide) (F.2.2.2.2 _ (wsh_in _ lkx_1)) (hZ.1.2.2.use (by decide)) g1 g2 g3 ?_
      refine lv_astore_n (lv' := [(3, .ref q9), (0, .ref (ad 0)), (1, .int a1), (2, .ref qo)]) hx hb dL_recall_12 rfl hl (Nat.le_of_ble_eq_true rfl) rfl (fun ls hl => ?_)
      refine lv_iconst (v := 1) hx hb dL_recall_13 (by decide) ?_
      exact k_liret F hr hlk hw (Nat.le_of_ble_eq_true rfl) (Nat.le_of_ble_eq_true rfl) dL_recall_14
    · subst hE
      refine vx_catch (own := RL) (name := exn 2) F.2.2.2.1 [⟨0, 9, 12, 13⟩] ⟨0, 9, 15, 35⟩ [] htab (fun z hz => by
          simp only [List.mem_cons, List.not_mem_nil, or_false] at hz
          rcases hz with rfl
          · exact Or.inr ⟨by decide, exn 1, F.2.2.2.2 _ (wsh_in _ lkx_1), hZ.2 2 1 (by decide) (by decide) (by decide) (by decide) (by decide)⟩) (by decide) (by decide) (F.2.2.2.2 _ (wsh_in _ lkx_2)) (hZ.1.2.2.use (by decide)) g1 g2 g3 ?_
      refine lv_astore_n (lv' := [(3, .ref q9), (0, .ref (ad 0)), (1, .int a1), (2, .ref qo)]) hx hb dL_recall_15 rfl hl (Nat.le_of_ble_eq_true rfl) rfl (fun ls hl => ?_)
      refine lv_iconst (v := 2) hx hb dL_recall_16 (by decide) ?_
      exact k_liret F hr hlk hw (Nat.le_of_ble_eq_true rfl) (Nat.le_of_ble_eq_true rfl) dL_recall_17
  · have hc0 : c0 = 0 := by
      rcases hc with ⟨h1, h2⟩ | ⟨h1, h2⟩ | ⟨h1, h2⟩
      · exact h2
      · rw [hk9] at h1; cases h1
      · rw [hk9] at h1; cases h1
    subst hc0; subst hk9
    refine lv_i2l hx hb dL_recall_7 rfl ?_
    refine k_lst (w' := wX G ad xr ++ [(qo, .inl (G.2 1, 1, .inr (.inl (vp_updL o 0 (rv.toInt64)))))]) F hw 34 rfl (by decide) rfl dL_recall_8 (fun H locs hw => ?_)
    refine lv_goto (tgt := 18) hx hb dL_recall_9 rfl ?_
    refine lv_iconst (v := 0) hx hb dL_recall_18 (by decide) ?_
    exact k_liret F hr hlk hw (Nat.le_of_ble_eq_true rfl) (Nat.le_of_ble_eq_true rfl) dL_recall_19
set_option maxHeartbeats 4000000 in
set_option maxRecDepth 100000 in
theorem t_L_recallEnd {G : gG} {l : Launch} (hlt : l.stackTraces = false) {ad : Nat → Nat} {qo n : Nat} {x : SX} {o : Nat → Int64} {k0 : Nat} {rv c0 : Int32} (hf : f_X6_recallEnd n x = some (k0, rv)) (hc : (k0 = 0 ∧ c0 = 0) ∨ (k0 = 4 ∧ c0 = 1)) : MetL PrW G l yL_recallEnd cL_recallEnd 3 (some .int) hh_L_recallEnd 7 1 6 120 [.ref (ad 0), .ref qo] (wX G ad x ++ [(qo, .inl (G.2 1, 1, .inr (.inl o)))]) (wX G ad x ++ [(qo, .inl (G.2 1, 1, .inr (.inl (if k0 = 0 then vp_updL o 0 rv.toInt64 else o))))]) c0 := by
  refine k_ofL (by decide) (Nat.le_of_ble_eq_true rfl) ?_
  intro p e s m args below meth c ls A F hr hlk htab hl hw hZ
  have hx := F.1
  have hb := F.2.1
  have hl : lv_has ls 3 [(0, .ref (ad 0)), (1, .ref qo)] := hl
  have htab : c.exceptionTable.toList = [⟨0, 8, 11, 71⟩] := htab
  refine lv_aload_n hx hb dL_recallEnd_0 rfl (lv_at hl 1 rfl) ?_
  refine lv_iconst (v := 0) hx hb dL_recallEnd_1 (by decide) ?_
  refine lv_aload_n hx hb dL_recallEnd_2 rfl (lv_at hl 0 rfl) ?_
  refine k_xcallVi (wl := []) (wr := [(qo, .inl (G.2 1, 1, .inr (.inl o)))]) (rest := [.int 0, .ref qo]) (As := []) F wsh_in (t_X6_recallEnd hlt hf) cv_X6_recallEnd ml_L_122 hZ.1 hw 0 rfl rfl rfl hl.1 rfl (Nat.le_of_ble_eq_true rfl) ⟨Nat.le_of_ble_eq_true rfl, Nat.le_of_ble_eq_true rfl⟩ ⟨Nat.le_of_ble_eq_true rfl, Nat.le_of_ble_eq_true rfl⟩ dL_recallEnd_3 (fun hk9 E ce q9 H locs hE hw g1 g2 g3 => ?_) (fun hk9 H locs hw => ?_)
  · rcases hc with ⟨rfl, rfl⟩ | ⟨rfl, rfl⟩
    · exact absurd rfl hk9
    · subst hE
      refine vx_catch (own := RL) (name := exn 4) F.2.2.2.1 [] ⟨0, 8, 11, 71⟩ [] htab (fun z hz => by cases hz) (by decide) (by decide) (F.2.2.2.2 _ (wsh_in _ lkx_4)) (hZ.1.2.2.use (by decide)) g1 g2 g3 ?_
      refine lv_astore_n (lv' := [(2, .ref q9), (0, .ref (ad 0)), (1, .ref qo)]) hx hb dL_recallEnd_11 rfl hl (Nat.le_of_ble_eq_true rfl) rfl (fun ls hl => ?_)
      refine lv_iconst (v := 1) hx hb dL_recallEnd_12 (by decide) ?_
      exact k_liret F hr hlk hw (Nat.le_of_ble_eq_true rfl) (Nat.le_of_ble_eq_true rfl) dL_recallEnd_13
  · have hc0 : c0 = 0 := by
      rcases hc with ⟨h1, h2⟩ | ⟨h1, h2⟩
      · exact h2
      · rw [hk9] at h1; cases h1
    subst hc0; subst hk9
    refine lv_i2l hx hb dL_recallEnd_6 rfl ?_
    refine k_lst (w' := wX G ad x ++ [(qo, .inl (G.2 1, 1, .inr (.inl (vp_updL o 0 (rv.toInt64)))))]) F hw 34 rfl (by decide) rfl dL_recallEnd_7 (fun H locs hw => ?_)
    refine lv_goto (tgt := 14) hx hb dL_recallEnd_8 rfl ?_
    refine lv_iconst (v := 0) hx hb dL_recallEnd_14 (by decide) ?_
    exact k_liret F hr hlk hw (Nat.le_of_ble_eq_true rfl) (Nat.le_of_ble_eq_true rfl) dL_recallEnd_15
set_option maxHeartbeats 4000000 in
set_option maxRecDepth 100000 in
theorem t_L_releaseDay {G : gG} {l : Launch} (hlt : l.stackTraces = false) {ad : Nat → Nat} {qo n : Nat} {x : SX} {o : Nat → Int64} {a1 : Int32} {k0 : Nat} {rv c0 : Int32} (hf : f_X6_releaseDay n x a1 = some (k0, rv)) (hc : (k0 = 0 ∧ c0 = 0) ∨ (k0 = 3 ∧ c0 = 1) ∨ (k0 = 2 ∧ c0 = 2)) : MetL PrW G l yL_releaseDay cL_releaseDay 4 (some .int) hh_L_releaseDay 9 2 12 163 [.ref (ad 0), .int a1, .ref qo] (wX G ad x ++ [(qo, .inl (G.2 1, 1, .inr (.inl o)))]) (wX G ad x ++ [(qo, .inl (G.2 1, 1, .inr (.inl (if k0 = 0 then vp_updL o 0 rv.toInt64 else o))))]) c0 := by
  refine k_ofL (by decide) (Nat.le_of_ble_eq_true rfl) ?_
  intro p e s m args below meth c ls A F hr hlk htab hl hw hZ
  have hx := F.1
  have hb := F.2.1
  have hl : lv_has ls 4 [(0, .ref (ad 0)), (1, .int a1), (2, .ref qo)] := hl
  have htab : c.exceptionTable.toList = [⟨0, 9, 12, 44⟩, ⟨0, 9, 15, 35⟩] := htab
  refine lv_aload_n hx hb dL_releaseDay_0 rfl (lv_at hl 2 rfl) ?_
  refine lv_iconst (v := 0) hx hb dL_releaseDay_1 (by decide) ?_
  refine lv_aload_n hx hb dL_releaseDay_2 rfl (lv_at hl 0 rfl) ?_
  refine lv_iload_n hx hb dL_releaseDay_3 rfl (lv_at hl 1 rfl) ?_
  refine k_xcallVi (wl := []) (wr := [(qo, .inl (G.2 1, 1, .inr (.inl o)))]) (rest := [.int 0, .ref qo]) (As := [.int a1]) F wsh_in (t_X6_releaseDay hlt hf) cv_X6_releaseDay ml_L_100 hZ.1 hw 0 rfl rfl rfl hl.1 rfl (Nat.le_of_ble_eq_true rfl) ⟨Nat.le_of_ble_eq_true rfl, Nat.le_of_ble_eq_true rfl⟩ ⟨Nat.le_of_ble_eq_true rfl, Nat.le_of_ble_eq_true rfl⟩ dL_releaseDay_4 (fun hk9 E ce q9 H locs hE hw g1 g2 g3 => ?_) (fun hk9 H locs hw => ?_)
  · rcases hc with ⟨rfl, rfl⟩ | ⟨rfl, rfl⟩ | ⟨rfl, rfl⟩
    · exact absurd rfl hk9
    · subst hE
      refine vx_catch (own := RL) (name := exn 3) F.2.2.2.1 [] ⟨0, 9, 12, 44⟩ [⟨0, 9, 15, 35⟩] htab (fun z hz => by cases hz) (by decide) (by decide) (F.2.2.2.2 _ (wsh_in _ lkx_3)) (hZ.1.2.2.use (by decide)) g1 g2 g3 ?_
      refine lv_astore_n (lv' := [(3, .ref q9), (0, .ref (ad 0)), (1, .int a1), (2, .ref qo)]) hx hb dL_releaseDay_12 rfl hl (Nat.le_of_ble_eq_true rfl) rfl (fun ls hl => ?_)
      refine lv_iconst (v := 1) hx hb dL_releaseDay_13 (by decide) ?_
      exact k_liret F hr hlk hw (Nat.le_of_ble_eq_true rfl) (Nat.le_of_ble_eq_true rfl) dL_releaseDay_14
    · subst hE
      refine vx_catch (own := RL) (name := exn 2) F.2.2.2.1 [⟨0, 9, 12, 44⟩] ⟨0, 9, 15, 35⟩ [] htab (fun z hz => by
          simp only [List.mem_cons, List.not_mem_nil, or_false] at hz
          rcases hz with rfl
          · exact Or.inr ⟨by decide, exn 3, F.2.2.2.2 _ (wsh_in _ lkx_3), hZ.2 2 3 (by decide) (by decide) (by decide) (by decide) (by decide)⟩) (by decide) (by decide) (F.2.2.2.2 _ (wsh_in _ lkx_2)) (hZ.1.2.2.use (by decide)) g1 g2 g3 ?_
      refine lv_astore_n (lv' := [(3, .ref q9), (0, .ref (ad 0)), (1, .int a1), (2, .ref qo)]) hx hb dL_releaseDay_15 rfl hl (Nat.le_of_ble_eq_true rfl) rfl (fun ls hl => ?_)
      refine lv_iconst (v := 2) hx hb dL_releaseDay_16 (by decide) ?_
      exact k_liret F hr hlk hw (Nat.le_of_ble_eq_true rfl) (Nat.le_of_ble_eq_true rfl) dL_releaseDay_17
  · have hc0 : c0 = 0 := by
      rcases hc with ⟨h1, h2⟩ | ⟨h1, h2⟩ | ⟨h1, h2⟩
      · exact h2
      · rw [hk9] at h1; cases h1
      · rw [hk9] at h1; cases h1
    subst hc0; subst hk9
    refine lv_i2l hx hb dL_releaseDay_7 rfl ?_
    refine k_lst (w' := wX G ad x ++ [(qo, .inl (G.2 1, 1, .inr (.inl (vp_updL o 0 (rv.toInt64)))))]) F hw 34 rfl (by decide) rfl dL_releaseDay_8 (fun H locs hw => ?_)
    refine lv_goto (tgt := 18) hx hb dL_releaseDay_9 rfl ?_
    refine lv_iconst (v := 0) hx hb dL_releaseDay_18 (by decide) ?_
    exact k_liret F hr hlk hw (Nat.le_of_ble_eq_true rfl) (Nat.le_of_ble_eq_true rfl) dL_releaseDay_19
set_option maxHeartbeats 4000000 in
set_option maxRecDepth 100000 in
theorem t_L_releaseDayByServing {G : gG} {l : Launch} (hlt : l.stackTraces = false) {ad : Nat → Nat} {qo n : Nat} {x : SX} {o : Nat → Int64} {a1 : Int32} {k0 : Nat} {rv c0 : Int32} (hf : f_X6_releaseDayByServing n x a1 = some (k0, rv)) (hc : (k0 = 0 ∧ c0 = 0) ∨ (k0 = 3 ∧ c0 = 1) ∨ (k0 = 2 ∧ c0 = 2)) : MetL PrW G l yL_releaseDayByServing cL_releaseDayByServing 4 (some .int) hh_L_releaseDayByServing 9 2 12 163 [.ref (ad 0), .int a1, .ref qo] (wX G ad x ++ [(qo, .inl (G.2 1, 1, .inr (.inl o)))]) (wX G ad x ++ [(qo, .inl (G.2 1, 1, .inr (.inl (if k0 = 0 then vp_updL o 0 rv.toInt64 else o))))]) c0 := by
  refine k_ofL (by decide) (Nat.le_of_ble_eq_true rfl) ?_
  intro p e s m args below meth c ls A F hr hlk htab hl hw hZ
  have hx := F.1
  have hb := F.2.1
  have hl : lv_has ls 4 [(0, .ref (ad 0)), (1, .int a1), (2, .ref qo)] := hl
  have htab : c.exceptionTable.toList = [⟨0, 9, 12, 44⟩, ⟨0, 9, 15, 35⟩] := htab
  refine lv_aload_n hx hb dL_releaseDayByServing_0 rfl (lv_at hl 2 rfl) ?_
  refine lv_iconst (v := 0) hx hb dL_releaseDayByServing_1 (by decide) ?_
  refine lv_aload_n hx hb dL_releaseDayByServing_2 rfl (lv_at hl 0 rfl) ?_
  refine lv_iload_n hx hb dL_releaseDayByServing_3 rfl (lv_at hl 1 rfl) ?_
  refine k_xcallVi (wl := []) (wr := [(qo, .inl (G.2 1, 1, .inr (.inl o)))]) (rest := [.int 0, .ref qo]) (As := [.int a1]) F wsh_in (t_X6_releaseDayByServing hlt hf) cv_X6_releaseDayByServing ml_L_103 hZ.1 hw 0 rfl rfl rfl hl.1 rfl (Nat.le_of_ble_eq_true rfl) ⟨Nat.le_of_ble_eq_true rfl, Nat.le_of_ble_eq_true rfl⟩ ⟨Nat.le_of_ble_eq_true rfl, Nat.le_of_ble_eq_true rfl⟩ dL_releaseDayByServing_4 (fun hk9 E ce q9 H locs hE hw g1 g2 g3 => ?_) (fun hk9 H locs hw => ?_)
  · rcases hc with ⟨rfl, rfl⟩ | ⟨rfl, rfl⟩ | ⟨rfl, rfl⟩
    · exact absurd rfl hk9
    · subst hE
      refine vx_catch (own := RL) (name := exn 3) F.2.2.2.1 [] ⟨0, 9, 12, 44⟩ [⟨0, 9, 15, 35⟩] htab (fun z hz => by cases hz) (by decide) (by decide) (F.2.2.2.2 _ (wsh_in _ lkx_3)) (hZ.1.2.2.use (by decide)) g1 g2 g3 ?_
      refine lv_astore_n (lv' := [(3, .ref q9), (0, .ref (ad 0)), (1, .int a1), (2, .ref qo)]) hx hb dL_releaseDayByServing_12 rfl hl (Nat.le_of_ble_eq_true rfl) rfl (fun ls hl => ?_)
      refine lv_iconst (v := 1) hx hb dL_releaseDayByServing_13 (by decide) ?_
      exact k_liret F hr hlk hw (Nat.le_of_ble_eq_true rfl) (Nat.le_of_ble_eq_true rfl) dL_releaseDayByServing_14
    · subst hE
      refine vx_catch (own := RL) (name := exn 2) F.2.2.2.1 [⟨0, 9, 12, 44⟩] ⟨0, 9, 15, 35⟩ [] htab (fun z hz => by
          simp only [List.mem_cons, List.not_mem_nil, or_false] at hz
          rcases hz with rfl
          · exact Or.inr ⟨by decide, exn 3, F.2.2.2.2 _ (wsh_in _ lkx_3), hZ.2 2 3 (by decide) (by decide) (by decide) (by decide) (by decide)⟩) (by decide) (by decide) (F.2.2.2.2 _ (wsh_in _ lkx_2)) (hZ.1.2.2.use (by decide)) g1 g2 g3 ?_
      refine lv_astore_n (lv' := [(3, .ref q9), (0, .ref (ad 0)), (1, .int a1), (2, .ref qo)]) hx hb dL_releaseDayByServing_15 rfl hl (Nat.le_of_ble_eq_true rfl) rfl (fun ls hl => ?_)
      refine lv_iconst (v := 2) hx hb dL_releaseDayByServing_16 (by decide) ?_
      exact k_liret F hr hlk hw (Nat.le_of_ble_eq_true rfl) (Nat.le_of_ble_eq_true rfl) dL_releaseDayByServing_17
  · have hc0 : c0 = 0 := by
      rcases hc with ⟨h1, h2⟩ | ⟨h1, h2⟩ | ⟨h1, h2⟩
      · exact h2
      · rw [hk9] at h1; cases h1
      · rw [hk9] at h1; cases h1
    subst hc0; subst hk9
    refine lv_i2l hx hb dL_releaseDayByServing_7 rfl ?_
    refine k_lst (w' := wX G ad x ++ [(qo, .inl (G.2 1, 1, .inr (.inl (vp_updL o 0 (rv.toInt64)))))]) F hw 34 rfl (by decide) rfl dL_releaseDayByServing_8 (fun H locs hw => ?_)
    refine lv_goto (tgt := 18) hx hb dL_releaseDayByServing_9 rfl ?_
    refine lv_iconst (v := 0) hx hb dL_releaseDayByServing_18 (by decide) ?_
    exact k_liret F hr hlk hw (Nat.le_of_ble_eq_true rfl) (Nat.le_of_ble_eq_true rfl) dL_releaseDayByServing_19
set_option maxHeartbeats 4000000 in
set_option maxRecDepth 100000 in
theorem t_L_start {G : gG} {l : Launch} (hlt : l.stackTraces = false) {ad : Nat → Nat} {qo n : Nat} {x : SX} {o : Nat → Int64} {a1 : Int32} {k0 : Nat} {rv c0 : Int32} (hf : f_X6_start n x a1 = some (k0, rv)) (hc : (k0 = 0 ∧ c0 = 0) ∨ (k0 = 3 ∧ c0 = 1) ∨ (k0 = 2 ∧ c0 = 2)) : MetL PrW G l yL_start cL_start 4 (some .int) hh_L_start 9 2 12 163 [.ref (ad 0), .int a1, .ref qo] (wX G ad x ++ [(qo, .inl (G.2 1, 1, .inr (.inl o)))]) (wX G ad x ++ [(qo, .inl (G.2 1, 1, .inr (.inl (if k0 = 0 then vp_updL o 0 rv.toInt64 else o))))]) c0 := by
  refine k_ofL (by decide) (Nat.le_of_ble_eq_true rfl) ?_
  intro p e s m args below meth c ls A F hr hlk htab hl hw hZ
  have hx := F.1
  have hb := F.2.1
  have hl : lv_has ls 4 [(0, .ref (ad 0)), (1, .int a1), (2, .ref qo)] := hl
  have htab : c.exceptionTable.toList = [⟨0, 9, 12, 44⟩, ⟨0, 9, 15, 35⟩] := htab
  refine lv_aload_n hx hb dL_start_0 rfl (lv_at hl 2 rfl) ?_
  refine lv_iconst (v := 0) hx hb dL_start_1 (by decide) ?_
  refine lv_aload_n hx hb dL_start_2 rfl (lv_at hl 0 rfl) ?_
  refine lv_iload_n hx hb dL_start_3 rfl (lv_at hl 1 rfl) ?_
  refine k_xcallVi (wl := []) (wr := [(qo, .inl (G.2 1, 1, .inr (.inl o)))]) (rest := [.int 0, .ref qo]) (As := [.int a1]) F wsh_in (t_X6_start hlt hf) cv_X6_start ml_L_79 hZ.1 hw 0 rfl rfl rfl hl.1 rfl (Nat.le_of_ble_eq_true rfl) ⟨Nat.le_of_ble_eq_true rfl, Nat.le_of_ble_eq_true rfl⟩ ⟨Nat.le_of_ble_eq_true rfl, Nat.le_of_ble_eq_true rfl⟩ dL_start_4 (fun hk9 E ce q9 H locs hE hw g1 g2 g3 => ?_) (fun hk9 H locs hw => ?_)
  · rcases hc with ⟨rfl, rfl⟩ | ⟨rfl, rfl⟩ | ⟨rfl, rfl⟩
    · exact absurd rfl hk9
    · subst hE
      refine vx_catch (own := RL) (name := exn 3) F.2.2.2.1 [] ⟨0, 9, 12, 44⟩ [⟨0, 9, 15, 35⟩] htab (fun z hz => by cases hz) (by decide) (by decide) (F.2.2.2.2 _ (wsh_in _ lkx_3)) (hZ.1.2.2.use (by decide)) g1 g2 g3 ?_
      refine lv_astore_n (lv' := [(3, .ref q9), (0, .ref (ad 0)), (1, .int a1), (2, .ref qo)]) hx hb dL_start_12 rfl hl (Nat.le_of_ble_eq_true rfl) rfl (fun ls hl => ?_)
      refine lv_iconst (v := 1) hx hb dL_start_13 (by decide) ?_
      exact k_liret F hr hlk hw (Nat.le_of_ble_eq_true rfl) (Nat.le_of_ble_eq_true rfl) dL_start_14
    · subst hE
      refine vx_catch (own := RL) (name := exn 2) F.2.2.2.1 [⟨0, 9, 12, 44⟩] ⟨0, 9, 15, 35⟩ [] htab (fun z hz => by
          simp only [List.mem_cons, List.not_mem_nil, or_false] at hz
          rcases hz with rfl
          · exact Or.inr ⟨by decide, exn 3, F.2.2.2.2 _ (wsh_in _ lkx_3), hZ.2 2 3 (by decide) (by decide) (by decide) (by decide) (by decide)⟩) (by decide) (by decide) (F.2.2.2.2 _ (wsh_in _ lkx_2)) (hZ.1.2.2.use (by decide)) g1 g2 g3 ?_
      refine lv_astore_n (lv' := [(3, .ref q9), (0, .ref (ad 0)), (1, .int a1), (2, .ref qo)]) hx hb dL_start_15 rfl hl (Nat.le_of_ble_eq_true rfl) rfl (fun ls hl => ?_)
      refine lv_iconst (v := 2) hx hb dL_start_16 (by decide) ?_
      exact k_liret F hr hlk hw (Nat.le_of_ble_eq_true rfl) (Nat.le_of_ble_eq_true rfl) dL_start_17
  · have hc0 : c0 = 0 := by
      rcases hc with ⟨h1, h2⟩ | ⟨h1, h2⟩ | ⟨h1, h2⟩
      · exact h2
      · rw [hk9] at h1; cases h1
      · rw [hk9] at h1; cases h1
    subst hc0; subst hk9
    refine lv_i2l hx hb dL_start_7 rfl ?_
    refine k_lst (w' := wX G ad x ++ [(qo, .inl (G.2 1, 1, .inr (.inl (vp_updL o 0 (rv.toInt64)))))]) F hw 34 rfl (by decide) rfl dL_start_8 (fun H locs hw => ?_)
    refine lv_goto (tgt := 18) hx hb dL_start_9 rfl ?_
    refine lv_iconst (v := 0) hx hb dL_start_18 (by decide) ?_
    exact k_liret F hr hlk hw (Nat.le_of_ble_eq_true rfl) (Nat.le_of_ble_eq_true rfl) dL_start_19
set_option maxHeartbeats 4000000 in
set_option maxRecDepth 100000 in
theorem t_L_statusOn {G : gG} {l : Launch} (hlt : l.stackTraces = false) {ad : Nat → Nat} {qo n : Nat} {x : SX} {o : Nat → Int64} {a1 : Int32} {k0 : Nat} {rv c0 : Int32} (hf : f_X6_statusOn n x a1 = some (k0, rv)) (hc : (k0 = 0 ∧ c0 = 0) ∨ (k0 = 1 ∧ c0 = 1)) : MetL PrW G l yL_statusOn cL_statusOn 4 (some .int) hh_L_statusOn 7 1 6 121 [.ref (ad 0), .int a1, .ref qo] (wX G ad x ++ [(qo, .inl (G.2 1, 1, .inr (.inl o)))]) (wX G ad x ++ [(qo, .inl (G.2 1, 1, .inr (.inl (if k0 = 0 then vp_updL o 0 rv.toInt64 else o))))]) c0 := by
  refine k_ofL (by decide) (Nat.le_of_ble_eq_true rfl) ?_
  intro p e s m args below meth c ls A F hr hlk htab hl hw hZ
  have hx := F.1
  have hb := F.2.1
  have hl : lv_has ls 4 [(0, .ref (ad 0)), (1, .int a1), (2, .ref qo)] := hl
  have htab : c.exceptionTable.toList = [⟨0, 9, 12, 13⟩] := htab
  refine lv_aload_n hx hb dL_statusOn_0 rfl (lv_at hl 2 rfl) ?_
  refine lv_iconst (v := 0) hx hb dL_statusOn_1 (by decide) ?_
  refine lv_aload_n hx hb dL_statusOn_2 rfl (lv_at hl 0 rfl) ?_
  refine lv_iload_n hx hb dL_statusOn_3 rfl (lv_at hl 1 rfl) ?_
  refine k_xcallVi (wl := []) (wr := [(qo, .inl (G.2 1, 1, .inr (.inl o)))]) (rest := [.int 0, .ref qo]) (As := [.int a1]) F wsh_in (t_X6_statusOn hlt hf) cv_X6_statusOn ml_L_138 hZ.1 hw 0 rfl rfl rfl hl.1 rfl (Nat.le_of_ble_eq_true rfl) ⟨Nat.le_of_ble_eq_true rfl, Nat.le_of_ble_eq_true rfl⟩ ⟨Nat.le_of_ble_eq_true rfl, Nat.le_of_ble_eq_true rfl⟩ dL_statusOn_4 (fun hk9 E ce q9 H locs hE hw g1 g2 g3 => ?_) (fun hk9 H locs hw => ?_)
  · rcases hc with ⟨rfl, rfl⟩ | ⟨rfl, rfl⟩
    · exact absurd rfl hk9
    · subst hE
      refine vx_catch (own := RL) (name := exn 1) F.2.2.2.1 [] ⟨0, 9, 12, 13⟩ [] htab (fun z hz => by cases hz) (by decide) (by decide) (F.2.2.2.2 _ (wsh_in _ lkx_1)) (hZ.1.2.2.use (by decide)) g1 g2 g3 ?_
      refine lv_astore_n (lv' := [(3, .ref q9), (0, .ref (ad 0)), (1, .int a1), (2, .ref qo)]) hx hb dL_statusOn_12 rfl hl (Nat.le_of_ble_eq_true rfl) rfl (fun ls hl => ?_)
      refine lv_iconst (v := 1) hx hb dL_statusOn_13 (by decide) ?_
      exact k_liret F hr hlk hw (Nat.le_of_ble_eq_true rfl) (Nat.le_of_ble_eq_true rfl) dL_statusOn_14
  · have hc0 : c0 = 0 := by
      rcases hc with ⟨h1, h2⟩ | ⟨h1, h2⟩
      · exact h2
      · rw [hk9] at h1; cases h1
    subst hc0; subst hk9
    refine lv_i2l hx hb dL_statusOn_7 rfl ?_
    refine k_lst (w' := wX G ad x ++ [(qo, .inl (G.2 1, 1, .inr (.inl (vp_updL o 0 (rv.toInt64)))))]) F hw 34 rfl (by decide) rfl dL_statusOn_8 (fun H locs hw => ?_)
    refine lv_goto (tgt := 15) hx hb dL_statusOn_9 rfl ?_
    refine lv_iconst (v := 0) hx hb dL_statusOn_15 (by decide) ?_
    exact k_liret F hr hlk hw (Nat.le_of_ble_eq_true rfl) (Nat.le_of_ble_eq_true rfl) dL_statusOn_16
set_option maxHeartbeats 4000000 in
set_option maxRecDepth 100000 in
theorem t_L_termByRelease {G : gG} {l : Launch} (hlt : l.stackTraces = false) {ad : Nat → Nat} {qo n : Nat} {x : SX} {o : Nat → Int64} {a1 : Int32} {k0 : Nat} {rv c0 : Int32} (hf : f_X6_termByRelease n x a1 = some (k0, rv)) (hc : (k0 = 0 ∧ c0 = 0) ∨ (k0 = 3 ∧ c0 = 1)) : MetL PrW G l yL_termByRelease cL_termByRelease 4 (some .int) hh_L_termByRelease 7 1 6 144 [.ref (ad 0), .int a1, .ref qo] (wX G ad x ++ [(qo, .inl (G.2 1, 1, .inr (.inl o)))]) (wX G ad x ++ [(qo, .inl (G.2 1, 1, .inr (.inl (if k0 = 0 then vp_updL o 0 rv.toInt64 else o))))]) c0 := by
  refine k_ofL (by decide) (Nat.le_of_ble_eq_true rfl) ?_
  intro p e s m args below meth c ls A F hr hlk htab hl hw hZ
  have hx := F.1
  have hb := F.2.1
  have hl : lv_has ls 4 [(0, .ref (ad 0)), (1, .int a1), (2, .ref qo)] := hl
  have htab : c.exceptionTable.toList = [⟨0, 9, 12, 44⟩] := htab
  refine lv_aload_n hx hb dL_termByRelease_0 rfl (lv_at hl 2 rfl) ?_
  refine lv_iconst (v := 0) hx hb dL_termByRelease_1 (by decide) ?_
  refine lv_aload_n hx hb dL_termByRelease_2 rfl (lv_at hl 0 rfl) ?_
  refine lv_iload_n hx hb dL_termByRelease_3 rfl (lv_at hl 1 rfl) ?_
  refine k_xcallVi (wl := []) (wr := [(qo, .inl (G.2 1, 1, .inr (.inl o)))]) (rest := [.int 0, .ref qo]) (As := [.int a1]) F wsh_in (t_X6_termByRelease hlt hf) cv_X6_termByRelease ml_L_119 hZ.1 hw 0 rfl rfl rfl hl.1 rfl (Nat.le_of_ble_eq_true rfl) ⟨Nat.le_of_ble_eq_true rfl, Nat.le_of_ble_eq_true rfl⟩ ⟨Nat.le_of_ble_eq_true rfl, Nat.le_of_ble_eq_true rfl⟩ dL_termByRelease_4 (fun hk9 E ce q9 H locs hE hw g1 g2 g3 => ?_) (fun hk9 H locs hw => ?_)
  · rcases hc with ⟨rfl, rfl⟩ | ⟨rfl, rfl⟩
    · exact absurd rfl hk9
    · subst hE
      refine vx_catch (own := RL) (name := exn 3) F.2.2.2.1 [] ⟨0, 9, 12, 44⟩ [] htab (fun z hz => by cases hz) (by decide) (by decide) (F.2.2.2.2 _ (wsh_in _ lkx_3)) (hZ.1.2.2.use (by decide)) g1 g2 g3 ?_
      refine lv_astore_n (lv' := [(3, .ref q9), (0, .ref (ad 0)), (1, .int a1), (2, .ref qo)]) hx hb dL_termByRelease_12 rfl hl (Nat.le_of_ble_eq_true rfl) rfl (fun ls hl => ?_)
      refine lv_iconst (v := 1) hx hb dL_termByRelease_13 (by decide) ?_
      exact k_liret F hr hlk hw (Nat.le_of_ble_eq_true rfl) (Nat.le_of_ble_eq_true rfl) dL_termByRelease_14
  · have hc0 : c0 = 0 := by
      rcases hc with ⟨h1, h2⟩ | ⟨h1, h2⟩
      · exact h2
      · rw [hk9] at h1; cases h1
    subst hc0; subst hk9
    refine lv_i2l hx hb dL_termByRelease_7 rfl ?_
    refine k_lst (w' := wX G ad x ++ [(qo, .inl (G.2 1, 1, .inr (.inl (vp_updL o 0 (rv.toInt64)))))]) F hw 34 rfl (by decide) rfl dL_termByRelease_8 (fun H locs hw => ?_)
    refine lv_goto (tgt := 15) hx hb dL_termByRelease_9 rfl ?_
    refine lv_iconst (v := 0) hx hb dL_termByRelease_15 (by decide) ?_
    exact k_liret F hr hlk hw (Nat.le_of_ble_eq_true rfl) (Nat.le_of_ble_eq_true rfl) dL_termByRelease_16
set_option maxHeartbeats 4000000 in
set_option maxRecDepth 100000 in
theorem t_L_totalLength {G : gG} {l : Launch} (hlt : l.stackTraces = false) {ad : Nat → Nat} {qo n : Nat} {x : SX} {o : Nat → Int64} {a1 : Int32} {k0 : Nat} {rv c0 : Int32} (hf : f_X6_totalLength n x a1 = some (k0, rv)) (hc : (k0 = 0 ∧ c0 = 0) ∨ (k0 = 3 ∧ c0 = 1) ∨ (k0 = 2 ∧ c0 = 2)) : MetL PrW G l yL_totalLength cL_totalLength 4 (some .int) hh_L_totalLength 9 2 12 163 [.ref (ad 0), .int a1, .ref qo] (wX G ad x ++ [(qo, .inl (G.2 1, 1, .inr (.inl o)))]) (wX G ad x ++ [(qo, .inl (G.2 1, 1, .inr (.inl (if k0 = 0 then vp_updL o 0 rv.toInt64 else o))))]) c0 := by
  refine k_ofL (by decide) (Nat.le_of_ble_eq_true rfl) ?_
  intro p e s m args below meth c ls A F hr hlk htab hl hw hZ
  have hx := F.1
  have hb := F.2.1
  have hl : lv_has ls 4 [(0, .ref (ad 0)), (1, .int a1), (2, .ref qo)] := hl
  have htab : c.exceptionTable.toList = [⟨0, 9, 12, 44⟩, ⟨0, 9, 15, 35⟩] := htab
  refine lv_aload_n hx hb dL_totalLength_0 rfl (lv_at hl 2 rfl) ?_
  refine lv_iconst (v := 0) hx hb dL_totalLength_1 (by decide) ?_
  refine lv_aload_n hx hb dL_totalLength_2 rfl (lv_at hl 0 rfl) ?_
  refine lv_iload_n hx hb dL_totalLength_3 rfl (lv_at hl 1 rfl) ?_
  refine k_xcallVi (wl := []) (wr := [(qo, .inl (G.2 1, 1, .inr (.inl o)))]) (rest := [.int 0, .ref qo]) (As := [.int a1]) F wsh_in (t_X6_totalLength hlt hf) cv_X6_totalLength ml_L_85 hZ.1 hw 0 rfl rfl rfl hl.1 rfl (Nat.le_of_ble_eq_true rfl) ⟨Nat.le_of_ble_eq_true rfl, Nat.le_of_ble_eq_true rfl⟩ ⟨Nat.le_of_ble_eq_true rfl, Nat.le_of_ble_eq_true rfl⟩ dL_totalLength_4 (fun hk9 E ce q9 H locs hE hw g1 g2 g3 => ?_) (fun hk9 H locs hw => ?_)
  · rcases hc with ⟨rfl, rfl⟩ | ⟨rfl, rfl⟩ | ⟨rfl, rfl⟩
    · exact absurd rfl hk9
    · subst hE
      refine vx_catch (own := RL) (name := exn 3) F.2.2.2.1 [] ⟨0, 9, 12, 44⟩ [⟨0, 9, 15, 35⟩] htab (fun z hz => by cases hz) (by decide) (by decide) (F.2.2.2.2 _ (wsh_in _ lkx_3)) (hZ.1.2.2.use (by decide)) g1 g2 g3 ?_
      refine lv_astore_n (lv' := [(3, .ref q9), (0, .ref (ad 0)), (1, .int a1), (2, .ref qo)]) hx hb dL_totalLength_12 rfl hl (Nat.le_of_ble_eq_true rfl) rfl (fun ls hl => ?_)
      refine lv_iconst (v := 1) hx hb dL_totalLength_13 (by decide) ?_
      exact k_liret F hr hlk hw (Nat.le_of_ble_eq_true rfl) (Nat.le_of_ble_eq_true rfl) dL_totalLength_14
    · subst hE
      refine vx_catch (own := RL) (name := exn 2) F.2.2.2.1 [⟨0, 9, 12, 44⟩] ⟨0, 9, 15, 35⟩ [] htab (fun z hz => by
          simp only [List.mem_cons, List.not_mem_nil, or_false] at hz
          rcases hz with rfl
          · exact Or.inr ⟨by decide, exn 3, F.2.2.2.2 _ (wsh_in _ lkx_3), hZ.2 2 3 (by decide) (by decide) (by decide) (by decide) (by decide)⟩) (by decide) (by decide) (F.2.2.2.2 _ (wsh_in _ lkx_2)) (hZ.1.2.2.use (by decide)) g1 g2 g3 ?_
      refine lv_astore_n (lv' := [(3, .ref q9), (0, .ref (ad 0)), (1, .int a1), (2, .ref qo)]) hx hb dL_totalLength_15 rfl hl (Nat.le_of_ble_eq_true rfl) rfl (fun ls hl => ?_)
      refine lv_iconst (v := 2) hx hb dL_totalLength_16 (by decide) ?_
      exact k_liret F hr hlk hw (Nat.le_of_ble_eq_true rfl) (Nat.le_of_ble_eq_true rfl) dL_totalLength_17
  · have hc0 : c0 = 0 := by
      rcases hc with ⟨h1, h2⟩ | ⟨h1, h2⟩ | ⟨h1, h2⟩
      · exact h2
      · rw [hk9] at h1; cases h1
      · rw [hk9] at h1; cases h1
    subst hc0; subst hk9
    refine lv_i2l hx hb dL_totalLength_7 rfl ?_
    refine k_lst (w' := wX G ad x ++ [(qo, .inl (G.2 1, 1, .inr (.inl (vp_updL o 0 (rv.toInt64)))))]) F hw 34 rfl (by decide) rfl dL_totalLength_8 (fun H locs hw => ?_)
    refine lv_goto (tgt := 18) hx hb dL_totalLength_9 rfl ?_
    refine lv_iconst (v := 0) hx hb dL_totalLength_18 (by decide) ?_
    exact k_liret F hr hlk hw (Nat.le_of_ble_eq_true rfl) (Nat.le_of_ble_eq_true rfl) dL_totalLength_19
set_option maxHeartbeats 4000000 in
set_option maxRecDepth 100000 in
theorem t_L_yearOf {G : gG} {l : Launch} (hlt : l.stackTraces = false) {ad : Nat → Nat} {qo n : Nat} {x : SX} {o : Nat → Int64} {a1 : Int32} {k0 : Nat} {rv c0 : Int32} (hf : f_X6_yearOf n x a1 = some (k0, rv)) (hc : (k0 = 0 ∧ c0 = 0) ∨ (k0 = 1 ∧ c0 = 1)) : MetL PrW G l yL_yearOf cL_yearOf 4 (some .int) hh_L_yearOf 8 1 6 141 [.ref (ad 0), .int a1, .ref qo] (wX G ad x ++ [(qo, .inl (G.2 1, 1, .inr (.inl o)))]) (wX G ad x ++ [(qo, .inl (G.2 1, 1, .inr (.inl (if k0 = 0 then vp_updL o 0 rv.toInt64 else o))))]) c0 := by
  refine k_ofL (by decide) (Nat.le_of_ble_eq_true rfl) ?_
  intro p e s m args below meth c ls A F hr hlk htab hl hw hZ
  have hx := F.1
  have hb := F.2.1
  have hl : lv_has ls 4 [(0, .ref (ad 0)), (1, .int a1), (2, .ref qo)] := hl
  have htab : c.exceptionTable.toList = [⟨0, 9, 12, 13⟩] := htab
  refine lv_aload_n hx hb dL_yearOf_0 rfl (lv_at hl 2 rfl) ?_
  refine lv_iconst (v := 0) hx hb dL_yearOf_1 (by decide) ?_
  refine lv_aload_n hx hb dL_yearOf_2 rfl (lv_at hl 0 rfl) ?_
  refine lv_iload_n hx hb dL_yearOf_3 rfl (lv_at hl 1 rfl) ?_
  refine k_xcallVi (wl := []) (wr := [(qo, .inl (G.2 1, 1, .inr (.inl o)))]) (rest := [.int 0, .ref qo]) (As := [.int a1]) F wsh_in (t_X6_yearOf hlt hf) cv_X6_yearOf ml_L_18 hZ.1 hw 0 rfl rfl rfl hl.1 rfl (Nat.le_of_ble_eq_true rfl) ⟨Nat.le_of_ble_eq_true rfl, Nat.le_of_ble_eq_true rfl⟩ ⟨Nat.le_of_ble_eq_true rfl, Nat.le_of_ble_eq_true rfl⟩ dL_yearOf_4 (fun hk9 E ce q9 H locs hE hw g1 g2 g3 => ?_) (fun hk9 H locs hw => ?_)
  · rcases hc with ⟨rfl, rfl⟩ | ⟨rfl, rfl⟩
    · exact absurd rfl hk9
    · subst hE
      refine vx_catch (own := RL) (name := exn 1) F.2.2.2.1 [] ⟨0, 9, 12, 13⟩ [] htab (fun z hz => by cases hz) (by decide) (by decide) (F.2.2.2.2 _ (wsh_in _ lkx_1)) (hZ.1.2.2.use (by decide)) g1 g2 g3 ?_
      refine lv_astore_n (lv' := [(3, .ref q9), (0, .ref (ad 0)), (1, .int a1), (2, .ref qo)]) hx hb dL_yearOf_12 rfl hl (Nat.le_of_ble_eq_true rfl) rfl (fun ls hl => ?_)
      refine lv_iconst (v := 1) hx hb dL_yearOf_13 (by decide) ?_
      exact k_liret F hr hlk hw (Nat.le_of_ble_eq_true rfl) (Nat.le_of_ble_eq_true rfl) dL_yearOf_14
  · have hc0 : c0 = 0 := by
      rcases hc with ⟨h1, h2⟩ | ⟨h1, h2⟩
      · exact h2
      · rw [hk9] at h1; cases h1
    subst hc0; subst hk9
    refine lv_i2l hx hb dL_yearOf_7 rfl ?_
    refine k_lst (w' := wX G ad x ++ [(qo, .inl (G.2 1, 1, .inr (.inl (vp_updL o 0 (rv.toInt64)))))]) F hw 34 rfl (by decide) rfl dL_yearOf_8 (fun H locs hw => ?_)
    refine lv_goto (tgt := 15) hx hb dL_yearOf_9 rfl ?_
    refine lv_iconst (v := 0) hx hb dL_yearOf_15 (by decide) ?_
    exact k_liret F hr hlk hw (Nat.le_of_ble_eq_true rfl) (Nat.le_of_ble_eq_true rfl) dL_yearOf_16
