def jx_bok (μ b : Nat) : Bool := jx_bchk 187 zz.1 (fun b => (zz.2 μ b).1) (zz.1 μ).1 (zz.2 μ b).1 (zz.2 μ b).2.2
theorem mk_T_clear : jx_mchk (zz.1 0) = true := by decide +kernel
theorem mk_T_dropOldest : jx_mchk (zz.1 1) = true := by decide +kernel
theorem mk_T_flow : jx_mchk (zz.1 2) = true := by decide +kernel
theorem mk_T_isKey : jx_mchk (zz.1 3) = true := by decide +kernel
theorem mk_T_isLetter : jx_mchk (zz.1 4) = true := by decide +kernel
theorem mk_T_isWord : jx_mchk (zz.1 5) = true := by decide +kernel
theorem mk_T_mixed : jx_mchk (zz.1 6) = true := by decide +kernel
theorem mk_T_type : jx_mchk (zz.1 7) = true := by decide +kernel
theorem mk_A_has : jx_mchk (zz.1 8) = true := by decide +kernel
theorem mk_A_nextOf : jx_mchk (zz.1 9) = true := by decide +kernel
theorem mk_A_nextSet : jx_mchk (zz.1 10) = true := by decide +kernel
theorem mk_A_wordsOf : jx_mchk (zz.1 11) = true := by decide +kernel
theorem mk_A_wordsOfSet : jx_mchk (zz.1 12) = true := by decide +kernel
theorem mk_Fi_add : jx_mchk (zz.1 13) = true := by decide +kernel
theorem mk_Fi_made : jx_mchk (zz.1 14) = true := by decide +kernel
theorem mk_Fi_tell : jx_mchk (zz.1 15) = true := by decide +kernel
theorem mk_Fl_isPreferred : jx_mchk (zz.1 16) = true := by decide +kernel
theorem mk_R_firstIndexOf : jx_mchk (zz.1 17) = true := by decide +kernel
theorem mk_R_hexadecimal : jx_mchk (zz.1 18) = true := by decide +kernel
theorem mk_R_isDropped : jx_mchk (zz.1 19) = true := by decide +kernel
theorem mk_R_recentCharacter : jx_mchk (zz.1 20) = true := by decide +kernel
theorem mk_R_restart : jx_mchk (zz.1 21) = true := by decide +kernel
theorem mk_Sg_covers : jx_mchk (zz.1 22) = true := by decide +kernel
theorem mk_Sg_isFull : jx_mchk (zz.1 23) = true := by decide +kernel
theorem mk_St_movedToEnd : jx_mchk (zz.1 24) = true := by decide +kernel
theorem mk_St_placeOf : jx_mchk (zz.1 25) = true := by decide +kernel
theorem mk_Wo_isDefined : jx_mchk (zz.1 26) = true := by decide +kernel
theorem mk_Wo_letterAt : jx_mchk (zz.1 27) = true := by decide +kernel
theorem mk_Wo_remove : jx_mchk (zz.1 28) = true := by decide +kernel
theorem mk_M_adds : jx_mchk (zz.1 29) = true := by decide +kernel
theorem mk_M_clear : jx_mchk (zz.1 30) = true := by decide +kernel
theorem mk_M_copies : jx_mchk (zz.1 31) = true := by decide +kernel
theorem mk_M_freeSlot : jx_mchk (zz.1 32) = true := by decide +kernel
theorem mk_M_highOf : jx_mchk (zz.1 33) = true := by decide +kernel
theorem mk_M_in : jx_mchk (zz.1 34) = true := by decide +kernel
theorem mk_M_leaves : jx_mchk (zz.1 35) = true := by decide +kernel
theorem mk_M_letterOf : jx_mchk (zz.1 36) = true := by decide +kernel
theorem mk_M_lowOf : jx_mchk (zz.1 37) = true := by decide +kernel
theorem mk_M_nodeOf : jx_mchk (zz.1 38) = true := by decide +kernel
theorem mk_M_of : jx_mchk (zz.1 39) = true := by decide +kernel
theorem mk_M_order : jx_mchk (zz.1 40) = true := by decide +kernel
theorem mk_M_pieceAt : jx_mchk (zz.1 41) = true := by decide +kernel
theorem mk_M_put : jx_mchk (zz.1 42) = true := by decide +kernel
theorem mk_M_slot : jx_mchk (zz.1 43) = true := by decide +kernel
theorem mk_M_takes : jx_mchk (zz.1 44) = true := by decide +kernel
theorem mk_M_wordLength : jx_mchk (zz.1 45) = true := by decide +kernel
theorem mk_JI_bitCount : jx_mchk (zz.1 46) = true := by decide +kernel
theorem mk_JL_bitCount : jx_mchk (zz.1 47) = true := by decide +kernel
theorem mk_JA_fill : jx_mchk (zz.1 48) = true := by decide +kernel
theorem mk_T_find : jx_mchk (zz.1 49) = true := by decide +kernel
theorem mk_T_firstWrongByte : jx_mchk (zz.1 50) = true := by decide +kernel
theorem mk_T_letter : jx_mchk (zz.1 51) = true := by decide +kernel
theorem mk_T_next : jx_mchk (zz.1 52) = true := by decide +kernel
theorem mk_T_node : jx_mchk (zz.1 53) = true := by decide +kernel
theorem mk_T_possible : jx_mchk (zz.1 54) = true := by decide +kernel
theorem mk_T_read : jx_mchk (zz.1 55) = true := by decide +kernel
theorem mk_T_segmentError : jx_mchk (zz.1 56) = true := by decide +kernel
theorem mk_A_init : jx_mchk (zz.1 57) = true := by decide +kernel
theorem mk_A_added : jx_mchk (zz.1 58) = true := by decide +kernel
theorem mk_A_link : jx_mchk (zz.1 59) = true := by decide +kernel
theorem mk_A_nextSetByAny : jx_mchk (zz.1 60) = true := by decide +kernel
theorem mk_Fi_init : jx_mchk (zz.1 61) = true := by decide +kernel
theorem mk_Fi_copyFrom : jx_mchk (zz.1 62) = true := by decide +kernel
theorem mk_Fl_chosenPiece : jx_mchk (zz.1 63) = true := by decide +kernel
theorem mk_R_init : jx_mchk (zz.1 64) = true := by decide +kernel
theorem mk_R_begin : jx_mchk (zz.1 65) = true := by decide +kernel
theorem mk_R_come : jx_mchk (zz.1 66) = true := by decide +kernel
theorem mk_R_copyFrom : jx_mchk (zz.1 67) = true := by decide +kernel
theorem mk_Sg_init : jx_mchk (zz.1 68) = true := by decide +kernel
theorem mk_Sg_byteFor : jx_mchk (zz.1 69) = true := by decide +kernel
theorem mk_Sg_isCoveredBefore : jx_mchk (zz.1 70) = true := by decide +kernel
theorem mk_Sg_put : jx_mchk (zz.1 71) = true := by decide +kernel
theorem mk_Sg_smallestStart : jx_mchk (zz.1 72) = true := by decide +kernel
theorem mk_St_remove : jx_mchk (zz.1 73) = true := by decide +kernel
theorem mk_Wo_init : jx_mchk (zz.1 74) = true := by decide +kernel
theorem mk_Wo_copyFrom : jx_mchk (zz.1 75) = true := by decide +kernel
theorem mk_Wo_definedSet : jx_mchk (zz.1 76) = true := by decide +kernel
theorem mk_Wo_put : jx_mchk (zz.1 77) = true := by decide +kernel
theorem mk_M_begins : jx_mchk (zz.1 78) = true := by decide +kernel
theorem mk_M_byteOf : jx_mchk (zz.1 79) = true := by decide +kernel
theorem mk_M_covers : jx_mchk (zz.1 80) = true := by decide +kernel
theorem mk_M_definedSet : jx_mchk (zz.1 81) = true := by decide +kernel
theorem mk_M_drops : jx_mchk (zz.1 82) = true := by decide +kernel
theorem mk_M_endsWith : jx_mchk (zz.1 83) = true := by decide +kernel
theorem mk_M_faultOf : jx_mchk (zz.1 84) = true := by decide +kernel
theorem mk_M_find : jx_mchk (zz.1 85) = true := by decide +kernel
theorem mk_M_flow : jx_mchk (zz.1 86) = true := by decide +kernel
theorem mk_M_has : jx_mchk (zz.1 87) = true := by decide +kernel
theorem mk_M_hexOf : jx_mchk (zz.1 88) = true := by decide +kernel
theorem mk_M_inserts : jx_mchk (zz.1 89) = true := by decide +kernel
theorem mk_M_isBetter : jx_mchk (zz.1 90) = true := by decide +kernel
theorem mk_M_isPossible : jx_mchk (zz.1 91) = true := by decide +kernel
theorem mk_M_isWord : jx_mchk (zz.1 92) = true := by decide +kernel
theorem mk_M_laysPossible : jx_mchk (zz.1 93) = true := by decide +kernel
theorem mk_M_longest : jx_mchk (zz.1 94) = true := by decide +kernel
theorem mk_M_next : jx_mchk (zz.1 95) = true := by decide +kernel
theorem mk_M_node : jx_mchk (zz.1 96) = true := by decide +kernel
theorem mk_M_placeOf : jx_mchk (zz.1 97) = true := by decide +kernel
theorem mk_M_possibleNow : jx_mchk (zz.1 98) = true := by decide +kernel
theorem mk_M_readNow : jx_mchk (zz.1 99) = true := by decide +kernel
theorem mk_M_records : jx_mchk (zz.1 100) = true := by decide +kernel
theorem mk_M_starts : jx_mchk (zz.1 101) = true := by decide +kernel
theorem mk_M_type : jx_mchk (zz.1 102) = true := by decide +kernel
theorem mk_T_told : jx_mchk (zz.1 103) = true := by decide +kernel
theorem mk_A_addChildren : jx_mchk (zz.1 104) = true := by decide +kernel
theorem mk_A_fewestLettersToWord : jx_mchk (zz.1 105) = true := by decide +kernel
theorem mk_A_spread : jx_mchk (zz.1 106) = true := by decide +kernel
theorem mk_Fl_init : jx_mchk (zz.1 107) = true := by decide +kernel
theorem mk_Fl_begin : jx_mchk (zz.1 108) = true := by decide +kernel
theorem mk_Fl_chosenByte : jx_mchk (zz.1 109) = true := by decide +kernel
theorem mk_Fl_isDisputed : jx_mchk (zz.1 110) = true := by decide +kernel
theorem mk_R_release : jx_mchk (zz.1 111) = true := by decide +kernel
theorem mk_Sg_add : jx_mchk (zz.1 112) = true := by decide +kernel
theorem mk_Sg_coveredFrom : jx_mchk (zz.1 113) = true := by decide +kernel
theorem mk_Sg_dropBefore : jx_mchk (zz.1 114) = true := by decide +kernel
theorem mk_M_asked : jx_mchk (zz.1 115) = true := by decide +kernel
theorem mk_M_chosen : jx_mchk (zz.1 116) = true := by decide +kernel
theorem mk_M_isConflict : jx_mchk (zz.1 117) = true := by decide +kernel
theorem mk_M_lays : jx_mchk (zz.1 118) = true := by decide +kernel
theorem mk_M_letter : jx_mchk (zz.1 119) = true := by decide +kernel
theorem mk_M_possibleMany : jx_mchk (zz.1 120) = true := by decide +kernel
theorem mk_M_set : jx_mchk (zz.1 121) = true := by decide +kernel
theorem mk_M_steps : jx_mchk (zz.1 122) = true := by decide +kernel
theorem mk_M_told : jx_mchk (zz.1 123) = true := by decide +kernel
theorem mk_M_wrong : jx_mchk (zz.1 124) = true := by decide +kernel
theorem mk_T_byteAt : jx_mchk (zz.1 125) = true := by decide +kernel
theorem mk_T_nearest : jx_mchk (zz.1 126) = true := by decide +kernel
theorem mk_A_build : jx_mchk (zz.1 127) = true := by decide +kernel
theorem mk_Fl_end : jx_mchk (zz.1 128) = true := by decide +kernel
theorem mk_Fl_tell : jx_mchk (zz.1 129) = true := by decide +kernel
theorem mk_R_skip : jx_mchk (zz.1 130) = true := by decide +kernel
theorem mk_R_take : jx_mchk (zz.1 131) = true := by decide +kernel
theorem mk_Sg_copyFrom : jx_mchk (zz.1 132) = true := by decide +kernel
theorem mk_St_init : jx_mchk (zz.1 133) = true := by decide +kernel
theorem mk_St_flowOfSegment : jx_mchk (zz.1 134) = true := by decide +kernel
theorem mk_M_init : jx_mchk (zz.1 135) = true := by decide +kernel
theorem mk_M_byteNow : jx_mchk (zz.1 136) = true := by decide +kernel
theorem mk_M_covered : jx_mchk (zz.1 137) = true := by decide +kernel
theorem mk_M_nearest : jx_mchk (zz.1 138) = true := by decide +kernel
theorem mk_M_others : jx_mchk (zz.1 139) = true := by decide +kernel
theorem mk_M_possible : jx_mchk (zz.1 140) = true := by decide +kernel
theorem mk_M_read : jx_mchk (zz.1 141) = true := by decide +kernel
theorem mk_M_reads : jx_mchk (zz.1 142) = true := by decide +kernel
theorem mk_M_undo : jx_mchk (zz.1 143) = true := by decide +kernel
theorem mk_T_init : jx_mchk (zz.1 144) = true := by decide +kernel
theorem mk_T_mixedWithFlow : jx_mchk (zz.1 145) = true := by decide +kernel
theorem mk_T_property : jx_mchk (zz.1 146) = true := by decide +kernel
theorem mk_T_undo : jx_mchk (zz.1 147) = true := by decide +kernel
theorem mk_T_wordsChanged : jx_mchk (zz.1 148) = true := by decide +kernel
theorem mk_Fl_copyFrom : jx_mchk (zz.1 149) = true := by decide +kernel
theorem mk_Fl_deliver : jx_mchk (zz.1 150) = true := by decide +kernel
theorem mk_Fl_skipGap : jx_mchk (zz.1 151) = true := by decide +kernel
theorem mk_M_byteAt : jx_mchk (zz.1 152) = true := by decide +kernel
theorem mk_M_character : jx_mchk (zz.1 153) = true := by decide +kernel
theorem mk_M_define : jx_mchk (zz.1 154) = true := by decide +kernel
theorem mk_M_forget : jx_mchk (zz.1 155) = true := by decide +kernel
theorem mk_M_propertyNow : jx_mchk (zz.1 156) = true := by decide +kernel
theorem mk_T_digest : jx_mchk (zz.1 157) = true := by decide +kernel
theorem mk_Fl_accept : jx_mchk (zz.1 158) = true := by decide +kernel
theorem mk_St_copyFrom : jx_mchk (zz.1 159) = true := by decide +kernel
theorem mk_M_lets : jx_mchk (zz.1 160) = true := by decide +kernel
theorem mk_M_mixedFlow : jx_mchk (zz.1 161) = true := by decide +kernel
theorem mk_M_property : jx_mchk (zz.1 162) = true := by decide +kernel
theorem mk_T_handled : jx_mchk (zz.1 163) = true := by decide +kernel
theorem mk_T_record : jx_mchk (zz.1 164) = true := by decide +kernel
theorem mk_T_wordsBy : jx_mchk (zz.1 165) = true := by decide +kernel
theorem mk_M_delivers : jx_mchk (zz.1 166) = true := by decide +kernel
theorem mk_M_digest : jx_mchk (zz.1 167) = true := by decide +kernel
theorem mk_M_finish : jx_mchk (zz.1 168) = true := by decide +kernel
theorem mk_M_gap : jx_mchk (zz.1 169) = true := by decide +kernel
theorem mk_T_define : jx_mchk (zz.1 170) = true := by decide +kernel
theorem mk_T_evasions : jx_mchk (zz.1 171) = true := by decide +kernel
theorem mk_T_finish : jx_mchk (zz.1 172) = true := by decide +kernel
theorem mk_T_forget : jx_mchk (zz.1 173) = true := by decide +kernel
theorem mk_T_ifSegment : jx_mchk (zz.1 174) = true := by decide +kernel
theorem mk_T_replay : jx_mchk (zz.1 175) = true := by decide +kernel
theorem mk_T_segment : jx_mchk (zz.1 176) = true := by decide +kernel
theorem mk_T_set : jx_mchk (zz.1 177) = true := by decide +kernel
theorem mk_M_deliversAll : jx_mchk (zz.1 178) = true := by decide +kernel
theorem mk_M_handles : jx_mchk (zz.1 179) = true := by decide +kernel
theorem mk_M_handlesText : jx_mchk (zz.1 180) = true := by decide +kernel
theorem mk_M_replays : jx_mchk (zz.1 181) = true := by decide +kernel
theorem mk_M_evasions : jx_mchk (zz.1 182) = true := by decide +kernel
theorem mk_M_replay : jx_mchk (zz.1 183) = true := by decide +kernel
theorem mk_M_segments : jx_mchk (zz.1 184) = true := by decide +kernel
theorem mk_M_ifSegment : jx_mchk (zz.1 185) = true := by decide +kernel
theorem mk_M_segment : jx_mchk (zz.1 186) = true := by decide +kernel
theorem vb_T_clear_0 : jx_bok 0 0 = true := by decide +kernel
theorem vk_T_clear : ∀ b, jx_bok 0 b = true
  | 0 => vb_T_clear_0
  | _ + 1 => rfl
theorem vb_T_dropOldest_0 : jx_bok 1 0 = true := by decide +kernel
theorem vb_T_dropOldest_1 : jx_bok 1 1 = true := by decide +kernel
theorem vb_T_dropOldest_2 : jx_bok 1 2 = true := by decide +kernel
theorem vk_T_dropOldest : ∀ b, jx_bok 1 b = true
  | 0 => vb_T_dropOldest_0
  | 1 => vb_T_dropOldest_1
  | 2 => vb_T_dropOldest_2
  | _ + 3 => rfl
theorem vb_T_flow_0 : jx_bok 2 0 = true := by decide +kernel
theorem vb_T_flow_1 : jx_bok 2 1 = true := by decide +kernel
theorem vb_T_flow_2 : jx_bok 2 2 = true := by decide +kernel
theorem vb_T_flow_3 : jx_bok 2 3 = true := by decide +kernel
theorem vk_T_flow : ∀ b, jx_bok 2 b = true
  | 0 => vb_T_flow_0
  | 1 => vb_T_flow_1
  | 2 => vb_T_flow_2
  | 3 => vb_T_flow_3
  | _ + 4 => rfl
theorem vb_T_isKey_0 : jx_bok 3 0 = true := by decide +kernel
theorem vb_T_isKey_1 : jx_bok 3 1 = true := by decide +kernel
theorem vb_T_isKey_2 : jx_bok 3 2 = true := by decide +kernel
theorem vk_T_isKey : ∀ b, jx_bok 3 b = true
  | 0 => vb_T_isKey_0
  | 1 => vb_T_isKey_1
  | 2 => vb_T_isKey_2
  | _ + 3 => rfl
theorem vb_T_isLetter_0 : jx_bok 4 0 = true := by decide +kernel
theorem vb_T_isLetter_1 : jx_bok 4 1 = true := by decide +kernel
theorem vb_T_isLetter_2 : jx_bok 4 2 = true := by decide +kernel
theorem vk_T_isLetter : ∀ b, jx_bok 4 b = true
  | 0 => vb_T_isLetter_0
  | 1 => vb_T_isLetter_1
  | 2 => vb_T_isLetter_2
  | _ + 3 => rfl
theorem vb_T_isWord_0 : jx_bok 5 0 = true := by decide +kernel
theorem vb_T_isWord_1 : jx_bok 5 1 = true := by decide +kernel
theorem vb_T_isWord_2 : jx_bok 5 2 = true := by decide +kernel
theorem vk_T_isWord : ∀ b, jx_bok 5 b = true
  | 0 => vb_T_isWord_0
  | 1 => vb_T_isWord_1
  | 2 => vb_T_isWord_2
  | _ + 3 => rfl
theorem vb_T_mixed_0 : jx_bok 6 0 = true := by decide +kernel
theorem vk_T_mixed : ∀ b, jx_bok 6 b = true
  | 0 => vb_T_mixed_0
  | _ + 1 => rfl
theorem vb_T_type_0 : jx_bok 7 0 = true := by decide +kernel
theorem vb_T_type_1 : jx_bok 7 1 = true := by decide +kernel
theorem vb_T_type_2 : jx_bok 7 2 = true := by decide +kernel
theorem vb_T_type_3 : jx_bok 7 3 = true := by decide +kernel
theorem vb_T_type_4 : jx_bok 7 4 = true := by decide +kernel
theorem vk_T_type : ∀ b, jx_bok 7 b = true
  | 0 => vb_T_type_0
  | 1 => vb_T_type_1
  | 2 => vb_T_type_2
  | 3 => vb_T_type_3
  | 4 => vb_T_type_4
  | _ + 5 => rfl
theorem vb_A_has_0 : jx_bok 8 0 = true := by decide +kernel
theorem vb_A_has_1 : jx_bok 8 1 = true := by decide +kernel
theorem vb_A_has_2 : jx_bok 8 2 = true := by decide +kernel
theorem vk_A_has : ∀ b, jx_bok 8 b = true
  | 0 => vb_A_has_0
  | 1 => vb_A_has_1
  | 2 => vb_A_has_2
  | _ + 3 => rfl
theorem vb_A_nextOf_0 : jx_bok 9 0 = true := by decide +kernel
theorem vb_A_nextOf_1 : jx_bok 9 1 = true := by decide +kernel
theorem vb_A_nextOf_2 : jx_bok 9 2 = true := by decide +kernel
theorem vk_A_nextOf : ∀ b, jx_bok 9 b = true
  | 0 => vb_A_nextOf_0
  | 1 => vb_A_nextOf_1
  | 2 => vb_A_nextOf_2
  | _ + 3 => rfl
theorem vb_A_nextSet_0 : jx_bok 10 0 = true := by decide +kernel
theorem vb_A_nextSet_1 : jx_bok 10 1 = true := by decide +kernel
theorem vb_A_nextSet_2 : jx_bok 10 2 = true := by decide +kernel
theorem vb_A_nextSet_3 : jx_bok 10 3 = true := by decide +kernel
theorem vk_A_nextSet : ∀ b, jx_bok 10 b = true
  | 0 => vb_A_nextSet_0
  | 1 => vb_A_nextSet_1
  | 2 => vb_A_nextSet_2
  | 3 => vb_A_nextSet_3
  | _ + 4 => rfl
theorem vb_A_wordsOf_0 : jx_bok 11 0 = true := by decide +kernel
theorem vb_A_wordsOf_1 : jx_bok 11 1 = true := by decide +kernel
theorem vb_A_wordsOf_2 : jx_bok 11 2 = true := by decide +kernel
theorem vk_A_wordsOf : ∀ b, jx_bok 11 b = true
  | 0 => vb_A_wordsOf_0
  | 1 => vb_A_wordsOf_1
  | 2 => vb_A_wordsOf_2
  | _ + 3 => rfl
theorem vb_A_wordsOfSet_0 : jx_bok 12 0 = true := by decide +kernel
theorem vb_A_wordsOfSet_1 : jx_bok 12 1 = true := by decide +kernel
theorem vb_A_wordsOfSet_2 : jx_bok 12 2 = true := by decide +kernel
theorem vb_A_wordsOfSet_3 : jx_bok 12 3 = true := by decide +kernel
theorem vk_A_wordsOfSet : ∀ b, jx_bok 12 b = true
  | 0 => vb_A_wordsOfSet_0
  | 1 => vb_A_wordsOfSet_1
  | 2 => vb_A_wordsOfSet_2
  | 3 => vb_A_wordsOfSet_3
  | _ + 4 => rfl
theorem vb_Fi_add_0 : jx_bok 13 0 = true := by decide +kernel
theorem vb_Fi_add_1 : jx_bok 13 1 = true := by decide +kernel
theorem vb_Fi_add_2 : jx_bok 13 2 = true := by decide +kernel
theorem vb_Fi_add_3 : jx_bok 13 3 = true := by decide +kernel
theorem vb_Fi_add_4 : jx_bok 13 4 = true := by decide +kernel
theorem vb_Fi_add_5 : jx_bok 13 5 = true := by decide +kernel
theorem vk_Fi_add : ∀ b, jx_bok 13 b = true
  | 0 => vb_Fi_add_0
  | 1 => vb_Fi_add_1
  | 2 => vb_Fi_add_2
  | 3 => vb_Fi_add_3
  | 4 => vb_Fi_add_4
  | 5 => vb_Fi_add_5
  | _ + 6 => rfl
theorem vb_Fi_made_0 : jx_bok 14 0 = true := by decide +kernel
theorem vk_Fi_made : ∀ b, jx_bok 14 b = true
  | 0 => vb_Fi_made_0
  | _ + 1 => rfl
theorem vb_Fi_tell_0 : jx_bok 15 0 = true := by decide +kernel
theorem vb_Fi_tell_1 : jx_bok 15 1 = true := by decide +kernel
theorem vb_Fi_tell_2 : jx_bok 15 2 = true := by decide +kernel
theorem vb_Fi_tell_3 : jx_bok 15 3 = true := by decide +kernel
theorem vb_Fi_tell_4 : jx_bok 15 4 = true := by decide +kernel
theorem vb_Fi_tell_5 : jx_bok 15 5 = true := by decide +kernel
theorem vb_Fi_tell_6 : jx_bok 15 6 = true := by decide +kernel
theorem vb_Fi_tell_7 : jx_bok 15 7 = true := by decide +kernel
theorem vb_Fi_tell_8 : jx_bok 15 8 = true := by decide +kernel
theorem vb_Fi_tell_9 : jx_bok 15 9 = true := by decide +kernel
theorem vb_Fi_tell_10 : jx_bok 15 10 = true := by decide +kernel
theorem vk_Fi_tell : ∀ b, jx_bok 15 b = true
  | 0 => vb_Fi_tell_0
  | 1 => vb_Fi_tell_1
  | 2 => vb_Fi_tell_2
  | 3 => vb_Fi_tell_3
  | 4 => vb_Fi_tell_4
  | 5 => vb_Fi_tell_5
  | 6 => vb_Fi_tell_6
  | 7 => vb_Fi_tell_7
  | 8 => vb_Fi_tell_8
  | 9 => vb_Fi_tell_9
  | 10 => vb_Fi_tell_10
  | _ + 11 => rfl
theorem vb_Fl_isPreferred_0 : jx_bok 16 0 = true := by decide +kernel
theorem vb_Fl_isPreferred_1 : jx_bok 16 1 = true := by decide +kernel
theorem vb_Fl_isPreferred_2 : jx_bok 16 2 = true := by decide +kernel
theorem vb_Fl_isPreferred_3 : jx_bok 16 3 = true := by decide +kernel
theorem vb_Fl_isPreferred_4 : jx_bok 16 4 = true := by decide +kernel
theorem vb_Fl_isPreferred_5 : jx_bok 16 5 = true := by decide +kernel
theorem vb_Fl_isPreferred_6 : jx_bok 16 6 = true := by decide +kernel
theorem vb_Fl_isPreferred_7 : jx_bok 16 7 = true := by decide +kernel
theorem vb_Fl_isPreferred_8 : jx_bok 16 8 = true := by decide +kernel
theorem vk_Fl_isPreferred : ∀ b, jx_bok 16 b = true
  | 0 => vb_Fl_isPreferred_0
  | 1 => vb_Fl_isPreferred_1
  | 2 => vb_Fl_isPreferred_2
  | 3 => vb_Fl_isPreferred_3
  | 4 => vb_Fl_isPreferred_4
  | 5 => vb_Fl_isPreferred_5
  | 6 => vb_Fl_isPreferred_6
  | 7 => vb_Fl_isPreferred_7
  | 8 => vb_Fl_isPreferred_8
  | _ + 9 => rfl
theorem vb_R_firstIndexOf_0 : jx_bok 17 0 = true := by decide +kernel
theorem vk_R_firstIndexOf : ∀ b, jx_bok 17 b = true
  | 0 => vb_R_firstIndexOf_0
  | _ + 1 => rfl
theorem vb_R_hexadecimal_0 : jx_bok 18 0 = true := by decide +kernel
theorem vb_R_hexadecimal_1 : jx_bok 18 1 = true := by decide +kernel
theorem vb_R_hexadecimal_2 : jx_bok 18 2 = true := by decide +kernel
theorem vb_R_hexadecimal_3 : jx_bok 18 3 = true := by decide +kernel
theorem vb_R_hexadecimal_4 : jx_bok 18 4 = true := by decide +kernel
theorem vk_R_hexadecimal : ∀ b, jx_bok 18 b = true
  | 0 => vb_R_hexadecimal_0
  | 1 => vb_R_hexadecimal_1
  | 2 => vb_R_hexadecimal_2
  | 3 => vb_R_hexadecimal_3
  | 4 => vb_R_hexadecimal_4
  | _ + 5 => rfl
theorem vb_R_isDropped_0 : jx_bok 19 0 = true := by decide +kernel
theorem vb_R_isDropped_1 : jx_bok 19 1 = true := by decide +kernel
theorem vb_R_isDropped_2 : jx_bok 19 2 = true := by decide +kernel
theorem vb_R_isDropped_3 : jx_bok 19 3 = true := by decide +kernel
theorem vb_R_isDropped_4 : jx_bok 19 4 = true := by decide +kernel
theorem vk_R_isDropped : ∀ b, jx_bok 19 b = true
  | 0 => vb_R_isDropped_0
  | 1 => vb_R_isDropped_1
  | 2 => vb_R_isDropped_2
  | 3 => vb_R_isDropped_3
  | 4 => vb_R_isDropped_4
  | _ + 5 => rfl
theorem vb_R_recentCharacter_0 : jx_bok 20 0 = true := by decide +kernel
theorem vb_R_recentCharacter_1 : jx_bok 20 1 = true := by decide +kernel
theorem vb_R_recentCharacter_2 : jx_bok 20 2 = true := by decide +kernel
theorem vk_R_recentCharacter : ∀ b, jx_bok 20 b = true
  | 0 => vb_R_recentCharacter_0
  | 1 => vb_R_recentCharacter_1
  | 2 => vb_R_recentCharacter_2
  | _ + 3 => rfl
theorem vb_R_restart_0 : jx_bok 21 0 = true := by decide +kernel
theorem vk_R_restart : ∀ b, jx_bok 21 b = true
  | 0 => vb_R_restart_0
  | _ + 1 => rfl
theorem vb_Sg_covers_0 : jx_bok 22 0 = true := by decide +kernel
theorem vb_Sg_covers_1 : jx_bok 22 1 = true := by decide +kernel
theorem vb_Sg_covers_2 : jx_bok 22 2 = true := by decide +kernel
theorem vk_Sg_covers : ∀ b, jx_bok 22 b = true
  | 0 => vb_Sg_covers_0
  | 1 => vb_Sg_covers_1
  | 2 => vb_Sg_covers_2
  | _ + 3 => rfl
theorem vb_Sg_isFull_0 : jx_bok 23 0 = true := by decide +kernel
theorem vb_Sg_isFull_1 : jx_bok 23 1 = true := by decide +kernel
theorem vb_Sg_isFull_2 : jx_bok 23 2 = true := by decide +kernel
theorem vk_Sg_isFull : ∀ b, jx_bok 23 b = true
  | 0 => vb_Sg_isFull_0
  | 1 => vb_Sg_isFull_1
  | 2 => vb_Sg_isFull_2
  | _ + 3 => rfl
theorem vb_St_movedToEnd_0 : jx_bok 24 0 = true := by decide +kernel
theorem vb_St_movedToEnd_1 : jx_bok 24 1 = true := by decide +kernel
theorem vb_St_movedToEnd_2 : jx_bok 24 2 = true := by decide +kernel
theorem vk_St_movedToEnd : ∀ b, jx_bok 24 b = true
  | 0 => vb_St_movedToEnd_0
  | 1 => vb_St_movedToEnd_1
  | 2 => vb_St_movedToEnd_2
  | _ + 3 => rfl
theorem vb_St_placeOf_0 : jx_bok 25 0 = true := by decide +kernel
theorem vb_St_placeOf_1 : jx_bok 25 1 = true := by decide +kernel
theorem vb_St_placeOf_2 : jx_bok 25 2 = true := by decide +kernel
theorem vb_St_placeOf_3 : jx_bok 25 3 = true := by decide +kernel
theorem vk_St_placeOf : ∀ b, jx_bok 25 b = true
  | 0 => vb_St_placeOf_0
  | 1 => vb_St_placeOf_1
  | 2 => vb_St_placeOf_2
  | 3 => vb_St_placeOf_3
  | _ + 4 => rfl
theorem vb_Wo_isDefined_0 : jx_bok 26 0 = true := by decide +kernel
theorem vb_Wo_isDefined_1 : jx_bok 26 1 = true := by decide +kernel
theorem vb_Wo_isDefined_2 : jx_bok 26 2 = true := by decide +kernel
theorem vk_Wo_isDefined : ∀ b, jx_bok 26 b = true
  | 0 => vb_Wo_isDefined_0
  | 1 => vb_Wo_isDefined_1
  | 2 => vb_Wo_isDefined_2
  | _ + 3 => rfl
theorem vb_Wo_letterAt_0 : jx_bok 27 0 = true := by decide +kernel
theorem vb_Wo_letterAt_1 : jx_bok 27 1 = true := by decide +kernel
theorem vb_Wo_letterAt_2 : jx_bok 27 2 = true := by decide +kernel
theorem vk_Wo_letterAt : ∀ b, jx_bok 27 b = true
  | 0 => vb_Wo_letterAt_0
  | 1 => vb_Wo_letterAt_1
  | 2 => vb_Wo_letterAt_2
  | _ + 3 => rfl
theorem vb_Wo_remove_0 : jx_bok 28 0 = true := by decide +kernel
theorem vk_Wo_remove : ∀ b, jx_bok 28 b = true
  | 0 => vb_Wo_remove_0
  | _ + 1 => rfl
theorem vb_M_adds_0 : jx_bok 29 0 = true := by decide +kernel
theorem vk_M_adds : ∀ b, jx_bok 29 b = true
  | 0 => vb_M_adds_0
  | _ + 1 => rfl
theorem vb_M_clear_0 : jx_bok 30 0 = true := by decide +kernel
theorem vk_M_clear : ∀ b, jx_bok 30 b = true
  | 0 => vb_M_clear_0
  | _ + 1 => rfl
theorem vb_M_copies_0 : jx_bok 31 0 = true := by decide +kernel
theorem vb_M_copies_1 : jx_bok 31 1 = true := by decide +kernel
theorem vb_M_copies_2 : jx_bok 31 2 = true := by decide +kernel
theorem vk_M_copies : ∀ b, jx_bok 31 b = true
  | 0 => vb_M_copies_0
  | 1 => vb_M_copies_1
  | 2 => vb_M_copies_2
  | _ + 3 => rfl
theorem vb_M_freeSlot_0 : jx_bok 32 0 = true := by decide +kernel
theorem vb_M_freeSlot_1 : jx_bok 32 1 = true := by decide +kernel
theorem vb_M_freeSlot_2 : jx_bok 32 2 = true := by decide +kernel
theorem vb_M_freeSlot_3 : jx_bok 32 3 = true := by decide +kernel
theorem vb_M_freeSlot_4 : jx_bok 32 4 = true := by decide +kernel
theorem vb_M_freeSlot_5 : jx_bok 32 5 = true := by decide +kernel
theorem vb_M_freeSlot_6 : jx_bok 32 6 = true := by decide +kernel
theorem vb_M_freeSlot_7 : jx_bok 32 7 = true := by decide +kernel
theorem vb_M_freeSlot_8 : jx_bok 32 8 = true := by decide +kernel
theorem vb_M_freeSlot_9 : jx_bok 32 9 = true := by decide +kernel
theorem vk_M_freeSlot : ∀ b, jx_bok 32 b = true
  | 0 => vb_M_freeSlot_0
  | 1 => vb_M_freeSlot_1
  | 2 => vb_M_freeSlot_2
  | 3 => vb_M_freeSlot_3
  | 4 => vb_M_freeSlot_4
  | 5 => vb_M_freeSlot_5
  | 6 => vb_M_freeSlot_6
  | 7 => vb_M_freeSlot_7
  | 8 => vb_M_freeSlot_8
  | 9 => vb_M_freeSlot_9
  | _ + 10 => rfl
theorem vb_M_highOf_0 : jx_bok 33 0 = true := by decide +kernel
theorem vb_M_highOf_1 : jx_bok 33 1 = true := by decide +kernel
theorem vb_M_highOf_2 : jx_bok 33 2 = true := by decide +kernel
theorem vk_M_highOf : ∀ b, jx_bok 33 b = true
  | 0 => vb_M_highOf_0
  | 1 => vb_M_highOf_1
  | 2 => vb_M_highOf_2
  | _ + 3 => rfl
theorem vb_M_in_0 : jx_bok 34 0 = true := by decide +kernel
theorem vb_M_in_1 : jx_bok 34 1 = true := by decide +kernel
theorem vb_M_in_2 : jx_bok 34 2 = true := by decide +kernel
theorem vk_M_in : ∀ b, jx_bok 34 b = true
  | 0 => vb_M_in_0
  | 1 => vb_M_in_1
  | 2 => vb_M_in_2
  | _ + 3 => rfl
theorem vb_M_leaves_0 : jx_bok 35 0 = true := by decide +kernel
theorem vb_M_leaves_1 : jx_bok 35 1 = true := by decide +kernel
theorem vb_M_leaves_2 : jx_bok 35 2 = true := by decide +kernel
theorem vk_M_leaves : ∀ b, jx_bok 35 b = true
  | 0 => vb_M_leaves_0
  | 1 => vb_M_leaves_1
  | 2 => vb_M_leaves_2
  | _ + 3 => rfl
theorem vb_M_letterOf_0 : jx_bok 36 0 = true := by decide +kernel
theorem vk_M_letterOf : ∀ b, jx_bok 36 b = true
  | 0 => vb_M_letterOf_0
  | _ + 1 => rfl
theorem vb_M_lowOf_0 : jx_bok 37 0 = true := by decide +kernel
theorem vb_M_lowOf_1 : jx_bok 37 1 = true := by decide +kernel
theorem vb_M_lowOf_2 : jx_bok 37 2 = true := by decide +kernel
theorem vk_M_lowOf : ∀ b, jx_bok 37 b = true
  | 0 => vb_M_lowOf_0
  | 1 => vb_M_lowOf_1
  | 2 => vb_M_lowOf_2
  | _ + 3 => rfl
theorem vb_M_nodeOf_0 : jx_bok 38 0 = true := by decide +kernel
theorem vb_M_nodeOf_1 : jx_bok 38 1 = true := by decide +kernel
theorem vb_M_nodeOf_2 : jx_bok 38 2 = true := by decide +kernel
theorem vb_M_nodeOf_3 : jx_bok 38 3 = true := by decide +kernel
theorem vb_M_nodeOf_4 : jx_bok 38 4 = true := by decide +kernel
theorem vb_M_nodeOf_5 : jx_bok 38 5 = true := by decide +kernel
theorem vb_M_nodeOf_6 : jx_bok 38 6 = true := by decide +kernel
theorem vb_M_nodeOf_7 : jx_bok 38 7 = true := by decide +kernel
theorem vb_M_nodeOf_8 : jx_bok 38 8 = true := by decide +kernel
theorem vb_M_nodeOf_9 : jx_bok 38 9 = true := by decide +kernel
theorem vk_M_nodeOf : ∀ b, jx_bok 38 b = true
  | 0 => vb_M_nodeOf_0
  | 1 => vb_M_nodeOf_1
  | 2 => vb_M_nodeOf_2
  | 3 => vb_M_nodeOf_3
  | 4 => vb_M_nodeOf_4
  | 5 => vb_M_nodeOf_5
  | 6 => vb_M_nodeOf_6
  | 7 => vb_M_nodeOf_7
  | 8 => vb_M_nodeOf_8
  | 9 => vb_M_nodeOf_9
  | _ + 10 => rfl
theorem vb_M_of_0 : jx_bok 39 0 = true := by decide +kernel
theorem vk_M_of : ∀ b, jx_bok 39 b = true
  | 0 => vb_M_of_0
  | _ + 1 => rfl
theorem vb_M_order_0 : jx_bok 40 0 = true := by decide +kernel
theorem vb_M_order_1 : jx_bok 40 1 = true := by decide +kernel
theorem vb_M_order_2 : jx_bok 40 2 = true := by decide +kernel
theorem vb_M_order_3 : jx_bok 40 3 = true := by decide +kernel
theorem vk_M_order : ∀ b, jx_bok 40 b = true
  | 0 => vb_M_order_0
  | 1 => vb_M_order_1
  | 2 => vb_M_order_2
  | 3 => vb_M_order_3
  | _ + 4 => rfl
