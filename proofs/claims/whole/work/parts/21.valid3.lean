theorem vb_M_placeOf_0 : jx_bok 97 0 = true := by decide +kernel
theorem vb_M_placeOf_1 : jx_bok 97 1 = true := by decide +kernel
theorem vb_M_placeOf_2 : jx_bok 97 2 = true := by decide +kernel
theorem vb_M_placeOf_3 : jx_bok 97 3 = true := by decide +kernel
theorem vk_M_placeOf : ∀ b, jx_bok 97 b = true
  | 0 => vb_M_placeOf_0
  | 1 => vb_M_placeOf_1
  | 2 => vb_M_placeOf_2
  | 3 => vb_M_placeOf_3
  | _ + 4 => rfl
theorem vb_M_possibleNow_0 : jx_bok 98 0 = true := by decide +kernel
theorem vk_M_possibleNow : ∀ b, jx_bok 98 b = true
  | 0 => vb_M_possibleNow_0
  | _ + 1 => rfl
theorem vb_M_readNow_0 : jx_bok 99 0 = true := by decide +kernel
theorem vb_M_readNow_1 : jx_bok 99 1 = true := by decide +kernel
theorem vb_M_readNow_2 : jx_bok 99 2 = true := by decide +kernel
theorem vk_M_readNow : ∀ b, jx_bok 99 b = true
  | 0 => vb_M_readNow_0
  | 1 => vb_M_readNow_1
  | 2 => vb_M_readNow_2
  | _ + 3 => rfl
theorem vb_M_records_0 : jx_bok 100 0 = true := by decide +kernel
theorem vb_M_records_1 : jx_bok 100 1 = true := by decide +kernel
theorem vb_M_records_2 : jx_bok 100 2 = true := by decide +kernel
theorem vb_M_records_3 : jx_bok 100 3 = true := by decide +kernel
theorem vb_M_records_4 : jx_bok 100 4 = true := by decide +kernel
theorem vb_M_records_5 : jx_bok 100 5 = true := by decide +kernel
theorem vb_M_records_6 : jx_bok 100 6 = true := by decide +kernel
theorem vb_M_records_7 : jx_bok 100 7 = true := by decide +kernel
theorem vb_M_records_8 : jx_bok 100 8 = true := by decide +kernel
theorem vb_M_records_9 : jx_bok 100 9 = true := by decide +kernel
theorem vb_M_records_10 : jx_bok 100 10 = true := by decide +kernel
theorem vb_M_records_11 : jx_bok 100 11 = true := by decide +kernel
theorem vb_M_records_12 : jx_bok 100 12 = true := by decide +kernel
theorem vb_M_records_13 : jx_bok 100 13 = true := by decide +kernel
theorem vb_M_records_14 : jx_bok 100 14 = true := by decide +kernel
theorem vb_M_records_15 : jx_bok 100 15 = true := by decide +kernel
theorem vb_M_records_16 : jx_bok 100 16 = true := by decide +kernel
theorem vk_M_records : ∀ b, jx_bok 100 b = true
  | 0 => vb_M_records_0
  | 1 => vb_M_records_1
  | 2 => vb_M_records_2
  | 3 => vb_M_records_3
  | 4 => vb_M_records_4
  | 5 => vb_M_records_5
  | 6 => vb_M_records_6
  | 7 => vb_M_records_7
  | 8 => vb_M_records_8
  | 9 => vb_M_records_9
  | 10 => vb_M_records_10
  | 11 => vb_M_records_11
  | 12 => vb_M_records_12
  | 13 => vb_M_records_13
  | 14 => vb_M_records_14
  | 15 => vb_M_records_15
  | 16 => vb_M_records_16
  | _ + 17 => rfl
theorem vb_M_starts_0 : jx_bok 101 0 = true := by decide +kernel
theorem vb_M_starts_1 : jx_bok 101 1 = true := by decide +kernel
theorem vb_M_starts_2 : jx_bok 101 2 = true := by decide +kernel
theorem vk_M_starts : ∀ b, jx_bok 101 b = true
  | 0 => vb_M_starts_0
  | 1 => vb_M_starts_1
  | 2 => vb_M_starts_2
  | _ + 3 => rfl
theorem vb_M_type_0 : jx_bok 102 0 = true := by decide +kernel
theorem vb_M_type_1 : jx_bok 102 1 = true := by decide +kernel
theorem vb_M_type_2 : jx_bok 102 2 = true := by decide +kernel
theorem vk_M_type : ∀ b, jx_bok 102 b = true
  | 0 => vb_M_type_0
  | 1 => vb_M_type_1
  | 2 => vb_M_type_2
  | _ + 3 => rfl
theorem vb_T_told_0 : jx_bok 103 0 = true := by decide +kernel
theorem vb_T_told_1 : jx_bok 103 1 = true := by decide +kernel
theorem vb_T_told_2 : jx_bok 103 2 = true := by decide +kernel
theorem vb_T_told_3 : jx_bok 103 3 = true := by decide +kernel
theorem vb_T_told_4 : jx_bok 103 4 = true := by decide +kernel
theorem vb_T_told_5 : jx_bok 103 5 = true := by decide +kernel
theorem vb_T_told_6 : jx_bok 103 6 = true := by decide +kernel
theorem vb_T_told_7 : jx_bok 103 7 = true := by decide +kernel
theorem vb_T_told_8 : jx_bok 103 8 = true := by decide +kernel
theorem vb_T_told_9 : jx_bok 103 9 = true := by decide +kernel
theorem vb_T_told_10 : jx_bok 103 10 = true := by decide +kernel
theorem vb_T_told_11 : jx_bok 103 11 = true := by decide +kernel
theorem vb_T_told_12 : jx_bok 103 12 = true := by decide +kernel
theorem vb_T_told_13 : jx_bok 103 13 = true := by decide +kernel
theorem vk_T_told : ∀ b, jx_bok 103 b = true
  | 0 => vb_T_told_0
  | 1 => vb_T_told_1
  | 2 => vb_T_told_2
  | 3 => vb_T_told_3
  | 4 => vb_T_told_4
  | 5 => vb_T_told_5
  | 6 => vb_T_told_6
  | 7 => vb_T_told_7
  | 8 => vb_T_told_8
  | 9 => vb_T_told_9
  | 10 => vb_T_told_10
  | 11 => vb_T_told_11
  | 12 => vb_T_told_12
  | 13 => vb_T_told_13
  | _ + 14 => rfl
theorem vb_A_addChildren_0 : jx_bok 104 0 = true := by decide +kernel
theorem vb_A_addChildren_1 : jx_bok 104 1 = true := by decide +kernel
theorem vb_A_addChildren_2 : jx_bok 104 2 = true := by decide +kernel
theorem vb_A_addChildren_3 : jx_bok 104 3 = true := by decide +kernel
theorem vb_A_addChildren_4 : jx_bok 104 4 = true := by decide +kernel
theorem vb_A_addChildren_5 : jx_bok 104 5 = true := by decide +kernel
theorem vb_A_addChildren_6 : jx_bok 104 6 = true := by decide +kernel
theorem vb_A_addChildren_7 : jx_bok 104 7 = true := by decide +kernel
theorem vk_A_addChildren : ∀ b, jx_bok 104 b = true
  | 0 => vb_A_addChildren_0
  | 1 => vb_A_addChildren_1
  | 2 => vb_A_addChildren_2
  | 3 => vb_A_addChildren_3
  | 4 => vb_A_addChildren_4
  | 5 => vb_A_addChildren_5
  | 6 => vb_A_addChildren_6
  | 7 => vb_A_addChildren_7
  | _ + 8 => rfl
theorem vb_A_fewestLettersToWord_0 : jx_bok 105 0 = true := by decide +kernel
theorem vb_A_fewestLettersToWord_1 : jx_bok 105 1 = true := by decide +kernel
theorem vb_A_fewestLettersToWord_2 : jx_bok 105 2 = true := by decide +kernel
theorem vb_A_fewestLettersToWord_3 : jx_bok 105 3 = true := by decide +kernel
theorem vk_A_fewestLettersToWord : ∀ b, jx_bok 105 b = true
  | 0 => vb_A_fewestLettersToWord_0
  | 1 => vb_A_fewestLettersToWord_1
  | 2 => vb_A_fewestLettersToWord_2
  | 3 => vb_A_fewestLettersToWord_3
  | _ + 4 => rfl
theorem vb_A_spread_0 : jx_bok 106 0 = true := by decide +kernel
theorem vb_A_spread_1 : jx_bok 106 1 = true := by decide +kernel
theorem vb_A_spread_2 : jx_bok 106 2 = true := by decide +kernel
theorem vb_A_spread_3 : jx_bok 106 3 = true := by decide +kernel
theorem vk_A_spread : ∀ b, jx_bok 106 b = true
  | 0 => vb_A_spread_0
  | 1 => vb_A_spread_1
  | 2 => vb_A_spread_2
  | 3 => vb_A_spread_3
  | _ + 4 => rfl
theorem vb_Fl_init_0 : jx_bok 107 0 = true := by decide +kernel
theorem vk_Fl_init : ∀ b, jx_bok 107 b = true
  | 0 => vb_Fl_init_0
  | _ + 1 => rfl
theorem vb_Fl_begin_0 : jx_bok 108 0 = true := by decide +kernel
theorem vb_Fl_begin_1 : jx_bok 108 1 = true := by decide +kernel
theorem vb_Fl_begin_2 : jx_bok 108 2 = true := by decide +kernel
theorem vk_Fl_begin : ∀ b, jx_bok 108 b = true
  | 0 => vb_Fl_begin_0
  | 1 => vb_Fl_begin_1
  | 2 => vb_Fl_begin_2
  | _ + 3 => rfl
theorem vb_Fl_chosenByte_0 : jx_bok 109 0 = true := by decide +kernel
theorem vb_Fl_chosenByte_1 : jx_bok 109 1 = true := by decide +kernel
theorem vk_Fl_chosenByte : ∀ b, jx_bok 109 b = true
  | 0 => vb_Fl_chosenByte_0
  | 1 => vb_Fl_chosenByte_1
  | _ + 2 => rfl
theorem vb_Fl_isDisputed_0 : jx_bok 110 0 = true := by decide +kernel
theorem vb_Fl_isDisputed_1 : jx_bok 110 1 = true := by decide +kernel
theorem vb_Fl_isDisputed_2 : jx_bok 110 2 = true := by decide +kernel
theorem vb_Fl_isDisputed_3 : jx_bok 110 3 = true := by decide +kernel
theorem vk_Fl_isDisputed : ∀ b, jx_bok 110 b = true
  | 0 => vb_Fl_isDisputed_0
  | 1 => vb_Fl_isDisputed_1
  | 2 => vb_Fl_isDisputed_2
  | 3 => vb_Fl_isDisputed_3
  | _ + 4 => rfl
theorem vb_R_release_0 : jx_bok 111 0 = true := by decide +kernel
theorem vb_R_release_1 : jx_bok 111 1 = true := by decide +kernel
theorem vb_R_release_2 : jx_bok 111 2 = true := by decide +kernel
theorem vk_R_release : ∀ b, jx_bok 111 b = true
  | 0 => vb_R_release_0
  | 1 => vb_R_release_1
  | 2 => vb_R_release_2
  | _ + 3 => rfl
theorem vb_Sg_add_0 : jx_bok 112 0 = true := by decide +kernel
theorem vb_Sg_add_1 : jx_bok 112 1 = true := by decide +kernel
theorem vb_Sg_add_2 : jx_bok 112 2 = true := by decide +kernel
theorem vk_Sg_add : ∀ b, jx_bok 112 b = true
  | 0 => vb_Sg_add_0
  | 1 => vb_Sg_add_1
  | 2 => vb_Sg_add_2
  | _ + 3 => rfl
theorem vb_Sg_coveredFrom_0 : jx_bok 113 0 = true := by decide +kernel
theorem vb_Sg_coveredFrom_1 : jx_bok 113 1 = true := by decide +kernel
theorem vb_Sg_coveredFrom_2 : jx_bok 113 2 = true := by decide +kernel
theorem vb_Sg_coveredFrom_3 : jx_bok 113 3 = true := by decide +kernel
theorem vb_Sg_coveredFrom_4 : jx_bok 113 4 = true := by decide +kernel
theorem vb_Sg_coveredFrom_5 : jx_bok 113 5 = true := by decide +kernel
theorem vk_Sg_coveredFrom : ∀ b, jx_bok 113 b = true
  | 0 => vb_Sg_coveredFrom_0
  | 1 => vb_Sg_coveredFrom_1
  | 2 => vb_Sg_coveredFrom_2
  | 3 => vb_Sg_coveredFrom_3
  | 4 => vb_Sg_coveredFrom_4
  | 5 => vb_Sg_coveredFrom_5
  | _ + 6 => rfl
theorem vb_Sg_dropBefore_0 : jx_bok 114 0 = true := by decide +kernel
theorem vb_Sg_dropBefore_1 : jx_bok 114 1 = true := by decide +kernel
theorem vb_Sg_dropBefore_2 : jx_bok 114 2 = true := by decide +kernel
theorem vb_Sg_dropBefore_3 : jx_bok 114 3 = true := by decide +kernel
theorem vb_Sg_dropBefore_4 : jx_bok 114 4 = true := by decide +kernel
theorem vb_Sg_dropBefore_5 : jx_bok 114 5 = true := by decide +kernel
theorem vk_Sg_dropBefore : ∀ b, jx_bok 114 b = true
  | 0 => vb_Sg_dropBefore_0
  | 1 => vb_Sg_dropBefore_1
  | 2 => vb_Sg_dropBefore_2
  | 3 => vb_Sg_dropBefore_3
  | 4 => vb_Sg_dropBefore_4
  | 5 => vb_Sg_dropBefore_5
  | _ + 6 => rfl
theorem vb_M_asked_0 : jx_bok 115 0 = true := by decide +kernel
theorem vb_M_asked_1 : jx_bok 115 1 = true := by decide +kernel
theorem vb_M_asked_2 : jx_bok 115 2 = true := by decide +kernel
theorem vb_M_asked_3 : jx_bok 115 3 = true := by decide +kernel
theorem vk_M_asked : ∀ b, jx_bok 115 b = true
  | 0 => vb_M_asked_0
  | 1 => vb_M_asked_1
  | 2 => vb_M_asked_2
  | 3 => vb_M_asked_3
  | _ + 4 => rfl
theorem vb_M_chosen_0 : jx_bok 116 0 = true := by decide +kernel
theorem vb_M_chosen_1 : jx_bok 116 1 = true := by decide +kernel
theorem vb_M_chosen_2 : jx_bok 116 2 = true := by decide +kernel
theorem vb_M_chosen_3 : jx_bok 116 3 = true := by decide +kernel
theorem vb_M_chosen_4 : jx_bok 116 4 = true := by decide +kernel
theorem vk_M_chosen : ∀ b, jx_bok 116 b = true
  | 0 => vb_M_chosen_0
  | 1 => vb_M_chosen_1
  | 2 => vb_M_chosen_2
  | 3 => vb_M_chosen_3
  | 4 => vb_M_chosen_4
  | _ + 5 => rfl
theorem vb_M_isConflict_0 : jx_bok 117 0 = true := by decide +kernel
theorem vb_M_isConflict_1 : jx_bok 117 1 = true := by decide +kernel
theorem vb_M_isConflict_2 : jx_bok 117 2 = true := by decide +kernel
theorem vb_M_isConflict_3 : jx_bok 117 3 = true := by decide +kernel
theorem vb_M_isConflict_4 : jx_bok 117 4 = true := by decide +kernel
theorem vb_M_isConflict_5 : jx_bok 117 5 = true := by decide +kernel
theorem vb_M_isConflict_6 : jx_bok 117 6 = true := by decide +kernel
theorem vk_M_isConflict : ∀ b, jx_bok 117 b = true
  | 0 => vb_M_isConflict_0
  | 1 => vb_M_isConflict_1
  | 2 => vb_M_isConflict_2
  | 3 => vb_M_isConflict_3
  | 4 => vb_M_isConflict_4
  | 5 => vb_M_isConflict_5
  | 6 => vb_M_isConflict_6
  | _ + 7 => rfl
theorem vb_M_lays_0 : jx_bok 118 0 = true := by decide +kernel
theorem vb_M_lays_1 : jx_bok 118 1 = true := by decide +kernel
theorem vb_M_lays_2 : jx_bok 118 2 = true := by decide +kernel
theorem vb_M_lays_3 : jx_bok 118 3 = true := by decide +kernel
theorem vb_M_lays_4 : jx_bok 118 4 = true := by decide +kernel
theorem vb_M_lays_5 : jx_bok 118 5 = true := by decide +kernel
theorem vb_M_lays_6 : jx_bok 118 6 = true := by decide +kernel
theorem vb_M_lays_7 : jx_bok 118 7 = true := by decide +kernel
theorem vb_M_lays_8 : jx_bok 118 8 = true := by decide +kernel
theorem vb_M_lays_9 : jx_bok 118 9 = true := by decide +kernel
theorem vb_M_lays_10 : jx_bok 118 10 = true := by decide +kernel
theorem vb_M_lays_11 : jx_bok 118 11 = true := by decide +kernel
theorem vb_M_lays_12 : jx_bok 118 12 = true := by decide +kernel
theorem vb_M_lays_13 : jx_bok 118 13 = true := by decide +kernel
theorem vb_M_lays_14 : jx_bok 118 14 = true := by decide +kernel
theorem vb_M_lays_15 : jx_bok 118 15 = true := by decide +kernel
theorem vb_M_lays_16 : jx_bok 118 16 = true := by decide +kernel
theorem vb_M_lays_17 : jx_bok 118 17 = true := by decide +kernel
theorem vb_M_lays_18 : jx_bok 118 18 = true := by decide +kernel
theorem vk_M_lays : ∀ b, jx_bok 118 b = true
  | 0 => vb_M_lays_0
  | 1 => vb_M_lays_1
  | 2 => vb_M_lays_2
  | 3 => vb_M_lays_3
  | 4 => vb_M_lays_4
  | 5 => vb_M_lays_5
  | 6 => vb_M_lays_6
  | 7 => vb_M_lays_7
  | 8 => vb_M_lays_8
  | 9 => vb_M_lays_9
  | 10 => vb_M_lays_10
  | 11 => vb_M_lays_11
  | 12 => vb_M_lays_12
  | 13 => vb_M_lays_13
  | 14 => vb_M_lays_14
  | 15 => vb_M_lays_15
  | 16 => vb_M_lays_16
  | 17 => vb_M_lays_17
  | 18 => vb_M_lays_18
  | _ + 19 => rfl
