theorem vb_M_pieceAt_0 : jx_bok 41 0 = true := by decide +kernel
theorem vk_M_pieceAt : ∀ b, jx_bok 41 b = true
  | 0 => vb_M_pieceAt_0
  | _ + 1 => rfl
theorem vb_M_put_0 : jx_bok 42 0 = true := by decide +kernel
theorem vk_M_put : ∀ b, jx_bok 42 b = true
  | 0 => vb_M_put_0
  | _ + 1 => rfl
theorem vb_M_slot_0 : jx_bok 43 0 = true := by decide +kernel
theorem vk_M_slot : ∀ b, jx_bok 43 b = true
  | 0 => vb_M_slot_0
  | _ + 1 => rfl
theorem vb_M_takes_0 : jx_bok 44 0 = true := by decide +kernel
theorem vb_M_takes_1 : jx_bok 44 1 = true := by decide +kernel
theorem vb_M_takes_2 : jx_bok 44 2 = true := by decide +kernel
theorem vk_M_takes : ∀ b, jx_bok 44 b = true
  | 0 => vb_M_takes_0
  | 1 => vb_M_takes_1
  | 2 => vb_M_takes_2
  | _ + 3 => rfl
theorem vb_M_wordLength_0 : jx_bok 45 0 = true := by decide +kernel
theorem vk_M_wordLength : ∀ b, jx_bok 45 b = true
  | 0 => vb_M_wordLength_0
  | _ + 1 => rfl
theorem vb_JI_bitCount_0 : jx_bok 46 0 = true := by decide +kernel
theorem vk_JI_bitCount : ∀ b, jx_bok 46 b = true
  | 0 => vb_JI_bitCount_0
  | _ + 1 => rfl
theorem vb_JL_bitCount_0 : jx_bok 47 0 = true := by decide +kernel
theorem vk_JL_bitCount : ∀ b, jx_bok 47 b = true
  | 0 => vb_JL_bitCount_0
  | _ + 1 => rfl
theorem vb_JA_fill_0 : jx_bok 48 0 = true := by decide +kernel
theorem vb_JA_fill_1 : jx_bok 48 1 = true := by decide +kernel
theorem vb_JA_fill_2 : jx_bok 48 2 = true := by decide +kernel
theorem vk_JA_fill : ∀ b, jx_bok 48 b = true
  | 0 => vb_JA_fill_0
  | 1 => vb_JA_fill_1
  | 2 => vb_JA_fill_2
  | _ + 3 => rfl
theorem vb_T_find_0 : jx_bok 49 0 = true := by decide +kernel
theorem vb_T_find_1 : jx_bok 49 1 = true := by decide +kernel
theorem vb_T_find_2 : jx_bok 49 2 = true := by decide +kernel
theorem vk_T_find : ∀ b, jx_bok 49 b = true
  | 0 => vb_T_find_0
  | 1 => vb_T_find_1
  | 2 => vb_T_find_2
  | _ + 3 => rfl
theorem vb_T_firstWrongByte_0 : jx_bok 50 0 = true := by decide +kernel
theorem vb_T_firstWrongByte_1 : jx_bok 50 1 = true := by decide +kernel
theorem vb_T_firstWrongByte_2 : jx_bok 50 2 = true := by decide +kernel
theorem vb_T_firstWrongByte_3 : jx_bok 50 3 = true := by decide +kernel
theorem vb_T_firstWrongByte_4 : jx_bok 50 4 = true := by decide +kernel
theorem vb_T_firstWrongByte_5 : jx_bok 50 5 = true := by decide +kernel
theorem vk_T_firstWrongByte : ∀ b, jx_bok 50 b = true
  | 0 => vb_T_firstWrongByte_0
  | 1 => vb_T_firstWrongByte_1
  | 2 => vb_T_firstWrongByte_2
  | 3 => vb_T_firstWrongByte_3
  | 4 => vb_T_firstWrongByte_4
  | 5 => vb_T_firstWrongByte_5
  | _ + 6 => rfl
theorem vb_T_letter_0 : jx_bok 51 0 = true := by decide +kernel
theorem vb_T_letter_1 : jx_bok 51 1 = true := by decide +kernel
theorem vb_T_letter_2 : jx_bok 51 2 = true := by decide +kernel
theorem vb_T_letter_3 : jx_bok 51 3 = true := by decide +kernel
theorem vb_T_letter_4 : jx_bok 51 4 = true := by decide +kernel
theorem vk_T_letter : ∀ b, jx_bok 51 b = true
  | 0 => vb_T_letter_0
  | 1 => vb_T_letter_1
  | 2 => vb_T_letter_2
  | 3 => vb_T_letter_3
  | 4 => vb_T_letter_4
  | _ + 5 => rfl
theorem vb_T_next_0 : jx_bok 52 0 = true := by decide +kernel
theorem vb_T_next_1 : jx_bok 52 1 = true := by decide +kernel
theorem vb_T_next_2 : jx_bok 52 2 = true := by decide +kernel
theorem vk_T_next : ∀ b, jx_bok 52 b = true
  | 0 => vb_T_next_0
  | 1 => vb_T_next_1
  | 2 => vb_T_next_2
  | _ + 3 => rfl
theorem vb_T_node_0 : jx_bok 53 0 = true := by decide +kernel
theorem vb_T_node_1 : jx_bok 53 1 = true := by decide +kernel
theorem vb_T_node_2 : jx_bok 53 2 = true := by decide +kernel
theorem vb_T_node_3 : jx_bok 53 3 = true := by decide +kernel
theorem vb_T_node_4 : jx_bok 53 4 = true := by decide +kernel
theorem vb_T_node_5 : jx_bok 53 5 = true := by decide +kernel
theorem vb_T_node_6 : jx_bok 53 6 = true := by decide +kernel
theorem vb_T_node_7 : jx_bok 53 7 = true := by decide +kernel
theorem vb_T_node_8 : jx_bok 53 8 = true := by decide +kernel
theorem vk_T_node : ∀ b, jx_bok 53 b = true
  | 0 => vb_T_node_0
  | 1 => vb_T_node_1
  | 2 => vb_T_node_2
  | 3 => vb_T_node_3
  | 4 => vb_T_node_4
  | 5 => vb_T_node_5
  | 6 => vb_T_node_6
  | 7 => vb_T_node_7
  | 8 => vb_T_node_8
  | _ + 9 => rfl
theorem vb_T_possible_0 : jx_bok 54 0 = true := by decide +kernel
theorem vb_T_possible_1 : jx_bok 54 1 = true := by decide +kernel
theorem vb_T_possible_2 : jx_bok 54 2 = true := by decide +kernel
theorem vb_T_possible_3 : jx_bok 54 3 = true := by decide +kernel
theorem vk_T_possible : ∀ b, jx_bok 54 b = true
  | 0 => vb_T_possible_0
  | 1 => vb_T_possible_1
  | 2 => vb_T_possible_2
  | 3 => vb_T_possible_3
  | _ + 4 => rfl
theorem vb_T_read_0 : jx_bok 55 0 = true := by decide +kernel
theorem vb_T_read_1 : jx_bok 55 1 = true := by decide +kernel
theorem vb_T_read_2 : jx_bok 55 2 = true := by decide +kernel
theorem vb_T_read_3 : jx_bok 55 3 = true := by decide +kernel
theorem vb_T_read_4 : jx_bok 55 4 = true := by decide +kernel
theorem vk_T_read : ∀ b, jx_bok 55 b = true
  | 0 => vb_T_read_0
  | 1 => vb_T_read_1
  | 2 => vb_T_read_2
  | 3 => vb_T_read_3
  | 4 => vb_T_read_4
  | _ + 5 => rfl
theorem vb_T_segmentError_0 : jx_bok 56 0 = true := by decide +kernel
theorem vb_T_segmentError_1 : jx_bok 56 1 = true := by decide +kernel
theorem vb_T_segmentError_2 : jx_bok 56 2 = true := by decide +kernel
theorem vb_T_segmentError_3 : jx_bok 56 3 = true := by decide +kernel
theorem vb_T_segmentError_4 : jx_bok 56 4 = true := by decide +kernel
theorem vb_T_segmentError_5 : jx_bok 56 5 = true := by decide +kernel
theorem vk_T_segmentError : ∀ b, jx_bok 56 b = true
  | 0 => vb_T_segmentError_0
  | 1 => vb_T_segmentError_1
  | 2 => vb_T_segmentError_2
  | 3 => vb_T_segmentError_3
  | 4 => vb_T_segmentError_4
  | 5 => vb_T_segmentError_5
  | _ + 6 => rfl
theorem vb_A_init_0 : jx_bok 57 0 = true := by decide +kernel
theorem vb_A_init_1 : jx_bok 57 1 = true := by decide +kernel
theorem vb_A_init_2 : jx_bok 57 2 = true := by decide +kernel
theorem vb_A_init_3 : jx_bok 57 3 = true := by decide +kernel
theorem vb_A_init_4 : jx_bok 57 4 = true := by decide +kernel
theorem vb_A_init_5 : jx_bok 57 5 = true := by decide +kernel
theorem vb_A_init_6 : jx_bok 57 6 = true := by decide +kernel
theorem vb_A_init_7 : jx_bok 57 7 = true := by decide +kernel
theorem vb_A_init_8 : jx_bok 57 8 = true := by decide +kernel
theorem vb_A_init_9 : jx_bok 57 9 = true := by decide +kernel
theorem vk_A_init : ∀ b, jx_bok 57 b = true
  | 0 => vb_A_init_0
  | 1 => vb_A_init_1
  | 2 => vb_A_init_2
  | 3 => vb_A_init_3
  | 4 => vb_A_init_4
  | 5 => vb_A_init_5
  | 6 => vb_A_init_6
  | 7 => vb_A_init_7
  | 8 => vb_A_init_8
  | 9 => vb_A_init_9
  | _ + 10 => rfl
theorem vb_A_added_0 : jx_bok 58 0 = true := by decide +kernel
theorem vk_A_added : ∀ b, jx_bok 58 b = true
  | 0 => vb_A_added_0
  | _ + 1 => rfl
theorem vb_A_link_0 : jx_bok 59 0 = true := by decide +kernel
theorem vb_A_link_1 : jx_bok 59 1 = true := by decide +kernel
theorem vb_A_link_2 : jx_bok 59 2 = true := by decide +kernel
theorem vb_A_link_3 : jx_bok 59 3 = true := by decide +kernel
theorem vb_A_link_4 : jx_bok 59 4 = true := by decide +kernel
theorem vb_A_link_5 : jx_bok 59 5 = true := by decide +kernel
theorem vk_A_link : ∀ b, jx_bok 59 b = true
  | 0 => vb_A_link_0
  | 1 => vb_A_link_1
  | 2 => vb_A_link_2
  | 3 => vb_A_link_3
  | 4 => vb_A_link_4
  | 5 => vb_A_link_5
  | _ + 6 => rfl
theorem vb_A_nextSetByAny_0 : jx_bok 60 0 = true := by decide +kernel
theorem vb_A_nextSetByAny_1 : jx_bok 60 1 = true := by decide +kernel
theorem vb_A_nextSetByAny_2 : jx_bok 60 2 = true := by decide +kernel
theorem vk_A_nextSetByAny : ∀ b, jx_bok 60 b = true
  | 0 => vb_A_nextSetByAny_0
  | 1 => vb_A_nextSetByAny_1
  | 2 => vb_A_nextSetByAny_2
  | _ + 3 => rfl
theorem vb_Fi_init_0 : jx_bok 61 0 = true := by decide +kernel
theorem vb_Fi_init_1 : jx_bok 61 1 = true := by decide +kernel
theorem vb_Fi_init_2 : jx_bok 61 2 = true := by decide +kernel
theorem vb_Fi_init_3 : jx_bok 61 3 = true := by decide +kernel
theorem vb_Fi_init_4 : jx_bok 61 4 = true := by decide +kernel
theorem vb_Fi_init_5 : jx_bok 61 5 = true := by decide +kernel
theorem vb_Fi_init_6 : jx_bok 61 6 = true := by decide +kernel
theorem vb_Fi_init_7 : jx_bok 61 7 = true := by decide +kernel
theorem vb_Fi_init_8 : jx_bok 61 8 = true := by decide +kernel
theorem vk_Fi_init : ∀ b, jx_bok 61 b = true
  | 0 => vb_Fi_init_0
  | 1 => vb_Fi_init_1
  | 2 => vb_Fi_init_2
  | 3 => vb_Fi_init_3
  | 4 => vb_Fi_init_4
  | 5 => vb_Fi_init_5
  | 6 => vb_Fi_init_6
  | 7 => vb_Fi_init_7
  | 8 => vb_Fi_init_8
  | _ + 9 => rfl
theorem vb_Fi_copyFrom_0 : jx_bok 62 0 = true := by decide +kernel
theorem vk_Fi_copyFrom : ∀ b, jx_bok 62 b = true
  | 0 => vb_Fi_copyFrom_0
  | _ + 1 => rfl
theorem vb_Fl_chosenPiece_0 : jx_bok 63 0 = true := by decide +kernel
theorem vb_Fl_chosenPiece_1 : jx_bok 63 1 = true := by decide +kernel
theorem vb_Fl_chosenPiece_2 : jx_bok 63 2 = true := by decide +kernel
theorem vb_Fl_chosenPiece_3 : jx_bok 63 3 = true := by decide +kernel
theorem vb_Fl_chosenPiece_4 : jx_bok 63 4 = true := by decide +kernel
theorem vk_Fl_chosenPiece : ∀ b, jx_bok 63 b = true
  | 0 => vb_Fl_chosenPiece_0
  | 1 => vb_Fl_chosenPiece_1
  | 2 => vb_Fl_chosenPiece_2
  | 3 => vb_Fl_chosenPiece_3
  | 4 => vb_Fl_chosenPiece_4
  | _ + 5 => rfl
theorem vb_R_init_0 : jx_bok 64 0 = true := by decide +kernel
theorem vk_R_init : ∀ b, jx_bok 64 b = true
  | 0 => vb_R_init_0
  | _ + 1 => rfl
theorem vb_R_begin_0 : jx_bok 65 0 = true := by decide +kernel
theorem vk_R_begin : ∀ b, jx_bok 65 b = true
  | 0 => vb_R_begin_0
  | _ + 1 => rfl
theorem vb_R_come_0 : jx_bok 66 0 = true := by decide +kernel
theorem vb_R_come_1 : jx_bok 66 1 = true := by decide +kernel
theorem vb_R_come_2 : jx_bok 66 2 = true := by decide +kernel
theorem vb_R_come_3 : jx_bok 66 3 = true := by decide +kernel
theorem vb_R_come_4 : jx_bok 66 4 = true := by decide +kernel
theorem vb_R_come_5 : jx_bok 66 5 = true := by decide +kernel
theorem vb_R_come_6 : jx_bok 66 6 = true := by decide +kernel
theorem vb_R_come_7 : jx_bok 66 7 = true := by decide +kernel
theorem vb_R_come_8 : jx_bok 66 8 = true := by decide +kernel
theorem vb_R_come_9 : jx_bok 66 9 = true := by decide +kernel
theorem vb_R_come_10 : jx_bok 66 10 = true := by decide +kernel
theorem vb_R_come_11 : jx_bok 66 11 = true := by decide +kernel
theorem vb_R_come_12 : jx_bok 66 12 = true := by decide +kernel
theorem vk_R_come : ∀ b, jx_bok 66 b = true
  | 0 => vb_R_come_0
  | 1 => vb_R_come_1
  | 2 => vb_R_come_2
  | 3 => vb_R_come_3
  | 4 => vb_R_come_4
  | 5 => vb_R_come_5
  | 6 => vb_R_come_6
  | 7 => vb_R_come_7
  | 8 => vb_R_come_8
  | 9 => vb_R_come_9
  | 10 => vb_R_come_10
  | 11 => vb_R_come_11
  | 12 => vb_R_come_12
  | _ + 13 => rfl
