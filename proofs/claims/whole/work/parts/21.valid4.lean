theorem vb_M_letter_0 : jx_bok 119 0 = true := by decide +kernel
theorem vb_M_letter_1 : jx_bok 119 1 = true := by decide +kernel
theorem vb_M_letter_2 : jx_bok 119 2 = true := by decide +kernel
theorem vb_M_letter_3 : jx_bok 119 3 = true := by decide +kernel
theorem vb_M_letter_4 : jx_bok 119 4 = true := by decide +kernel
theorem vb_M_letter_5 : jx_bok 119 5 = true := by decide +kernel
theorem vk_M_letter : ∀ b, jx_bok 119 b = true
  | 0 => vb_M_letter_0
  | 1 => vb_M_letter_1
  | 2 => vb_M_letter_2
  | 3 => vb_M_letter_3
  | 4 => vb_M_letter_4
  | 5 => vb_M_letter_5
  | _ + 6 => rfl
theorem vb_M_possibleMany_0 : jx_bok 120 0 = true := by decide +kernel
theorem vb_M_possibleMany_1 : jx_bok 120 1 = true := by decide +kernel
theorem vb_M_possibleMany_2 : jx_bok 120 2 = true := by decide +kernel
theorem vb_M_possibleMany_3 : jx_bok 120 3 = true := by decide +kernel
theorem vb_M_possibleMany_4 : jx_bok 120 4 = true := by decide +kernel
theorem vk_M_possibleMany : ∀ b, jx_bok 120 b = true
  | 0 => vb_M_possibleMany_0
  | 1 => vb_M_possibleMany_1
  | 2 => vb_M_possibleMany_2
  | 3 => vb_M_possibleMany_3
  | 4 => vb_M_possibleMany_4
  | _ + 5 => rfl
theorem vb_M_set_0 : jx_bok 121 0 = true := by decide +kernel
theorem vb_M_set_1 : jx_bok 121 1 = true := by decide +kernel
theorem vb_M_set_2 : jx_bok 121 2 = true := by decide +kernel
theorem vb_M_set_3 : jx_bok 121 3 = true := by decide +kernel
theorem vb_M_set_4 : jx_bok 121 4 = true := by decide +kernel
theorem vb_M_set_5 : jx_bok 121 5 = true := by decide +kernel
theorem vb_M_set_6 : jx_bok 121 6 = true := by decide +kernel
theorem vb_M_set_7 : jx_bok 121 7 = true := by decide +kernel
theorem vk_M_set : ∀ b, jx_bok 121 b = true
  | 0 => vb_M_set_0
  | 1 => vb_M_set_1
  | 2 => vb_M_set_2
  | 3 => vb_M_set_3
  | 4 => vb_M_set_4
  | 5 => vb_M_set_5
  | 6 => vb_M_set_6
  | 7 => vb_M_set_7
  | _ + 8 => rfl
theorem vb_M_steps_0 : jx_bok 122 0 = true := by decide +kernel
theorem vb_M_steps_1 : jx_bok 122 1 = true := by decide +kernel
theorem vb_M_steps_2 : jx_bok 122 2 = true := by decide +kernel
theorem vb_M_steps_3 : jx_bok 122 3 = true := by decide +kernel
theorem vk_M_steps : ∀ b, jx_bok 122 b = true
  | 0 => vb_M_steps_0
  | 1 => vb_M_steps_1
  | 2 => vb_M_steps_2
  | 3 => vb_M_steps_3
  | _ + 4 => rfl
theorem vb_M_told_0 : jx_bok 123 0 = true := by decide +kernel
theorem vb_M_told_1 : jx_bok 123 1 = true := by decide +kernel
theorem vb_M_told_2 : jx_bok 123 2 = true := by decide +kernel
theorem vb_M_told_3 : jx_bok 123 3 = true := by decide +kernel
theorem vb_M_told_4 : jx_bok 123 4 = true := by decide +kernel
theorem vb_M_told_5 : jx_bok 123 5 = true := by decide +kernel
theorem vb_M_told_6 : jx_bok 123 6 = true := by decide +kernel
theorem vb_M_told_7 : jx_bok 123 7 = true := by decide +kernel
theorem vb_M_told_8 : jx_bok 123 8 = true := by decide +kernel
theorem vb_M_told_9 : jx_bok 123 9 = true := by decide +kernel
theorem vb_M_told_10 : jx_bok 123 10 = true := by decide +kernel
theorem vb_M_told_11 : jx_bok 123 11 = true := by decide +kernel
theorem vk_M_told : ∀ b, jx_bok 123 b = true
  | 0 => vb_M_told_0
  | 1 => vb_M_told_1
  | 2 => vb_M_told_2
  | 3 => vb_M_told_3
  | 4 => vb_M_told_4
  | 5 => vb_M_told_5
  | 6 => vb_M_told_6
  | 7 => vb_M_told_7
  | 8 => vb_M_told_8
  | 9 => vb_M_told_9
  | 10 => vb_M_told_10
  | 11 => vb_M_told_11
  | _ + 12 => rfl
theorem vb_M_wrong_0 : jx_bok 124 0 = true := by decide +kernel
theorem vb_M_wrong_1 : jx_bok 124 1 = true := by decide +kernel
theorem vb_M_wrong_2 : jx_bok 124 2 = true := by decide +kernel
theorem vb_M_wrong_3 : jx_bok 124 3 = true := by decide +kernel
theorem vb_M_wrong_4 : jx_bok 124 4 = true := by decide +kernel
theorem vb_M_wrong_5 : jx_bok 124 5 = true := by decide +kernel
theorem vk_M_wrong : ∀ b, jx_bok 124 b = true
  | 0 => vb_M_wrong_0
  | 1 => vb_M_wrong_1
  | 2 => vb_M_wrong_2
  | 3 => vb_M_wrong_3
  | 4 => vb_M_wrong_4
  | 5 => vb_M_wrong_5
  | _ + 6 => rfl
theorem vb_T_byteAt_0 : jx_bok 125 0 = true := by decide +kernel
theorem vb_T_byteAt_1 : jx_bok 125 1 = true := by decide +kernel
theorem vb_T_byteAt_2 : jx_bok 125 2 = true := by decide +kernel
theorem vb_T_byteAt_3 : jx_bok 125 3 = true := by decide +kernel
theorem vb_T_byteAt_4 : jx_bok 125 4 = true := by decide +kernel
theorem vk_T_byteAt : ∀ b, jx_bok 125 b = true
  | 0 => vb_T_byteAt_0
  | 1 => vb_T_byteAt_1
  | 2 => vb_T_byteAt_2
  | 3 => vb_T_byteAt_3
  | 4 => vb_T_byteAt_4
  | _ + 5 => rfl
theorem vb_T_nearest_0 : jx_bok 126 0 = true := by decide +kernel
theorem vb_T_nearest_1 : jx_bok 126 1 = true := by decide +kernel
theorem vb_T_nearest_2 : jx_bok 126 2 = true := by decide +kernel
theorem vb_T_nearest_3 : jx_bok 126 3 = true := by decide +kernel
theorem vk_T_nearest : ∀ b, jx_bok 126 b = true
  | 0 => vb_T_nearest_0
  | 1 => vb_T_nearest_1
  | 2 => vb_T_nearest_2
  | 3 => vb_T_nearest_3
  | _ + 4 => rfl
theorem vb_A_build_0 : jx_bok 127 0 = true := by decide +kernel
theorem vb_A_build_1 : jx_bok 127 1 = true := by decide +kernel
theorem vb_A_build_2 : jx_bok 127 2 = true := by decide +kernel
theorem vb_A_build_3 : jx_bok 127 3 = true := by decide +kernel
theorem vb_A_build_4 : jx_bok 127 4 = true := by decide +kernel
theorem vb_A_build_5 : jx_bok 127 5 = true := by decide +kernel
theorem vb_A_build_6 : jx_bok 127 6 = true := by decide +kernel
theorem vb_A_build_7 : jx_bok 127 7 = true := by decide +kernel
theorem vb_A_build_8 : jx_bok 127 8 = true := by decide +kernel
theorem vk_A_build : ∀ b, jx_bok 127 b = true
  | 0 => vb_A_build_0
  | 1 => vb_A_build_1
  | 2 => vb_A_build_2
  | 3 => vb_A_build_3
  | 4 => vb_A_build_4
  | 5 => vb_A_build_5
  | 6 => vb_A_build_6
  | 7 => vb_A_build_7
  | 8 => vb_A_build_8
  | _ + 9 => rfl
theorem vb_Fl_end_0 : jx_bok 128 0 = true := by decide +kernel
theorem vk_Fl_end : ∀ b, jx_bok 128 b = true
  | 0 => vb_Fl_end_0
  | _ + 1 => rfl
theorem vb_Fl_tell_0 : jx_bok 129 0 = true := by decide +kernel
theorem vb_Fl_tell_1 : jx_bok 129 1 = true := by decide +kernel
theorem vb_Fl_tell_2 : jx_bok 129 2 = true := by decide +kernel
theorem vb_Fl_tell_3 : jx_bok 129 3 = true := by decide +kernel
theorem vb_Fl_tell_4 : jx_bok 129 4 = true := by decide +kernel
theorem vb_Fl_tell_5 : jx_bok 129 5 = true := by decide +kernel
theorem vb_Fl_tell_6 : jx_bok 129 6 = true := by decide +kernel
theorem vb_Fl_tell_7 : jx_bok 129 7 = true := by decide +kernel
theorem vb_Fl_tell_8 : jx_bok 129 8 = true := by decide +kernel
theorem vb_Fl_tell_9 : jx_bok 129 9 = true := by decide +kernel
theorem vb_Fl_tell_10 : jx_bok 129 10 = true := by decide +kernel
theorem vb_Fl_tell_11 : jx_bok 129 11 = true := by decide +kernel
theorem vb_Fl_tell_12 : jx_bok 129 12 = true := by decide +kernel
theorem vb_Fl_tell_13 : jx_bok 129 13 = true := by decide +kernel
theorem vb_Fl_tell_14 : jx_bok 129 14 = true := by decide +kernel
theorem vb_Fl_tell_15 : jx_bok 129 15 = true := by decide +kernel
theorem vb_Fl_tell_16 : jx_bok 129 16 = true := by decide +kernel
theorem vb_Fl_tell_17 : jx_bok 129 17 = true := by decide +kernel
theorem vb_Fl_tell_18 : jx_bok 129 18 = true := by decide +kernel
theorem vk_Fl_tell : ∀ b, jx_bok 129 b = true
  | 0 => vb_Fl_tell_0
  | 1 => vb_Fl_tell_1
  | 2 => vb_Fl_tell_2
  | 3 => vb_Fl_tell_3
  | 4 => vb_Fl_tell_4
  | 5 => vb_Fl_tell_5
  | 6 => vb_Fl_tell_6
  | 7 => vb_Fl_tell_7
  | 8 => vb_Fl_tell_8
  | 9 => vb_Fl_tell_9
  | 10 => vb_Fl_tell_10
  | 11 => vb_Fl_tell_11
  | 12 => vb_Fl_tell_12
  | 13 => vb_Fl_tell_13
  | 14 => vb_Fl_tell_14
  | 15 => vb_Fl_tell_15
  | 16 => vb_Fl_tell_16
  | 17 => vb_Fl_tell_17
  | 18 => vb_Fl_tell_18
  | _ + 19 => rfl
theorem vb_R_skip_0 : jx_bok 130 0 = true := by decide +kernel
theorem vk_R_skip : ∀ b, jx_bok 130 b = true
  | 0 => vb_R_skip_0
  | _ + 1 => rfl
theorem vb_R_take_0 : jx_bok 131 0 = true := by decide +kernel
theorem vb_R_take_1 : jx_bok 131 1 = true := by decide +kernel
theorem vb_R_take_2 : jx_bok 131 2 = true := by decide +kernel
theorem vb_R_take_3 : jx_bok 131 3 = true := by decide +kernel
theorem vb_R_take_4 : jx_bok 131 4 = true := by decide +kernel
theorem vb_R_take_5 : jx_bok 131 5 = true := by decide +kernel
theorem vk_R_take : ∀ b, jx_bok 131 b = true
  | 0 => vb_R_take_0
  | 1 => vb_R_take_1
  | 2 => vb_R_take_2
  | 3 => vb_R_take_3
  | 4 => vb_R_take_4
  | 5 => vb_R_take_5
  | _ + 6 => rfl
theorem vb_Sg_copyFrom_0 : jx_bok 132 0 = true := by decide +kernel
theorem vb_Sg_copyFrom_1 : jx_bok 132 1 = true := by decide +kernel
theorem vb_Sg_copyFrom_2 : jx_bok 132 2 = true := by decide +kernel
theorem vk_Sg_copyFrom : ∀ b, jx_bok 132 b = true
  | 0 => vb_Sg_copyFrom_0
  | 1 => vb_Sg_copyFrom_1
  | 2 => vb_Sg_copyFrom_2
  | _ + 3 => rfl
theorem vb_St_init_0 : jx_bok 133 0 = true := by decide +kernel
theorem vb_St_init_1 : jx_bok 133 1 = true := by decide +kernel
theorem vb_St_init_2 : jx_bok 133 2 = true := by decide +kernel
theorem vb_St_init_3 : jx_bok 133 3 = true := by decide +kernel
theorem vb_St_init_4 : jx_bok 133 4 = true := by decide +kernel
theorem vb_St_init_5 : jx_bok 133 5 = true := by decide +kernel
theorem vb_St_init_6 : jx_bok 133 6 = true := by decide +kernel
theorem vb_St_init_7 : jx_bok 133 7 = true := by decide +kernel
theorem vb_St_init_8 : jx_bok 133 8 = true := by decide +kernel
theorem vb_St_init_9 : jx_bok 133 9 = true := by decide +kernel
theorem vb_St_init_10 : jx_bok 133 10 = true := by decide +kernel
theorem vk_St_init : ∀ b, jx_bok 133 b = true
  | 0 => vb_St_init_0
  | 1 => vb_St_init_1
  | 2 => vb_St_init_2
  | 3 => vb_St_init_3
  | 4 => vb_St_init_4
  | 5 => vb_St_init_5
  | 6 => vb_St_init_6
  | 7 => vb_St_init_7
  | 8 => vb_St_init_8
  | 9 => vb_St_init_9
  | 10 => vb_St_init_10
  | _ + 11 => rfl
theorem vb_St_flowOfSegment_0 : jx_bok 134 0 = true := by decide +kernel
theorem vb_St_flowOfSegment_1 : jx_bok 134 1 = true := by decide +kernel
theorem vb_St_flowOfSegment_2 : jx_bok 134 2 = true := by decide +kernel
theorem vk_St_flowOfSegment : ∀ b, jx_bok 134 b = true
  | 0 => vb_St_flowOfSegment_0
  | 1 => vb_St_flowOfSegment_1
  | 2 => vb_St_flowOfSegment_2
  | _ + 3 => rfl
theorem vb_M_init_0 : jx_bok 135 0 = true := by decide +kernel
theorem vb_M_init_1 : jx_bok 135 1 = true := by decide +kernel
theorem vb_M_init_2 : jx_bok 135 2 = true := by decide +kernel
theorem vb_M_init_3 : jx_bok 135 3 = true := by decide +kernel
theorem vb_M_init_4 : jx_bok 135 4 = true := by decide +kernel
theorem vb_M_init_5 : jx_bok 135 5 = true := by decide +kernel
theorem vb_M_init_6 : jx_bok 135 6 = true := by decide +kernel
theorem vb_M_init_7 : jx_bok 135 7 = true := by decide +kernel
theorem vb_M_init_8 : jx_bok 135 8 = true := by decide +kernel
theorem vb_M_init_9 : jx_bok 135 9 = true := by decide +kernel
theorem vb_M_init_10 : jx_bok 135 10 = true := by decide +kernel
theorem vb_M_init_11 : jx_bok 135 11 = true := by decide +kernel
theorem vb_M_init_12 : jx_bok 135 12 = true := by decide +kernel
theorem vk_M_init : ∀ b, jx_bok 135 b = true
  | 0 => vb_M_init_0
  | 1 => vb_M_init_1
  | 2 => vb_M_init_2
  | 3 => vb_M_init_3
  | 4 => vb_M_init_4
  | 5 => vb_M_init_5
  | 6 => vb_M_init_6
  | 7 => vb_M_init_7
  | 8 => vb_M_init_8
  | 9 => vb_M_init_9
  | 10 => vb_M_init_10
  | 11 => vb_M_init_11
  | 12 => vb_M_init_12
  | _ + 13 => rfl
theorem vb_M_byteNow_0 : jx_bok 136 0 = true := by decide +kernel
theorem vb_M_byteNow_1 : jx_bok 136 1 = true := by decide +kernel
theorem vb_M_byteNow_2 : jx_bok 136 2 = true := by decide +kernel
theorem vk_M_byteNow : ∀ b, jx_bok 136 b = true
  | 0 => vb_M_byteNow_0
  | 1 => vb_M_byteNow_1
  | 2 => vb_M_byteNow_2
  | _ + 3 => rfl
theorem vb_M_covered_0 : jx_bok 137 0 = true := by decide +kernel
theorem vb_M_covered_1 : jx_bok 137 1 = true := by decide +kernel
theorem vb_M_covered_2 : jx_bok 137 2 = true := by decide +kernel
theorem vb_M_covered_3 : jx_bok 137 3 = true := by decide +kernel
theorem vb_M_covered_4 : jx_bok 137 4 = true := by decide +kernel
theorem vb_M_covered_5 : jx_bok 137 5 = true := by decide +kernel
theorem vb_M_covered_6 : jx_bok 137 6 = true := by decide +kernel
theorem vb_M_covered_7 : jx_bok 137 7 = true := by decide +kernel
theorem vb_M_covered_8 : jx_bok 137 8 = true := by decide +kernel
theorem vb_M_covered_9 : jx_bok 137 9 = true := by decide +kernel
theorem vb_M_covered_10 : jx_bok 137 10 = true := by decide +kernel
theorem vk_M_covered : ∀ b, jx_bok 137 b = true
  | 0 => vb_M_covered_0
  | 1 => vb_M_covered_1
  | 2 => vb_M_covered_2
  | 3 => vb_M_covered_3
  | 4 => vb_M_covered_4
  | 5 => vb_M_covered_5
  | 6 => vb_M_covered_6
  | 7 => vb_M_covered_7
  | 8 => vb_M_covered_8
  | 9 => vb_M_covered_9
  | 10 => vb_M_covered_10
  | _ + 11 => rfl
theorem vb_M_nearest_0 : jx_bok 138 0 = true := by decide +kernel
theorem vb_M_nearest_1 : jx_bok 138 1 = true := by decide +kernel
theorem vb_M_nearest_2 : jx_bok 138 2 = true := by decide +kernel
theorem vb_M_nearest_3 : jx_bok 138 3 = true := by decide +kernel
theorem vb_M_nearest_4 : jx_bok 138 4 = true := by decide +kernel
theorem vb_M_nearest_5 : jx_bok 138 5 = true := by decide +kernel
theorem vb_M_nearest_6 : jx_bok 138 6 = true := by decide +kernel
theorem vb_M_nearest_7 : jx_bok 138 7 = true := by decide +kernel
theorem vb_M_nearest_8 : jx_bok 138 8 = true := by decide +kernel
theorem vb_M_nearest_9 : jx_bok 138 9 = true := by decide +kernel
theorem vb_M_nearest_10 : jx_bok 138 10 = true := by decide +kernel
theorem vb_M_nearest_11 : jx_bok 138 11 = true := by decide +kernel
theorem vk_M_nearest : ∀ b, jx_bok 138 b = true
  | 0 => vb_M_nearest_0
  | 1 => vb_M_nearest_1
  | 2 => vb_M_nearest_2
  | 3 => vb_M_nearest_3
  | 4 => vb_M_nearest_4
  | 5 => vb_M_nearest_5
  | 6 => vb_M_nearest_6
  | 7 => vb_M_nearest_7
  | 8 => vb_M_nearest_8
  | 9 => vb_M_nearest_9
  | 10 => vb_M_nearest_10
  | 11 => vb_M_nearest_11
  | _ + 12 => rfl
