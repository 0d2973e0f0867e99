theorem vb_M_others_0 : jx_bok 139 0 = true := by decide +kernel
theorem vb_M_others_1 : jx_bok 139 1 = true := by decide +kernel
theorem vb_M_others_2 : jx_bok 139 2 = true := by decide +kernel
theorem vk_M_others : ∀ b, jx_bok 139 b = true
  | 0 => vb_M_others_0
  | 1 => vb_M_others_1
  | 2 => vb_M_others_2
  | _ + 3 => rfl
theorem vb_M_possible_0 : jx_bok 140 0 = true := by decide +kernel
theorem vb_M_possible_1 : jx_bok 140 1 = true := by decide +kernel
theorem vk_M_possible : ∀ b, jx_bok 140 b = true
  | 0 => vb_M_possible_0
  | 1 => vb_M_possible_1
  | _ + 2 => rfl
theorem vb_M_read_0 : jx_bok 141 0 = true := by decide +kernel
theorem vb_M_read_1 : jx_bok 141 1 = true := by decide +kernel
theorem vb_M_read_2 : jx_bok 141 2 = true := by decide +kernel
theorem vb_M_read_3 : jx_bok 141 3 = true := by decide +kernel
theorem vk_M_read : ∀ b, jx_bok 141 b = true
  | 0 => vb_M_read_0
  | 1 => vb_M_read_1
  | 2 => vb_M_read_2
  | 3 => vb_M_read_3
  | _ + 4 => rfl
theorem vb_M_reads_0 : jx_bok 142 0 = true := by decide +kernel
theorem vb_M_reads_1 : jx_bok 142 1 = true := by decide +kernel
theorem vb_M_reads_2 : jx_bok 142 2 = true := by decide +kernel
theorem vb_M_reads_3 : jx_bok 142 3 = true := by decide +kernel
theorem vb_M_reads_4 : jx_bok 142 4 = true := by decide +kernel
theorem vb_M_reads_5 : jx_bok 142 5 = true := by decide +kernel
theorem vb_M_reads_6 : jx_bok 142 6 = true := by decide +kernel
theorem vb_M_reads_7 : jx_bok 142 7 = true := by decide +kernel
theorem vb_M_reads_8 : jx_bok 142 8 = true := by decide +kernel
theorem vb_M_reads_9 : jx_bok 142 9 = true := by decide +kernel
theorem vb_M_reads_10 : jx_bok 142 10 = true := by decide +kernel
theorem vb_M_reads_11 : jx_bok 142 11 = true := by decide +kernel
theorem vb_M_reads_12 : jx_bok 142 12 = true := by decide +kernel
theorem vb_M_reads_13 : jx_bok 142 13 = true := by decide +kernel
theorem vb_M_reads_14 : jx_bok 142 14 = true := by decide +kernel
theorem vb_M_reads_15 : jx_bok 142 15 = true := by decide +kernel
theorem vk_M_reads : ∀ b, jx_bok 142 b = true
  | 0 => vb_M_reads_0
  | 1 => vb_M_reads_1
  | 2 => vb_M_reads_2
  | 3 => vb_M_reads_3
  | 4 => vb_M_reads_4
  | 5 => vb_M_reads_5
  | 6 => vb_M_reads_6
  | 7 => vb_M_reads_7
  | 8 => vb_M_reads_8
  | 9 => vb_M_reads_9
  | 10 => vb_M_reads_10
  | 11 => vb_M_reads_11
  | 12 => vb_M_reads_12
  | 13 => vb_M_reads_13
  | 14 => vb_M_reads_14
  | 15 => vb_M_reads_15
  | _ + 16 => rfl
theorem vb_M_undo_0 : jx_bok 143 0 = true := by decide +kernel
theorem vb_M_undo_1 : jx_bok 143 1 = true := by decide +kernel
theorem vk_M_undo : ∀ b, jx_bok 143 b = true
  | 0 => vb_M_undo_0
  | 1 => vb_M_undo_1
  | _ + 2 => rfl
theorem vb_T_init_0 : jx_bok 144 0 = true := by decide +kernel
theorem vb_T_init_1 : jx_bok 144 1 = true := by decide +kernel
theorem vb_T_init_2 : jx_bok 144 2 = true := by decide +kernel
theorem vb_T_init_3 : jx_bok 144 3 = true := by decide +kernel
theorem vb_T_init_4 : jx_bok 144 4 = true := by decide +kernel
theorem vb_T_init_5 : jx_bok 144 5 = true := by decide +kernel
theorem vb_T_init_6 : jx_bok 144 6 = true := by decide +kernel
theorem vb_T_init_7 : jx_bok 144 7 = true := by decide +kernel
theorem vb_T_init_8 : jx_bok 144 8 = true := by decide +kernel
theorem vb_T_init_9 : jx_bok 144 9 = true := by decide +kernel
theorem vb_T_init_10 : jx_bok 144 10 = true := by decide +kernel
theorem vb_T_init_11 : jx_bok 144 11 = true := by decide +kernel
theorem vk_T_init : ∀ b, jx_bok 144 b = true
  | 0 => vb_T_init_0
  | 1 => vb_T_init_1
  | 2 => vb_T_init_2
  | 3 => vb_T_init_3
  | 4 => vb_T_init_4
  | 5 => vb_T_init_5
  | 6 => vb_T_init_6
  | 7 => vb_T_init_7
  | 8 => vb_T_init_8
  | 9 => vb_T_init_9
  | 10 => vb_T_init_10
  | 11 => vb_T_init_11
  | _ + 12 => rfl
theorem vb_T_mixedWithFlow_0 : jx_bok 145 0 = true := by decide +kernel
theorem vb_T_mixedWithFlow_1 : jx_bok 145 1 = true := by decide +kernel
theorem vb_T_mixedWithFlow_2 : jx_bok 145 2 = true := by decide +kernel
theorem vb_T_mixedWithFlow_3 : jx_bok 145 3 = true := by decide +kernel
theorem vb_T_mixedWithFlow_4 : jx_bok 145 4 = true := by decide +kernel
theorem vb_T_mixedWithFlow_5 : jx_bok 145 5 = true := by decide +kernel
theorem vb_T_mixedWithFlow_6 : jx_bok 145 6 = true := by decide +kernel
theorem vk_T_mixedWithFlow : ∀ b, jx_bok 145 b = true
  | 0 => vb_T_mixedWithFlow_0
  | 1 => vb_T_mixedWithFlow_1
  | 2 => vb_T_mixedWithFlow_2
  | 3 => vb_T_mixedWithFlow_3
  | 4 => vb_T_mixedWithFlow_4
  | 5 => vb_T_mixedWithFlow_5
  | 6 => vb_T_mixedWithFlow_6
  | _ + 7 => rfl
theorem vb_T_property_0 : jx_bok 146 0 = true := by decide +kernel
theorem vb_T_property_1 : jx_bok 146 1 = true := by decide +kernel
theorem vb_T_property_2 : jx_bok 146 2 = true := by decide +kernel
theorem vb_T_property_3 : jx_bok 146 3 = true := by decide +kernel
theorem vb_T_property_4 : jx_bok 146 4 = true := by decide +kernel
theorem vk_T_property : ∀ b, jx_bok 146 b = true
  | 0 => vb_T_property_0
  | 1 => vb_T_property_1
  | 2 => vb_T_property_2
  | 3 => vb_T_property_3
  | 4 => vb_T_property_4
  | _ + 5 => rfl
theorem vb_T_undo_0 : jx_bok 147 0 = true := by decide +kernel
theorem vb_T_undo_1 : jx_bok 147 1 = true := by decide +kernel
theorem vb_T_undo_2 : jx_bok 147 2 = true := by decide +kernel
theorem vk_T_undo : ∀ b, jx_bok 147 b = true
  | 0 => vb_T_undo_0
  | 1 => vb_T_undo_1
  | 2 => vb_T_undo_2
  | _ + 3 => rfl
theorem vb_T_wordsChanged_0 : jx_bok 148 0 = true := by decide +kernel
theorem vb_T_wordsChanged_1 : jx_bok 148 1 = true := by decide +kernel
theorem vb_T_wordsChanged_2 : jx_bok 148 2 = true := by decide +kernel
theorem vk_T_wordsChanged : ∀ b, jx_bok 148 b = true
  | 0 => vb_T_wordsChanged_0
  | 1 => vb_T_wordsChanged_1
  | 2 => vb_T_wordsChanged_2
  | _ + 3 => rfl
theorem vb_Fl_copyFrom_0 : jx_bok 149 0 = true := by decide +kernel
theorem vb_Fl_copyFrom_1 : jx_bok 149 1 = true := by decide +kernel
theorem vb_Fl_copyFrom_2 : jx_bok 149 2 = true := by decide +kernel
theorem vk_Fl_copyFrom : ∀ b, jx_bok 149 b = true
  | 0 => vb_Fl_copyFrom_0
  | 1 => vb_Fl_copyFrom_1
  | 2 => vb_Fl_copyFrom_2
  | _ + 3 => rfl
theorem vb_Fl_deliver_0 : jx_bok 150 0 = true := by decide +kernel
theorem vb_Fl_deliver_1 : jx_bok 150 1 = true := by decide +kernel
theorem vb_Fl_deliver_2 : jx_bok 150 2 = true := by decide +kernel
theorem vb_Fl_deliver_3 : jx_bok 150 3 = true := by decide +kernel
theorem vk_Fl_deliver : ∀ b, jx_bok 150 b = true
  | 0 => vb_Fl_deliver_0
  | 1 => vb_Fl_deliver_1
  | 2 => vb_Fl_deliver_2
  | 3 => vb_Fl_deliver_3
  | _ + 4 => rfl
theorem vb_Fl_skipGap_0 : jx_bok 151 0 = true := by decide +kernel
theorem vk_Fl_skipGap : ∀ b, jx_bok 151 b = true
  | 0 => vb_Fl_skipGap_0
  | _ + 1 => rfl
theorem vb_M_byteAt_0 : jx_bok 152 0 = true := by decide +kernel
theorem vb_M_byteAt_1 : jx_bok 152 1 = true := by decide +kernel
theorem vb_M_byteAt_2 : jx_bok 152 2 = true := by decide +kernel
theorem vb_M_byteAt_3 : jx_bok 152 3 = true := by decide +kernel
theorem vk_M_byteAt : ∀ b, jx_bok 152 b = true
  | 0 => vb_M_byteAt_0
  | 1 => vb_M_byteAt_1
  | 2 => vb_M_byteAt_2
  | 3 => vb_M_byteAt_3
  | _ + 4 => rfl
theorem vb_M_character_0 : jx_bok 153 0 = true := by decide +kernel
theorem vb_M_character_1 : jx_bok 153 1 = true := by decide +kernel
theorem vb_M_character_2 : jx_bok 153 2 = true := by decide +kernel
theorem vb_M_character_3 : jx_bok 153 3 = true := by decide +kernel
theorem vb_M_character_4 : jx_bok 153 4 = true := by decide +kernel
theorem vb_M_character_5 : jx_bok 153 5 = true := by decide +kernel
theorem vb_M_character_6 : jx_bok 153 6 = true := by decide +kernel
theorem vb_M_character_7 : jx_bok 153 7 = true := by decide +kernel
theorem vk_M_character : ∀ b, jx_bok 153 b = true
  | 0 => vb_M_character_0
  | 1 => vb_M_character_1
  | 2 => vb_M_character_2
  | 3 => vb_M_character_3
  | 4 => vb_M_character_4
  | 5 => vb_M_character_5
  | 6 => vb_M_character_6
  | 7 => vb_M_character_7
  | _ + 8 => rfl
theorem vb_M_define_0 : jx_bok 154 0 = true := by decide +kernel
theorem vb_M_define_1 : jx_bok 154 1 = true := by decide +kernel
theorem vb_M_define_2 : jx_bok 154 2 = true := by decide +kernel
theorem vb_M_define_3 : jx_bok 154 3 = true := by decide +kernel
theorem vb_M_define_4 : jx_bok 154 4 = true := by decide +kernel
theorem vk_M_define : ∀ b, jx_bok 154 b = true
  | 0 => vb_M_define_0
  | 1 => vb_M_define_1
  | 2 => vb_M_define_2
  | 3 => vb_M_define_3
  | 4 => vb_M_define_4
  | _ + 5 => rfl
theorem vb_M_forget_0 : jx_bok 155 0 = true := by decide +kernel
theorem vb_M_forget_1 : jx_bok 155 1 = true := by decide +kernel
theorem vb_M_forget_2 : jx_bok 155 2 = true := by decide +kernel
theorem vk_M_forget : ∀ b, jx_bok 155 b = true
  | 0 => vb_M_forget_0
  | 1 => vb_M_forget_1
  | 2 => vb_M_forget_2
  | _ + 3 => rfl
theorem vb_M_propertyNow_0 : jx_bok 156 0 = true := by decide +kernel
theorem vb_M_propertyNow_1 : jx_bok 156 1 = true := by decide +kernel
theorem vb_M_propertyNow_2 : jx_bok 156 2 = true := by decide +kernel
theorem vb_M_propertyNow_3 : jx_bok 156 3 = true := by decide +kernel
theorem vb_M_propertyNow_4 : jx_bok 156 4 = true := by decide +kernel
theorem vb_M_propertyNow_5 : jx_bok 156 5 = true := by decide +kernel
theorem vb_M_propertyNow_6 : jx_bok 156 6 = true := by decide +kernel
theorem vb_M_propertyNow_7 : jx_bok 156 7 = true := by decide +kernel
theorem vb_M_propertyNow_8 : jx_bok 156 8 = true := by decide +kernel
theorem vb_M_propertyNow_9 : jx_bok 156 9 = true := by decide +kernel
theorem vb_M_propertyNow_10 : jx_bok 156 10 = true := by decide +kernel
theorem vk_M_propertyNow : ∀ b, jx_bok 156 b = true
  | 0 => vb_M_propertyNow_0
  | 1 => vb_M_propertyNow_1
  | 2 => vb_M_propertyNow_2
  | 3 => vb_M_propertyNow_3
  | 4 => vb_M_propertyNow_4
  | 5 => vb_M_propertyNow_5
  | 6 => vb_M_propertyNow_6
  | 7 => vb_M_propertyNow_7
  | 8 => vb_M_propertyNow_8
  | 9 => vb_M_propertyNow_9
  | 10 => vb_M_propertyNow_10
  | _ + 11 => rfl
theorem vb_T_digest_0 : jx_bok 157 0 = true := by decide +kernel
theorem vb_T_digest_1 : jx_bok 157 1 = true := by decide +kernel
theorem vb_T_digest_2 : jx_bok 157 2 = true := by decide +kernel
theorem vb_T_digest_3 : jx_bok 157 3 = true := by decide +kernel
theorem vb_T_digest_4 : jx_bok 157 4 = true := by decide +kernel
theorem vb_T_digest_5 : jx_bok 157 5 = true := by decide +kernel
theorem vb_T_digest_6 : jx_bok 157 6 = true := by decide +kernel
theorem vb_T_digest_7 : jx_bok 157 7 = true := by decide +kernel
theorem vb_T_digest_8 : jx_bok 157 8 = true := by decide +kernel
theorem vb_T_digest_9 : jx_bok 157 9 = true := by decide +kernel
theorem vb_T_digest_10 : jx_bok 157 10 = true := by decide +kernel
theorem vb_T_digest_11 : jx_bok 157 11 = true := by decide +kernel
theorem vb_T_digest_12 : jx_bok 157 12 = true := by decide +kernel
theorem vk_T_digest : ∀ b, jx_bok 157 b = true
  | 0 => vb_T_digest_0
  | 1 => vb_T_digest_1
  | 2 => vb_T_digest_2
  | 3 => vb_T_digest_3
  | 4 => vb_T_digest_4
  | 5 => vb_T_digest_5
  | 6 => vb_T_digest_6
  | 7 => vb_T_digest_7
  | 8 => vb_T_digest_8
  | 9 => vb_T_digest_9
  | 10 => vb_T_digest_10
  | 11 => vb_T_digest_11
  | 12 => vb_T_digest_12
  | _ + 13 => rfl
