theorem vb_Fl_accept_0 : jx_bok 158 0 = true := by decide +kernel
theorem vb_Fl_accept_1 : jx_bok 158 1 = true := by decide +kernel
theorem vb_Fl_accept_2 : jx_bok 158 2 = true := by decide +kernel
theorem vb_Fl_accept_3 : jx_bok 158 3 = true := by decide +kernel
theorem vk_Fl_accept : ∀ b, jx_bok 158 b = true
  | 0 => vb_Fl_accept_0
  | 1 => vb_Fl_accept_1
  | 2 => vb_Fl_accept_2
  | 3 => vb_Fl_accept_3
  | _ + 4 => rfl
theorem vb_St_copyFrom_0 : jx_bok 159 0 = true := by decide +kernel
theorem vb_St_copyFrom_1 : jx_bok 159 1 = true := by decide +kernel
theorem vb_St_copyFrom_2 : jx_bok 159 2 = true := by decide +kernel
theorem vk_St_copyFrom : ∀ b, jx_bok 159 b = true
  | 0 => vb_St_copyFrom_0
  | 1 => vb_St_copyFrom_1
  | 2 => vb_St_copyFrom_2
  | _ + 3 => rfl
theorem vb_M_lets_0 : jx_bok 160 0 = true := by decide +kernel
theorem vb_M_lets_1 : jx_bok 160 1 = true := by decide +kernel
theorem vb_M_lets_2 : jx_bok 160 2 = true := by decide +kernel
theorem vk_M_lets : ∀ b, jx_bok 160 b = true
  | 0 => vb_M_lets_0
  | 1 => vb_M_lets_1
  | 2 => vb_M_lets_2
  | _ + 3 => rfl
theorem vb_M_mixedFlow_0 : jx_bok 161 0 = true := by decide +kernel
theorem vb_M_mixedFlow_1 : jx_bok 161 1 = true := by decide +kernel
theorem vb_M_mixedFlow_2 : jx_bok 161 2 = true := by decide +kernel
theorem vb_M_mixedFlow_3 : jx_bok 161 3 = true := by decide +kernel
theorem vb_M_mixedFlow_4 : jx_bok 161 4 = true := by decide +kernel
theorem vb_M_mixedFlow_5 : jx_bok 161 5 = true := by decide +kernel
theorem vb_M_mixedFlow_6 : jx_bok 161 6 = true := by decide +kernel
theorem vk_M_mixedFlow : ∀ b, jx_bok 161 b = true
  | 0 => vb_M_mixedFlow_0
  | 1 => vb_M_mixedFlow_1
  | 2 => vb_M_mixedFlow_2
  | 3 => vb_M_mixedFlow_3
  | 4 => vb_M_mixedFlow_4
  | 5 => vb_M_mixedFlow_5
  | 6 => vb_M_mixedFlow_6
  | _ + 7 => rfl
theorem vb_M_property_0 : jx_bok 162 0 = true := by decide +kernel
theorem vb_M_property_1 : jx_bok 162 1 = true := by decide +kernel
theorem vb_M_property_2 : jx_bok 162 2 = true := by decide +kernel
theorem vb_M_property_3 : jx_bok 162 3 = true := by decide +kernel
theorem vk_M_property : ∀ b, jx_bok 162 b = true
  | 0 => vb_M_property_0
  | 1 => vb_M_property_1
  | 2 => vb_M_property_2
  | 3 => vb_M_property_3
  | _ + 4 => rfl
theorem vb_T_handled_0 : jx_bok 163 0 = true := by decide +kernel
theorem vk_T_handled : ∀ b, jx_bok 163 b = true
  | 0 => vb_T_handled_0
  | _ + 1 => rfl
theorem vb_T_record_0 : jx_bok 164 0 = true := by decide +kernel
theorem vb_T_record_1 : jx_bok 164 1 = true := by decide +kernel
theorem vb_T_record_2 : jx_bok 164 2 = true := by decide +kernel
theorem vk_T_record : ∀ b, jx_bok 164 b = true
  | 0 => vb_T_record_0
  | 1 => vb_T_record_1
  | 2 => vb_T_record_2
  | _ + 3 => rfl
theorem vb_T_wordsBy_0 : jx_bok 165 0 = true := by decide +kernel
theorem vb_T_wordsBy_1 : jx_bok 165 1 = true := by decide +kernel
theorem vb_T_wordsBy_2 : jx_bok 165 2 = true := by decide +kernel
theorem vk_T_wordsBy : ∀ b, jx_bok 165 b = true
  | 0 => vb_T_wordsBy_0
  | 1 => vb_T_wordsBy_1
  | 2 => vb_T_wordsBy_2
  | _ + 3 => rfl
theorem vb_M_delivers_0 : jx_bok 166 0 = true := by decide +kernel
theorem vb_M_delivers_1 : jx_bok 166 1 = true := by decide +kernel
theorem vb_M_delivers_2 : jx_bok 166 2 = true := by decide +kernel
theorem vb_M_delivers_3 : jx_bok 166 3 = true := by decide +kernel
theorem vb_M_delivers_4 : jx_bok 166 4 = true := by decide +kernel
theorem vk_M_delivers : ∀ b, jx_bok 166 b = true
  | 0 => vb_M_delivers_0
  | 1 => vb_M_delivers_1
  | 2 => vb_M_delivers_2
  | 3 => vb_M_delivers_3
  | 4 => vb_M_delivers_4
  | _ + 5 => rfl
theorem vb_M_digest_0 : jx_bok 167 0 = true := by decide +kernel
theorem vb_M_digest_1 : jx_bok 167 1 = true := by decide +kernel
theorem vb_M_digest_2 : jx_bok 167 2 = true := by decide +kernel
theorem vb_M_digest_3 : jx_bok 167 3 = true := by decide +kernel
theorem vb_M_digest_4 : jx_bok 167 4 = true := by decide +kernel
theorem vb_M_digest_5 : jx_bok 167 5 = true := by decide +kernel
theorem vb_M_digest_6 : jx_bok 167 6 = true := by decide +kernel
theorem vb_M_digest_7 : jx_bok 167 7 = true := by decide +kernel
theorem vb_M_digest_8 : jx_bok 167 8 = true := by decide +kernel
theorem vb_M_digest_9 : jx_bok 167 9 = true := by decide +kernel
theorem vb_M_digest_10 : jx_bok 167 10 = true := by decide +kernel
theorem vb_M_digest_11 : jx_bok 167 11 = true := by decide +kernel
theorem vb_M_digest_12 : jx_bok 167 12 = true := by decide +kernel
theorem vk_M_digest : ∀ b, jx_bok 167 b = true
  | 0 => vb_M_digest_0
  | 1 => vb_M_digest_1
  | 2 => vb_M_digest_2
  | 3 => vb_M_digest_3
  | 4 => vb_M_digest_4
  | 5 => vb_M_digest_5
  | 6 => vb_M_digest_6
  | 7 => vb_M_digest_7
  | 8 => vb_M_digest_8
  | 9 => vb_M_digest_9
  | 10 => vb_M_digest_10
  | 11 => vb_M_digest_11
  | 12 => vb_M_digest_12
  | _ + 13 => rfl
theorem vb_M_finish_0 : jx_bok 168 0 = true := by decide +kernel
theorem vb_M_finish_1 : jx_bok 168 1 = true := by decide +kernel
theorem vk_M_finish : ∀ b, jx_bok 168 b = true
  | 0 => vb_M_finish_0
  | 1 => vb_M_finish_1
  | _ + 2 => rfl
theorem vb_M_gap_0 : jx_bok 169 0 = true := by decide +kernel
theorem vb_M_gap_1 : jx_bok 169 1 = true := by decide +kernel
theorem vb_M_gap_2 : jx_bok 169 2 = true := by decide +kernel
theorem vb_M_gap_3 : jx_bok 169 3 = true := by decide +kernel
theorem vb_M_gap_4 : jx_bok 169 4 = true := by decide +kernel
theorem vb_M_gap_5 : jx_bok 169 5 = true := by decide +kernel
theorem vb_M_gap_6 : jx_bok 169 6 = true := by decide +kernel
theorem vb_M_gap_7 : jx_bok 169 7 = true := by decide +kernel
theorem vb_M_gap_8 : jx_bok 169 8 = true := by decide +kernel
theorem vb_M_gap_9 : jx_bok 169 9 = true := by decide +kernel
theorem vk_M_gap : ∀ b, jx_bok 169 b = true
  | 0 => vb_M_gap_0
  | 1 => vb_M_gap_1
  | 2 => vb_M_gap_2
  | 3 => vb_M_gap_3
  | 4 => vb_M_gap_4
  | 5 => vb_M_gap_5
  | 6 => vb_M_gap_6
  | 7 => vb_M_gap_7
  | 8 => vb_M_gap_8
  | 9 => vb_M_gap_9
  | _ + 10 => rfl
theorem vb_T_define_0 : jx_bok 170 0 = true := by decide +kernel
theorem vb_T_define_1 : jx_bok 170 1 = true := by decide +kernel
theorem vb_T_define_2 : jx_bok 170 2 = true := by decide +kernel
theorem vk_T_define : ∀ b, jx_bok 170 b = true
  | 0 => vb_T_define_0
  | 1 => vb_T_define_1
  | 2 => vb_T_define_2
  | _ + 3 => rfl
theorem vb_T_evasions_0 : jx_bok 171 0 = true := by decide +kernel
theorem vb_T_evasions_1 : jx_bok 171 1 = true := by decide +kernel
theorem vb_T_evasions_2 : jx_bok 171 2 = true := by decide +kernel
theorem vb_T_evasions_3 : jx_bok 171 3 = true := by decide +kernel
theorem vb_T_evasions_4 : jx_bok 171 4 = true := by decide +kernel
theorem vk_T_evasions : ∀ b, jx_bok 171 b = true
  | 0 => vb_T_evasions_0
  | 1 => vb_T_evasions_1
  | 2 => vb_T_evasions_2
  | 3 => vb_T_evasions_3
  | 4 => vb_T_evasions_4
  | _ + 5 => rfl
theorem vb_T_finish_0 : jx_bok 172 0 = true := by decide +kernel
theorem vb_T_finish_1 : jx_bok 172 1 = true := by decide +kernel
theorem vb_T_finish_2 : jx_bok 172 2 = true := by decide +kernel
theorem vk_T_finish : ∀ b, jx_bok 172 b = true
  | 0 => vb_T_finish_0
  | 1 => vb_T_finish_1
  | 2 => vb_T_finish_2
  | _ + 3 => rfl
theorem vb_T_forget_0 : jx_bok 173 0 = true := by decide +kernel
theorem vb_T_forget_1 : jx_bok 173 1 = true := by decide +kernel
theorem vb_T_forget_2 : jx_bok 173 2 = true := by decide +kernel
theorem vk_T_forget : ∀ b, jx_bok 173 b = true
  | 0 => vb_T_forget_0
  | 1 => vb_T_forget_1
  | 2 => vb_T_forget_2
  | _ + 3 => rfl
theorem vb_T_ifSegment_0 : jx_bok 174 0 = true := by decide +kernel
theorem vb_T_ifSegment_1 : jx_bok 174 1 = true := by decide +kernel
theorem vk_T_ifSegment : ∀ b, jx_bok 174 b = true
  | 0 => vb_T_ifSegment_0
  | 1 => vb_T_ifSegment_1
  | _ + 2 => rfl
theorem vb_T_replay_0 : jx_bok 175 0 = true := by decide +kernel
theorem vb_T_replay_1 : jx_bok 175 1 = true := by decide +kernel
theorem vb_T_replay_2 : jx_bok 175 2 = true := by decide +kernel
theorem vb_T_replay_3 : jx_bok 175 3 = true := by decide +kernel
theorem vb_T_replay_4 : jx_bok 175 4 = true := by decide +kernel
theorem vk_T_replay : ∀ b, jx_bok 175 b = true
  | 0 => vb_T_replay_0
  | 1 => vb_T_replay_1
  | 2 => vb_T_replay_2
  | 3 => vb_T_replay_3
  | 4 => vb_T_replay_4
  | _ + 5 => rfl
theorem vb_T_segment_0 : jx_bok 176 0 = true := by decide +kernel
theorem vb_T_segment_1 : jx_bok 176 1 = true := by decide +kernel
theorem vk_T_segment : ∀ b, jx_bok 176 b = true
  | 0 => vb_T_segment_0
  | 1 => vb_T_segment_1
  | _ + 2 => rfl
theorem vb_T_set_0 : jx_bok 177 0 = true := by decide +kernel
theorem vb_T_set_1 : jx_bok 177 1 = true := by decide +kernel
theorem vb_T_set_2 : jx_bok 177 2 = true := by decide +kernel
theorem vk_T_set : ∀ b, jx_bok 177 b = true
  | 0 => vb_T_set_0
  | 1 => vb_T_set_1
  | 2 => vb_T_set_2
  | _ + 3 => rfl
