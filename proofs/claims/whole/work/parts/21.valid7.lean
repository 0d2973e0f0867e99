theorem vb_M_deliversAll_0 : jx_bok 178 0 = true := by decide +kernel
theorem vb_M_deliversAll_1 : jx_bok 178 1 = true := by decide +kernel
theorem vb_M_deliversAll_2 : jx_bok 178 2 = true := by decide +kernel
theorem vb_M_deliversAll_3 : jx_bok 178 3 = true := by decide +kernel
theorem vb_M_deliversAll_4 : jx_bok 178 4 = true := by decide +kernel
theorem vk_M_deliversAll : ∀ b, jx_bok 178 b = true
  | 0 => vb_M_deliversAll_0
  | 1 => vb_M_deliversAll_1
  | 2 => vb_M_deliversAll_2
  | 3 => vb_M_deliversAll_3
  | 4 => vb_M_deliversAll_4
  | _ + 5 => rfl
theorem vb_M_handles_0 : jx_bok 179 0 = true := by decide +kernel
theorem vb_M_handles_1 : jx_bok 179 1 = true := by decide +kernel
theorem vb_M_handles_2 : jx_bok 179 2 = true := by decide +kernel
theorem vb_M_handles_3 : jx_bok 179 3 = true := by decide +kernel
theorem vb_M_handles_4 : jx_bok 179 4 = true := by decide +kernel
theorem vb_M_handles_5 : jx_bok 179 5 = true := by decide +kernel
theorem vk_M_handles : ∀ b, jx_bok 179 b = true
  | 0 => vb_M_handles_0
  | 1 => vb_M_handles_1
  | 2 => vb_M_handles_2
  | 3 => vb_M_handles_3
  | 4 => vb_M_handles_4
  | 5 => vb_M_handles_5
  | _ + 6 => rfl
theorem vb_M_handlesText_0 : jx_bok 180 0 = true := by decide +kernel
theorem vb_M_handlesText_1 : jx_bok 180 1 = true := by decide +kernel
theorem vb_M_handlesText_2 : jx_bok 180 2 = true := by decide +kernel
theorem vk_M_handlesText : ∀ b, jx_bok 180 b = true
  | 0 => vb_M_handlesText_0
  | 1 => vb_M_handlesText_1
  | 2 => vb_M_handlesText_2
  | _ + 3 => rfl
theorem vb_M_replays_0 : jx_bok 181 0 = true := by decide +kernel
theorem vb_M_replays_1 : jx_bok 181 1 = true := by decide +kernel
theorem vb_M_replays_2 : jx_bok 181 2 = true := by decide +kernel
theorem vk_M_replays : ∀ b, jx_bok 181 b = true
  | 0 => vb_M_replays_0
  | 1 => vb_M_replays_1
  | 2 => vb_M_replays_2
  | _ + 3 => rfl
theorem vb_M_evasions_0 : jx_bok 182 0 = true := by decide +kernel
theorem vb_M_evasions_1 : jx_bok 182 1 = true := by decide +kernel
theorem vb_M_evasions_2 : jx_bok 182 2 = true := by decide +kernel
theorem vb_M_evasions_3 : jx_bok 182 3 = true := by decide +kernel
theorem vk_M_evasions : ∀ b, jx_bok 182 b = true
  | 0 => vb_M_evasions_0
  | 1 => vb_M_evasions_1
  | 2 => vb_M_evasions_2
  | 3 => vb_M_evasions_3
  | _ + 4 => rfl
theorem vb_M_replay_0 : jx_bok 183 0 = true := by decide +kernel
theorem vb_M_replay_1 : jx_bok 183 1 = true := by decide +kernel
theorem vb_M_replay_2 : jx_bok 183 2 = true := by decide +kernel
theorem vb_M_replay_3 : jx_bok 183 3 = true := by decide +kernel
theorem vb_M_replay_4 : jx_bok 183 4 = true := by decide +kernel
theorem vk_M_replay : ∀ b, jx_bok 183 b = true
  | 0 => vb_M_replay_0
  | 1 => vb_M_replay_1
  | 2 => vb_M_replay_2
  | 3 => vb_M_replay_3
  | 4 => vb_M_replay_4
  | _ + 5 => rfl
theorem vb_M_segments_0 : jx_bok 184 0 = true := by decide +kernel
theorem vb_M_segments_1 : jx_bok 184 1 = true := by decide +kernel
theorem vb_M_segments_2 : jx_bok 184 2 = true := by decide +kernel
theorem vb_M_segments_3 : jx_bok 184 3 = true := by decide +kernel
theorem vb_M_segments_4 : jx_bok 184 4 = true := by decide +kernel
theorem vb_M_segments_5 : jx_bok 184 5 = true := by decide +kernel
theorem vb_M_segments_6 : jx_bok 184 6 = true := by decide +kernel
theorem vb_M_segments_7 : jx_bok 184 7 = true := by decide +kernel
theorem vb_M_segments_8 : jx_bok 184 8 = true := by decide +kernel
theorem vk_M_segments : ∀ b, jx_bok 184 b = true
  | 0 => vb_M_segments_0
  | 1 => vb_M_segments_1
  | 2 => vb_M_segments_2
  | 3 => vb_M_segments_3
  | 4 => vb_M_segments_4
  | 5 => vb_M_segments_5
  | 6 => vb_M_segments_6
  | 7 => vb_M_segments_7
  | 8 => vb_M_segments_8
  | _ + 9 => rfl
theorem vb_M_ifSegment_0 : jx_bok 185 0 = true := by decide +kernel
theorem vb_M_ifSegment_1 : jx_bok 185 1 = true := by decide +kernel
theorem vk_M_ifSegment : ∀ b, jx_bok 185 b = true
  | 0 => vb_M_ifSegment_0
  | 1 => vb_M_ifSegment_1
  | _ + 2 => rfl
theorem vb_M_segment_0 : jx_bok 186 0 = true := by decide +kernel
theorem vb_M_segment_1 : jx_bok 186 1 = true := by decide +kernel
theorem vk_M_segment : ∀ b, jx_bok 186 b = true
  | 0 => vb_M_segment_0
  | 1 => vb_M_segment_1
  | _ + 2 => rfl
theorem vb_L_law_0 : jx_bok 187 0 = true := by decide +kernel
theorem vb_L_law_1 : jx_bok 187 1 = true := by decide +kernel
theorem vb_L_law_2 : jx_bok 187 2 = true := by decide +kernel
theorem vb_L_law_3 : jx_bok 187 3 = true := by decide +kernel
theorem vb_L_law_4 : jx_bok 187 4 = true := by decide +kernel
theorem vb_L_law_5 : jx_bok 187 5 = true := by decide +kernel
theorem vb_L_law_6 : jx_bok 187 6 = true := by decide +kernel
theorem vb_L_law_7 : jx_bok 187 7 = true := by decide +kernel
theorem vb_L_law_8 : jx_bok 187 8 = true := by decide +kernel
theorem vb_L_law_9 : jx_bok 187 9 = true := by decide +kernel
theorem vb_L_law_10 : jx_bok 187 10 = true := by decide +kernel
theorem vb_L_law_11 : jx_bok 187 11 = true := by decide +kernel
theorem vb_L_law_12 : jx_bok 187 12 = true := by decide +kernel
theorem vb_L_law_13 : jx_bok 187 13 = true := by decide +kernel
theorem vb_L_law_14 : jx_bok 187 14 = true := by decide +kernel
theorem vb_L_law_15 : jx_bok 187 15 = true := by decide +kernel
theorem vb_L_law_16 : jx_bok 187 16 = true := by decide +kernel
theorem vb_L_law_17 : jx_bok 187 17 = true := by decide +kernel
theorem vb_L_law_18 : jx_bok 187 18 = true := by decide +kernel
theorem vb_L_law_19 : jx_bok 187 19 = true := by decide +kernel
theorem vb_L_law_20 : jx_bok 187 20 = true := by decide +kernel
theorem vb_L_law_21 : jx_bok 187 21 = true := by decide +kernel
theorem vb_L_law_22 : jx_bok 187 22 = true := by decide +kernel
theorem vb_L_law_23 : jx_bok 187 23 = true := by decide +kernel
theorem vb_L_law_24 : jx_bok 187 24 = true := by decide +kernel
theorem vb_L_law_25 : jx_bok 187 25 = true := by decide +kernel
theorem vb_L_law_26 : jx_bok 187 26 = true := by decide +kernel
theorem vk_L_law : ∀ b, jx_bok 187 b = true
  | 0 => vb_L_law_0
  | 1 => vb_L_law_1
  | 2 => vb_L_law_2
  | 3 => vb_L_law_3
  | 4 => vb_L_law_4
  | 5 => vb_L_law_5
  | 6 => vb_L_law_6
  | 7 => vb_L_law_7
  | 8 => vb_L_law_8
  | 9 => vb_L_law_9
  | 10 => vb_L_law_10
  | 11 => vb_L_law_11
  | 12 => vb_L_law_12
  | 13 => vb_L_law_13
  | 14 => vb_L_law_14
  | 15 => vb_L_law_15
  | 16 => vb_L_law_16
  | 17 => vb_L_law_17
  | 18 => vb_L_law_18
  | 19 => vb_L_law_19
  | 20 => vb_L_law_20
  | 21 => vb_L_law_21
  | 22 => vb_L_law_22
  | 23 => vb_L_law_23
  | 24 => vb_L_law_24
  | 25 => vb_L_law_25
  | 26 => vb_L_law_26
  | _ + 27 => rfl
