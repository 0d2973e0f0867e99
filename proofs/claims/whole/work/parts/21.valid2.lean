theorem vb_R_copyFrom_0 : jx_bok 67 0 = true := by decide +kernel
theorem vb_R_copyFrom_1 : jx_bok 67 1 = true := by decide +kernel
theorem vb_R_copyFrom_2 : jx_bok 67 2 = true := by decide +kernel
theorem vk_R_copyFrom : ∀ b, jx_bok 67 b = true
  | 0 => vb_R_copyFrom_0
  | 1 => vb_R_copyFrom_1
  | 2 => vb_R_copyFrom_2
  | _ + 3 => rfl
theorem vb_Sg_init_0 : jx_bok 68 0 = true := by decide +kernel
theorem vk_Sg_init : ∀ b, jx_bok 68 b = true
  | 0 => vb_Sg_init_0
  | _ + 1 => rfl
theorem vb_Sg_byteFor_0 : jx_bok 69 0 = true := by decide +kernel
theorem vb_Sg_byteFor_1 : jx_bok 69 1 = true := by decide +kernel
theorem vb_Sg_byteFor_2 : jx_bok 69 2 = true := by decide +kernel
theorem vk_Sg_byteFor : ∀ b, jx_bok 69 b = true
  | 0 => vb_Sg_byteFor_0
  | 1 => vb_Sg_byteFor_1
  | 2 => vb_Sg_byteFor_2
  | _ + 3 => rfl
theorem vb_Sg_isCoveredBefore_0 : jx_bok 70 0 = true := by decide +kernel
theorem vb_Sg_isCoveredBefore_1 : jx_bok 70 1 = true := by decide +kernel
theorem vb_Sg_isCoveredBefore_2 : jx_bok 70 2 = true := by decide +kernel
theorem vb_Sg_isCoveredBefore_3 : jx_bok 70 3 = true := by decide +kernel
theorem vk_Sg_isCoveredBefore : ∀ b, jx_bok 70 b = true
  | 0 => vb_Sg_isCoveredBefore_0
  | 1 => vb_Sg_isCoveredBefore_1
  | 2 => vb_Sg_isCoveredBefore_2
  | 3 => vb_Sg_isCoveredBefore_3
  | _ + 4 => rfl
theorem vb_Sg_put_0 : jx_bok 71 0 = true := by decide +kernel
theorem vk_Sg_put : ∀ b, jx_bok 71 b = true
  | 0 => vb_Sg_put_0
  | _ + 1 => rfl
theorem vb_Sg_smallestStart_0 : jx_bok 72 0 = true := by decide +kernel
theorem vb_Sg_smallestStart_1 : jx_bok 72 1 = true := by decide +kernel
theorem vb_Sg_smallestStart_2 : jx_bok 72 2 = true := by decide +kernel
theorem vk_Sg_smallestStart : ∀ b, jx_bok 72 b = true
  | 0 => vb_Sg_smallestStart_0
  | 1 => vb_Sg_smallestStart_1
  | 2 => vb_Sg_smallestStart_2
  | _ + 3 => rfl
theorem vb_St_remove_0 : jx_bok 73 0 = true := by decide +kernel
theorem vk_St_remove : ∀ b, jx_bok 73 b = true
  | 0 => vb_St_remove_0
  | _ + 1 => rfl
theorem vb_Wo_init_0 : jx_bok 74 0 = true := by decide +kernel
theorem vk_Wo_init : ∀ b, jx_bok 74 b = true
  | 0 => vb_Wo_init_0
  | _ + 1 => rfl
theorem vb_Wo_copyFrom_0 : jx_bok 75 0 = true := by decide +kernel
theorem vk_Wo_copyFrom : ∀ b, jx_bok 75 b = true
  | 0 => vb_Wo_copyFrom_0
  | _ + 1 => rfl
theorem vb_Wo_definedSet_0 : jx_bok 76 0 = true := by decide +kernel
theorem vb_Wo_definedSet_1 : jx_bok 76 1 = true := by decide +kernel
theorem vb_Wo_definedSet_2 : jx_bok 76 2 = true := by decide +kernel
theorem vb_Wo_definedSet_3 : jx_bok 76 3 = true := by decide +kernel
theorem vk_Wo_definedSet : ∀ b, jx_bok 76 b = true
  | 0 => vb_Wo_definedSet_0
  | 1 => vb_Wo_definedSet_1
  | 2 => vb_Wo_definedSet_2
  | 3 => vb_Wo_definedSet_3
  | _ + 4 => rfl
theorem vb_Wo_put_0 : jx_bok 77 0 = true := by decide +kernel
theorem vb_Wo_put_1 : jx_bok 77 1 = true := by decide +kernel
theorem vb_Wo_put_2 : jx_bok 77 2 = true := by decide +kernel
theorem vk_Wo_put : ∀ b, jx_bok 77 b = true
  | 0 => vb_Wo_put_0
  | 1 => vb_Wo_put_1
  | 2 => vb_Wo_put_2
  | _ + 3 => rfl
theorem vb_M_begins_0 : jx_bok 78 0 = true := by decide +kernel
theorem vb_M_begins_1 : jx_bok 78 1 = true := by decide +kernel
theorem vb_M_begins_2 : jx_bok 78 2 = true := by decide +kernel
theorem vb_M_begins_3 : jx_bok 78 3 = true := by decide +kernel
theorem vk_M_begins : ∀ b, jx_bok 78 b = true
  | 0 => vb_M_begins_0
  | 1 => vb_M_begins_1
  | 2 => vb_M_begins_2
  | 3 => vb_M_begins_3
  | _ + 4 => rfl
theorem vb_M_byteOf_0 : jx_bok 79 0 = true := by decide +kernel
theorem vk_M_byteOf : ∀ b, jx_bok 79 b = true
  | 0 => vb_M_byteOf_0
  | _ + 1 => rfl
theorem vb_M_covers_0 : jx_bok 80 0 = true := by decide +kernel
theorem vb_M_covers_1 : jx_bok 80 1 = true := by decide +kernel
theorem vb_M_covers_2 : jx_bok 80 2 = true := by decide +kernel
theorem vk_M_covers : ∀ b, jx_bok 80 b = true
  | 0 => vb_M_covers_0
  | 1 => vb_M_covers_1
  | 2 => vb_M_covers_2
  | _ + 3 => rfl
theorem vb_M_definedSet_0 : jx_bok 81 0 = true := by decide +kernel
theorem vb_M_definedSet_1 : jx_bok 81 1 = true := by decide +kernel
theorem vb_M_definedSet_2 : jx_bok 81 2 = true := by decide +kernel
theorem vb_M_definedSet_3 : jx_bok 81 3 = true := by decide +kernel
theorem vb_M_definedSet_4 : jx_bok 81 4 = true := by decide +kernel
theorem vk_M_definedSet : ∀ b, jx_bok 81 b = true
  | 0 => vb_M_definedSet_0
  | 1 => vb_M_definedSet_1
  | 2 => vb_M_definedSet_2
  | 3 => vb_M_definedSet_3
  | 4 => vb_M_definedSet_4
  | _ + 5 => rfl
theorem vb_M_drops_0 : jx_bok 82 0 = true := by decide +kernel
theorem vb_M_drops_1 : jx_bok 82 1 = true := by decide +kernel
theorem vb_M_drops_2 : jx_bok 82 2 = true := by decide +kernel
theorem vb_M_drops_3 : jx_bok 82 3 = true := by decide +kernel
theorem vb_M_drops_4 : jx_bok 82 4 = true := by decide +kernel
theorem vb_M_drops_5 : jx_bok 82 5 = true := by decide +kernel
theorem vk_M_drops : ∀ b, jx_bok 82 b = true
  | 0 => vb_M_drops_0
  | 1 => vb_M_drops_1
  | 2 => vb_M_drops_2
  | 3 => vb_M_drops_3
  | 4 => vb_M_drops_4
  | 5 => vb_M_drops_5
  | _ + 6 => rfl
theorem vb_M_endsWith_0 : jx_bok 83 0 = true := by decide +kernel
theorem vb_M_endsWith_1 : jx_bok 83 1 = true := by decide +kernel
theorem vb_M_endsWith_2 : jx_bok 83 2 = true := by decide +kernel
theorem vb_M_endsWith_3 : jx_bok 83 3 = true := by decide +kernel
theorem vb_M_endsWith_4 : jx_bok 83 4 = true := by decide +kernel
theorem vb_M_endsWith_5 : jx_bok 83 5 = true := by decide +kernel
theorem vb_M_endsWith_6 : jx_bok 83 6 = true := by decide +kernel
theorem vk_M_endsWith : ∀ b, jx_bok 83 b = true
  | 0 => vb_M_endsWith_0
  | 1 => vb_M_endsWith_1
  | 2 => vb_M_endsWith_2
  | 3 => vb_M_endsWith_3
  | 4 => vb_M_endsWith_4
  | 5 => vb_M_endsWith_5
  | 6 => vb_M_endsWith_6
  | _ + 7 => rfl
theorem vb_M_faultOf_0 : jx_bok 84 0 = true := by decide +kernel
theorem vb_M_faultOf_1 : jx_bok 84 1 = true := by decide +kernel
theorem vb_M_faultOf_2 : jx_bok 84 2 = true := by decide +kernel
theorem vb_M_faultOf_3 : jx_bok 84 3 = true := by decide +kernel
theorem vb_M_faultOf_4 : jx_bok 84 4 = true := by decide +kernel
theorem vb_M_faultOf_5 : jx_bok 84 5 = true := by decide +kernel
theorem vb_M_faultOf_6 : jx_bok 84 6 = true := by decide +kernel
theorem vk_M_faultOf : ∀ b, jx_bok 84 b = true
  | 0 => vb_M_faultOf_0
  | 1 => vb_M_faultOf_1
  | 2 => vb_M_faultOf_2
  | 3 => vb_M_faultOf_3
  | 4 => vb_M_faultOf_4
  | 5 => vb_M_faultOf_5
  | 6 => vb_M_faultOf_6
  | _ + 7 => rfl
theorem vb_M_find_0 : jx_bok 85 0 = true := by decide +kernel
theorem vb_M_find_1 : jx_bok 85 1 = true := by decide +kernel
theorem vb_M_find_2 : jx_bok 85 2 = true := by decide +kernel
theorem vb_M_find_3 : jx_bok 85 3 = true := by decide +kernel
theorem vb_M_find_4 : jx_bok 85 4 = true := by decide +kernel
theorem vk_M_find : ∀ b, jx_bok 85 b = true
  | 0 => vb_M_find_0
  | 1 => vb_M_find_1
  | 2 => vb_M_find_2
  | 3 => vb_M_find_3
  | 4 => vb_M_find_4
  | _ + 5 => rfl
theorem vb_M_flow_0 : jx_bok 86 0 = true := by decide +kernel
theorem vb_M_flow_1 : jx_bok 86 1 = true := by decide +kernel
theorem vb_M_flow_2 : jx_bok 86 2 = true := by decide +kernel
theorem vb_M_flow_3 : jx_bok 86 3 = true := by decide +kernel
theorem vk_M_flow : ∀ b, jx_bok 86 b = true
  | 0 => vb_M_flow_0
  | 1 => vb_M_flow_1
  | 2 => vb_M_flow_2
  | 3 => vb_M_flow_3
  | _ + 4 => rfl
theorem vb_M_has_0 : jx_bok 87 0 = true := by decide +kernel
theorem vb_M_has_1 : jx_bok 87 1 = true := by decide +kernel
theorem vb_M_has_2 : jx_bok 87 2 = true := by decide +kernel
theorem vk_M_has : ∀ b, jx_bok 87 b = true
  | 0 => vb_M_has_0
  | 1 => vb_M_has_1
  | 2 => vb_M_has_2
  | _ + 3 => rfl
theorem vb_M_hexOf_0 : jx_bok 88 0 = true := by decide +kernel
theorem vb_M_hexOf_1 : jx_bok 88 1 = true := by decide +kernel
theorem vb_M_hexOf_2 : jx_bok 88 2 = true := by decide +kernel
theorem vb_M_hexOf_3 : jx_bok 88 3 = true := by decide +kernel
theorem vb_M_hexOf_4 : jx_bok 88 4 = true := by decide +kernel
theorem vk_M_hexOf : ∀ b, jx_bok 88 b = true
  | 0 => vb_M_hexOf_0
  | 1 => vb_M_hexOf_1
  | 2 => vb_M_hexOf_2
  | 3 => vb_M_hexOf_3
  | 4 => vb_M_hexOf_4
  | _ + 5 => rfl
theorem vb_M_inserts_0 : jx_bok 89 0 = true := by decide +kernel
theorem vb_M_inserts_1 : jx_bok 89 1 = true := by decide +kernel
theorem vb_M_inserts_2 : jx_bok 89 2 = true := by decide +kernel
theorem vb_M_inserts_3 : jx_bok 89 3 = true := by decide +kernel
theorem vb_M_inserts_4 : jx_bok 89 4 = true := by decide +kernel
theorem vb_M_inserts_5 : jx_bok 89 5 = true := by decide +kernel
theorem vb_M_inserts_6 : jx_bok 89 6 = true := by decide +kernel
theorem vb_M_inserts_7 : jx_bok 89 7 = true := by decide +kernel
theorem vb_M_inserts_8 : jx_bok 89 8 = true := by decide +kernel
theorem vb_M_inserts_9 : jx_bok 89 9 = true := by decide +kernel
theorem vb_M_inserts_10 : jx_bok 89 10 = true := by decide +kernel
theorem vk_M_inserts : ∀ b, jx_bok 89 b = true
  | 0 => vb_M_inserts_0
  | 1 => vb_M_inserts_1
  | 2 => vb_M_inserts_2
  | 3 => vb_M_inserts_3
  | 4 => vb_M_inserts_4
  | 5 => vb_M_inserts_5
  | 6 => vb_M_inserts_6
  | 7 => vb_M_inserts_7
  | 8 => vb_M_inserts_8
  | 9 => vb_M_inserts_9
  | 10 => vb_M_inserts_10
  | _ + 11 => rfl
theorem vb_M_isBetter_0 : jx_bok 90 0 = true := by decide +kernel
theorem vb_M_isBetter_1 : jx_bok 90 1 = true := by decide +kernel
theorem vb_M_isBetter_2 : jx_bok 90 2 = true := by decide +kernel
theorem vb_M_isBetter_3 : jx_bok 90 3 = true := by decide +kernel
theorem vb_M_isBetter_4 : jx_bok 90 4 = true := by decide +kernel
theorem vb_M_isBetter_5 : jx_bok 90 5 = true := by decide +kernel
theorem vb_M_isBetter_6 : jx_bok 90 6 = true := by decide +kernel
theorem vb_M_isBetter_7 : jx_bok 90 7 = true := by decide +kernel
theorem vb_M_isBetter_8 : jx_bok 90 8 = true := by decide +kernel
theorem vk_M_isBetter : ∀ b, jx_bok 90 b = true
  | 0 => vb_M_isBetter_0
  | 1 => vb_M_isBetter_1
  | 2 => vb_M_isBetter_2
  | 3 => vb_M_isBetter_3
  | 4 => vb_M_isBetter_4
  | 5 => vb_M_isBetter_5
  | 6 => vb_M_isBetter_6
  | 7 => vb_M_isBetter_7
  | 8 => vb_M_isBetter_8
  | _ + 9 => rfl
theorem vb_M_isPossible_0 : jx_bok 91 0 = true := by decide +kernel
theorem vb_M_isPossible_1 : jx_bok 91 1 = true := by decide +kernel
theorem vb_M_isPossible_2 : jx_bok 91 2 = true := by decide +kernel
theorem vb_M_isPossible_3 : jx_bok 91 3 = true := by decide +kernel
theorem vb_M_isPossible_4 : jx_bok 91 4 = true := by decide +kernel
theorem vk_M_isPossible : ∀ b, jx_bok 91 b = true
  | 0 => vb_M_isPossible_0
  | 1 => vb_M_isPossible_1
  | 2 => vb_M_isPossible_2
  | 3 => vb_M_isPossible_3
  | 4 => vb_M_isPossible_4
  | _ + 5 => rfl
theorem vb_M_isWord_0 : jx_bok 92 0 = true := by decide +kernel
theorem vk_M_isWord : ∀ b, jx_bok 92 b = true
  | 0 => vb_M_isWord_0
  | _ + 1 => rfl
theorem vb_M_laysPossible_0 : jx_bok 93 0 = true := by decide +kernel
theorem vk_M_laysPossible : ∀ b, jx_bok 93 b = true
  | 0 => vb_M_laysPossible_0
  | _ + 1 => rfl
theorem vb_M_longest_0 : jx_bok 94 0 = true := by decide +kernel
theorem vb_M_longest_1 : jx_bok 94 1 = true := by decide +kernel
theorem vb_M_longest_2 : jx_bok 94 2 = true := by decide +kernel
theorem vb_M_longest_3 : jx_bok 94 3 = true := by decide +kernel
theorem vb_M_longest_4 : jx_bok 94 4 = true := by decide +kernel
theorem vb_M_longest_5 : jx_bok 94 5 = true := by decide +kernel
theorem vk_M_longest : ∀ b, jx_bok 94 b = true
  | 0 => vb_M_longest_0
  | 1 => vb_M_longest_1
  | 2 => vb_M_longest_2
  | 3 => vb_M_longest_3
  | 4 => vb_M_longest_4
  | 5 => vb_M_longest_5
  | _ + 6 => rfl
theorem vb_M_next_0 : jx_bok 95 0 = true := by decide +kernel
theorem vb_M_next_1 : jx_bok 95 1 = true := by decide +kernel
theorem vb_M_next_2 : jx_bok 95 2 = true := by decide +kernel
theorem vk_M_next : ∀ b, jx_bok 95 b = true
  | 0 => vb_M_next_0
  | 1 => vb_M_next_1
  | 2 => vb_M_next_2
  | _ + 3 => rfl
theorem vb_M_node_0 : jx_bok 96 0 = true := by decide +kernel
theorem vb_M_node_1 : jx_bok 96 1 = true := by decide +kernel
theorem vb_M_node_2 : jx_bok 96 2 = true := by decide +kernel
theorem vb_M_node_3 : jx_bok 96 3 = true := by decide +kernel
theorem vb_M_node_4 : jx_bok 96 4 = true := by decide +kernel
theorem vb_M_node_5 : jx_bok 96 5 = true := by decide +kernel
theorem vb_M_node_6 : jx_bok 96 6 = true := by decide +kernel
theorem vb_M_node_7 : jx_bok 96 7 = true := by decide +kernel
theorem vb_M_node_8 : jx_bok 96 8 = true := by decide +kernel
theorem vb_M_node_9 : jx_bok 96 9 = true := by decide +kernel
theorem vk_M_node : ∀ b, jx_bok 96 b = true
  | 0 => vb_M_node_0
  | 1 => vb_M_node_1
  | 2 => vb_M_node_2
  | 3 => vb_M_node_3
  | 4 => vb_M_node_4
  | 5 => vb_M_node_5
  | 6 => vb_M_node_6
  | 7 => vb_M_node_7
  | 8 => vb_M_node_8
  | 9 => vb_M_node_9
  | _ + 10 => rfl
