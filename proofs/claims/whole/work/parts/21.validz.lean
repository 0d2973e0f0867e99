theorem jx_vall0 : ∀ μ, 0 ≤ μ → μ < 30 → ∀ b, jx_bok μ b = true := by
  intro μ h1 h2
  rcases (show μ = 0 ∨ μ = 1 ∨ μ = 2 ∨ μ = 3 ∨ μ = 4 ∨ μ = 5 ∨ μ = 6 ∨ μ = 7 ∨ μ = 8 ∨ μ = 9 ∨ μ = 10 ∨ μ = 11 ∨ μ = 12 ∨ μ = 13 ∨ μ = 14 ∨ μ = 15 ∨ μ = 16 ∨ μ = 17 ∨ μ = 18 ∨ μ = 19 ∨ μ = 20 ∨ μ = 21 ∨ μ = 22 ∨ μ = 23 ∨ μ = 24 ∨ μ = 25 ∨ μ = 26 ∨ μ = 27 ∨ μ = 28 ∨ μ = 29 by omega) with h | h | h | h | h | h | h | h | h | h | h | h | h | h | h | h | h | h | h | h | h | h | h | h | h | h | h | h | h | h
  · rw [h]; exact vk_T_clear
  · rw [h]; exact vk_T_dropOldest
  · rw [h]; exact vk_T_flow
  · rw [h]; exact vk_T_isKey
  · rw [h]; exact vk_T_isLetter
  · rw [h]; exact vk_T_isWord
  · rw [h]; exact vk_T_mixed
  · rw [h]; exact vk_T_type
  · rw [h]; exact vk_A_has
  · rw [h]; exact vk_A_nextOf
  · rw [h]; exact vk_A_nextSet
  · rw [h]; exact vk_A_wordsOf
  · rw [h]; exact vk_A_wordsOfSet
  · rw [h]; exact vk_Fi_add
  · rw [h]; exact vk_Fi_made
  · rw [h]; exact vk_Fi_tell
  · rw [h]; exact vk_Fl_isPreferred
  · rw [h]; exact vk_R_firstIndexOf
  · rw [h]; exact vk_R_hexadecimal
  · rw [h]; exact vk_R_isDropped
  · rw [h]; exact vk_R_recentCharacter
  · rw [h]; exact vk_R_restart
  · rw [h]; exact vk_Sg_covers
  · rw [h]; exact vk_Sg_isFull
  · rw [h]; exact vk_St_movedToEnd
  · rw [h]; exact vk_St_placeOf
  · rw [h]; exact vk_Wo_isDefined
  · rw [h]; exact vk_Wo_letterAt
  · rw [h]; exact vk_Wo_remove
  · rw [h]; exact vk_M_adds
theorem jx_vall1 : ∀ μ, 30 ≤ μ → μ < 60 → ∀ b, jx_bok μ b = true := by
  intro μ h1 h2
  rcases (show μ = 30 ∨ μ = 31 ∨ μ = 32 ∨ μ = 33 ∨ μ = 34 ∨ μ = 35 ∨ μ = 36 ∨ μ = 37 ∨ μ = 38 ∨ μ = 39 ∨ μ = 40 ∨ μ = 41 ∨ μ = 42 ∨ μ = 43 ∨ μ = 44 ∨ μ = 45 ∨ μ = 46 ∨ μ = 47 ∨ μ = 48 ∨ μ = 49 ∨ μ = 50 ∨ μ = 51 ∨ μ = 52 ∨ μ = 53 ∨ μ = 54 ∨ μ = 55 ∨ μ = 56 ∨ μ = 57 ∨ μ = 58 ∨ μ = 59 by omega) with h | h | h | h | h | h | h | h | h | h | h | h | h | h | h | h | h | h | h | h | h | h | h | h | h | h | h | h | h | h
  · rw [h]; exact vk_M_clear
  · rw [h]; exact vk_M_copies
  · rw [h]; exact vk_M_freeSlot
  · rw [h]; exact vk_M_highOf
  · rw [h]; exact vk_M_in
  · rw [h]; exact vk_M_leaves
  · rw [h]; exact vk_M_letterOf
  · rw [h]; exact vk_M_lowOf
  · rw [h]; exact vk_M_nodeOf
  · rw [h]; exact vk_M_of
  · rw [h]; exact vk_M_order
  · rw [h]; exact vk_M_pieceAt
  · rw [h]; exact vk_M_put
  · rw [h]; exact vk_M_slot
  · rw [h]; exact vk_M_takes
  · rw [h]; exact vk_M_wordLength
  · rw [h]; exact vk_JI_bitCount
  · rw [h]; exact vk_JL_bitCount
  · rw [h]; exact vk_JA_fill
  · rw [h]; exact vk_T_find
  · rw [h]; exact vk_T_firstWrongByte
  · rw [h]; exact vk_T_letter
  · rw [h]; exact vk_T_next
  · rw [h]; exact vk_T_node
  · rw [h]; exact vk_T_possible
  · rw [h]; exact vk_T_read
  · rw [h]; exact vk_T_segmentError
  · rw [h]; exact vk_A_init
  · rw [h]; exact vk_A_added
  · rw [h]; exact vk_A_link
theorem jx_vall2 : ∀ μ, 60 ≤ μ → μ < 90 → ∀ b, jx_bok μ b = true := by
  intro μ h1 h2
  rcases (show μ = 60 ∨ μ = 61 ∨ μ = 62 ∨ μ = 63 ∨ μ = 64 ∨ μ = 65 ∨ μ = 66 ∨ μ = 67 ∨ μ = 68 ∨ μ = 69 ∨ μ = 70 ∨ μ = 71 ∨ μ = 72 ∨ μ = 73 ∨ μ = 74 ∨ μ = 75 ∨ μ = 76 ∨ μ = 77 ∨ μ = 78 ∨ μ = 79 ∨ μ = 80 ∨ μ = 81 ∨ μ = 82 ∨ μ = 83 ∨ μ = 84 ∨ μ = 85 ∨ μ = 86 ∨ μ = 87 ∨ μ = 88 ∨ μ = 89 by omega) with h | h | h | h | h | h | h | h | h | h | h | h | h | h | h | h | h | h | h | h | h | h | h | h | h | h | h | h | h | h
  · rw [h]; exact vk_A_nextSetByAny
  · rw [h]; exact vk_Fi_init
  · rw [h]; exact vk_Fi_copyFrom
  · rw [h]; exact vk_Fl_chosenPiece
  · rw [h]; exact vk_R_init
  · rw [h]; exact vk_R_begin
  · rw [h]; exact vk_R_come
  · rw [h]; exact vk_R_copyFrom
  · rw [h]; exact vk_Sg_init
  · rw [h]; exact vk_Sg_byteFor
  · rw [h]; exact vk_Sg_isCoveredBefore
  · rw [h]; exact vk_Sg_put
  · rw [h]; exact vk_Sg_smallestStart
  · rw [h]; exact vk_St_remove
  · rw [h]; exact vk_Wo_init
  · rw [h]; exact vk_Wo_copyFrom
  · rw [h]; exact vk_Wo_definedSet
  · rw [h]; exact vk_Wo_put
  · rw [h]; exact vk_M_begins
  · rw [h]; exact vk_M_byteOf
  · rw [h]; exact vk_M_covers
  · rw [h]; exact vk_M_definedSet
  · rw [h]; exact vk_M_drops
  · rw [h]; exact vk_M_endsWith
  · rw [h]; exact vk_M_faultOf
  · rw [h]; exact vk_M_find
  · rw [h]; exact vk_M_flow
  · rw [h]; exact vk_M_has
  · rw [h]; exact vk_M_hexOf
  · rw [h]; exact vk_M_inserts
theorem jx_vall3 : ∀ μ, 90 ≤ μ → μ < 120 → ∀ b, jx_bok μ b = true := by
  intro μ h1 h2
  rcases (show μ = 90 ∨ μ = 91 ∨ μ = 92 ∨ μ = 93 ∨ μ = 94 ∨ μ = 95 ∨ μ = 96 ∨ μ = 97 ∨ μ = 98 ∨ μ = 99 ∨ μ = 100 ∨ μ = 101 ∨ μ = 102 ∨ μ = 103 ∨ μ = 104 ∨ μ = 105 ∨ μ = 106 ∨ μ = 107 ∨ μ = 108 ∨ μ = 109 ∨ μ = 110 ∨ μ = 111 ∨ μ = 112 ∨ μ = 113 ∨ μ = 114 ∨ μ = 115 ∨ μ = 116 ∨ μ = 117 ∨ μ = 118 ∨ μ = 119 by omega) with h | h | h | h | h | h | h | h | h | h | h | h | h | h | h | h | h | h | h | h | h | h | h | h | h | h | h | h | h | h
  · rw [h]; exact vk_M_isBetter
  · rw [h]; exact vk_M_isPossible
  · rw [h]; exact vk_M_isWord
  · rw [h]; exact vk_M_laysPossible
  · rw [h]; exact vk_M_longest
  · rw [h]; exact vk_M_next
  · rw [h]; exact vk_M_node
  · rw [h]; exact vk_M_placeOf
  · rw [h]; exact vk_M_possibleNow
  · rw [h]; exact vk_M_readNow
  · rw [h]; exact vk_M_records
  · rw [h]; exact vk_M_starts
  · rw [h]; exact vk_M_type
  · rw [h]; exact vk_T_told
  · rw [h]; exact vk_A_addChildren
  · rw [h]; exact vk_A_fewestLettersToWord
  · rw [h]; exact vk_A_spread
  · rw [h]; exact vk_Fl_init
  · rw [h]; exact vk_Fl_begin
  · rw [h]; exact vk_Fl_chosenByte
  · rw [h]; exact vk_Fl_isDisputed
  · rw [h]; exact vk_R_release
  · rw [h]; exact vk_Sg_add
  · rw [h]; exact vk_Sg_coveredFrom
  · rw [h]; exact vk_Sg_dropBefore
  · rw [h]; exact vk_M_asked
  · rw [h]; exact vk_M_chosen
  · rw [h]; exact vk_M_isConflict
  · rw [h]; exact vk_M_lays
  · rw [h]; exact vk_M_letter
theorem jx_vall4 : ∀ μ, 120 ≤ μ → μ < 150 → ∀ b, jx_bok μ b = true := by
  intro μ h1 h2
  rcases (show μ = 120 ∨ μ = 121 ∨ μ = 122 ∨ μ = 123 ∨ μ = 124 ∨ μ = 125 ∨ μ = 126 ∨ μ = 127 ∨ μ = 128 ∨ μ = 129 ∨ μ = 130 ∨ μ = 131 ∨ μ = 132 ∨ μ = 133 ∨ μ = 134 ∨ μ = 135 ∨ μ = 136 ∨ μ = 137 ∨ μ = 138 ∨ μ = 139 ∨ μ = 140 ∨ μ = 141 ∨ μ = 142 ∨ μ = 143 ∨ μ = 144 ∨ μ = 145 ∨ μ = 146 ∨ μ = 147 ∨ μ = 148 ∨ μ = 149 by omega) with h | h | h | h | h | h | h | h | h | h | h | h | h | h | h | h | h | h | h | h | h | h | h | h | h | h | h | h | h | h
  · rw [h]; exact vk_M_possibleMany
  · rw [h]; exact vk_M_set
  · rw [h]; exact vk_M_steps
  · rw [h]; exact vk_M_told
  · rw [h]; exact vk_M_wrong
  · rw [h]; exact vk_T_byteAt
  · rw [h]; exact vk_T_nearest
  · rw [h]; exact vk_A_build
  · rw [h]; exact vk_Fl_end
  · rw [h]; exact vk_Fl_tell
  · rw [h]; exact vk_R_skip
  · rw [h]; exact vk_R_take
  · rw [h]; exact vk_Sg_copyFrom
  · rw [h]; exact vk_St_init
  · rw [h]; exact vk_St_flowOfSegment
  · rw [h]; exact vk_M_init
  · rw [h]; exact vk_M_byteNow
  · rw [h]; exact vk_M_covered
  · rw [h]; exact vk_M_nearest
  · rw [h]; exact vk_M_others
  · rw [h]; exact vk_M_possible
  · rw [h]; exact vk_M_read
  · rw [h]; exact vk_M_reads
  · rw [h]; exact vk_M_undo
  · rw [h]; exact vk_T_init
  · rw [h]; exact vk_T_mixedWithFlow
  · rw [h]; exact vk_T_property
  · rw [h]; exact vk_T_undo
  · rw [h]; exact vk_T_wordsChanged
  · rw [h]; exact vk_Fl_copyFrom
theorem jx_vall5 : ∀ μ, 150 ≤ μ → μ < 180 → ∀ b, jx_bok μ b = true := by
  intro μ h1 h2
  rcases (show μ = 150 ∨ μ = 151 ∨ μ = 152 ∨ μ = 153 ∨ μ = 154 ∨ μ = 155 ∨ μ = 156 ∨ μ = 157 ∨ μ = 158 ∨ μ = 159 ∨ μ = 160 ∨ μ = 161 ∨ μ = 162 ∨ μ = 163 ∨ μ = 164 ∨ μ = 165 ∨ μ = 166 ∨ μ = 167 ∨ μ = 168 ∨ μ = 169 ∨ μ = 170 ∨ μ = 171 ∨ μ = 172 ∨ μ = 173 ∨ μ = 174 ∨ μ = 175 ∨ μ = 176 ∨ μ = 177 ∨ μ = 178 ∨ μ = 179 by omega) with h | h | h | h | h | h | h | h | h | h | h | h | h | h | h | h | h | h | h | h | h | h | h | h | h | h | h | h | h | h
  · rw [h]; exact vk_Fl_deliver
  · rw [h]; exact vk_Fl_skipGap
  · rw [h]; exact vk_M_byteAt
  · rw [h]; exact vk_M_character
  · rw [h]; exact vk_M_define
  · rw [h]; exact vk_M_forget
  · rw [h]; exact vk_M_propertyNow
  · rw [h]; exact vk_T_digest
  · rw [h]; exact vk_Fl_accept
  · rw [h]; exact vk_St_copyFrom
  · rw [h]; exact vk_M_lets
  · rw [h]; exact vk_M_mixedFlow
  · rw [h]; exact vk_M_property
  · rw [h]; exact vk_T_handled
  · rw [h]; exact vk_T_record
  · rw [h]; exact vk_T_wordsBy
  · rw [h]; exact vk_M_delivers
  · rw [h]; exact vk_M_digest
  · rw [h]; exact vk_M_finish
  · rw [h]; exact vk_M_gap
  · rw [h]; exact vk_T_define
  · rw [h]; exact vk_T_evasions
  · rw [h]; exact vk_T_finish
  · rw [h]; exact vk_T_forget
  · rw [h]; exact vk_T_ifSegment
  · rw [h]; exact vk_T_replay
  · rw [h]; exact vk_T_segment
  · rw [h]; exact vk_T_set
  · rw [h]; exact vk_M_deliversAll
  · rw [h]; exact vk_M_handles
theorem jx_vall6 : ∀ μ, 180 ≤ μ → μ < 188 → ∀ b, jx_bok μ b = true := by
  intro μ h1 h2
  rcases (show μ = 180 ∨ μ = 181 ∨ μ = 182 ∨ μ = 183 ∨ μ = 184 ∨ μ = 185 ∨ μ = 186 ∨ μ = 187 by omega) with h | h | h | h | h | h | h | h
  · rw [h]; exact vk_M_handlesText
  · rw [h]; exact vk_M_replays
  · rw [h]; exact vk_M_evasions
  · rw [h]; exact vk_M_replay
  · rw [h]; exact vk_M_segments
  · rw [h]; exact vk_M_ifSegment
  · rw [h]; exact vk_M_segment
  · rw [h]; exact vk_L_law
theorem jx_vall (μ : Nat) (h : μ < 188) : ∀ b, jx_bok μ b = true := by
  rcases (show (0 ≤ μ ∧ μ < 30) ∨ (30 ≤ μ ∧ μ < 60) ∨ (60 ≤ μ ∧ μ < 90) ∨ (90 ≤ μ ∧ μ < 120) ∨ (120 ≤ μ ∧ μ < 150) ∨ (150 ≤ μ ∧ μ < 180) ∨ (180 ≤ μ ∧ μ < 188) by omega) with h | h | h | h | h | h | h
  · exact jx_vall0 μ h.1 h.2
  · exact jx_vall1 μ h.1 h.2
  · exact jx_vall2 μ h.1 h.2
  · exact jx_vall3 μ h.1 h.2
  · exact jx_vall4 μ h.1 h.2
  · exact jx_vall5 μ h.1 h.2
  · exact jx_vall6 μ h.1 h.2
theorem jx_mall0 : ∀ μ, 0 ≤ μ → μ < 30 → jx_mchk (zz.1 μ) = true := by
  intro μ h1 h2
  rcases (show μ = 0 ∨ μ = 1 ∨ μ = 2 ∨ μ = 3 ∨ μ = 4 ∨ μ = 5 ∨ μ = 6 ∨ μ = 7 ∨ μ = 8 ∨ μ = 9 ∨ μ = 10 ∨ μ = 11 ∨ μ = 12 ∨ μ = 13 ∨ μ = 14 ∨ μ = 15 ∨ μ = 16 ∨ μ = 17 ∨ μ = 18 ∨ μ = 19 ∨ μ = 20 ∨ μ = 21 ∨ μ = 22 ∨ μ = 23 ∨ μ = 24 ∨ μ = 25 ∨ μ = 26 ∨ μ = 27 ∨ μ = 28 ∨ μ = 29 by omega) with h | h | h | h | h | h | h | h | h | h | h | h | h | h | h | h | h | h | h | h | h | h | h | h | h | h | h | h | h | h
  · rw [h]; exact mk_T_clear
  · rw [h]; exact mk_T_dropOldest
  · rw [h]; exact mk_T_flow
  · rw [h]; exact mk_T_isKey
  · rw [h]; exact mk_T_isLetter
  · rw [h]; exact mk_T_isWord
  · rw [h]; exact mk_T_mixed
  · rw [h]; exact mk_T_type
  · rw [h]; exact mk_A_has
  · rw [h]; exact mk_A_nextOf
  · rw [h]; exact mk_A_nextSet
  · rw [h]; exact mk_A_wordsOf
  · rw [h]; exact mk_A_wordsOfSet
  · rw [h]; exact mk_Fi_add
  · rw [h]; exact mk_Fi_made
  · rw [h]; exact mk_Fi_tell
  · rw [h]; exact mk_Fl_isPreferred
  · rw [h]; exact mk_R_firstIndexOf
  · rw [h]; exact mk_R_hexadecimal
  · rw [h]; exact mk_R_isDropped
  · rw [h]; exact mk_R_recentCharacter
  · rw [h]; exact mk_R_restart
  · rw [h]; exact mk_Sg_covers
  · rw [h]; exact mk_Sg_isFull
  · rw [h]; exact mk_St_movedToEnd
  · rw [h]; exact mk_St_placeOf
  · rw [h]; exact mk_Wo_isDefined
  · rw [h]; exact mk_Wo_letterAt
  · rw [h]; exact mk_Wo_remove
  · rw [h]; exact mk_M_adds
theorem jx_mall1 : ∀ μ, 30 ≤ μ → μ < 60 → jx_mchk (zz.1 μ) = true := by
  intro μ h1 h2
  rcases (show μ = 30 ∨ μ = 31 ∨ μ = 32 ∨ μ = 33 ∨ μ = 34 ∨ μ = 35 ∨ μ = 36 ∨ μ = 37 ∨ μ = 38 ∨ μ = 39 ∨ μ = 40 ∨ μ = 41 ∨ μ = 42 ∨ μ = 43 ∨ μ = 44 ∨ μ = 45 ∨ μ = 46 ∨ μ = 47 ∨ μ = 48 ∨ μ = 49 ∨ μ = 50 ∨ μ = 51 ∨ μ = 52 ∨ μ = 53 ∨ μ = 54 ∨ μ = 55 ∨ μ = 56 ∨ μ = 57 ∨ μ = 58 ∨ μ = 59 by omega) with h | h | h | h | h | h | h | h | h | h | h | h | h | h | h | h | h | h | h | h | h | h | h | h | h | h | h | h | h | h
  · rw [h]; exact mk_M_clear
  · rw [h]; exact mk_M_copies
  · rw [h]; exact mk_M_freeSlot
  · rw [h]; exact mk_M_highOf
  · rw [h]; exact mk_M_in
  · rw [h]; exact mk_M_leaves
  · rw [h]; exact mk_M_letterOf
  · rw [h]; exact mk_M_lowOf
  · rw [h]; exact mk_M_nodeOf
  · rw [h]; exact mk_M_of
  · rw [h]; exact mk_M_order
  · rw [h]; exact mk_M_pieceAt
  · rw [h]; exact mk_M_put
  · rw [h]; exact mk_M_slot
  · rw [h]; exact mk_M_takes
  · rw [h]; exact mk_M_wordLength
  · rw [h]; exact mk_JI_bitCount
  · rw [h]; exact mk_JL_bitCount
  · rw [h]; exact mk_JA_fill
  · rw [h]; exact mk_T_find
  · rw [h]; exact mk_T_firstWrongByte
  · rw [h]; exact mk_T_letter
  · rw [h]; exact mk_T_next
  · rw [h]; exact mk_T_node
  · rw [h]; exact mk_T_possible
  · rw [h]; exact mk_T_read
  · rw [h]; exact mk_T_segmentError
  · rw [h]; exact mk_A_init
  · rw [h]; exact mk_A_added
  · rw [h]; exact mk_A_link
theorem jx_mall2 : ∀ μ, 60 ≤ μ → μ < 90 → jx_mchk (zz.1 μ) = true := by
  intro μ h1 h2
  rcases (show μ = 60 ∨ μ = 61 ∨ μ = 62 ∨ μ = 63 ∨ μ = 64 ∨ μ = 65 ∨ μ = 66 ∨ μ = 67 ∨ μ = 68 ∨ μ = 69 ∨ μ = 70 ∨ μ = 71 ∨ μ = 72 ∨ μ = 73 ∨ μ = 74 ∨ μ = 75 ∨ μ = 76 ∨ μ = 77 ∨ μ = 78 ∨ μ = 79 ∨ μ = 80 ∨ μ = 81 ∨ μ = 82 ∨ μ = 83 ∨ μ = 84 ∨ μ = 85 ∨ μ = 86 ∨ μ = 87 ∨ μ = 88 ∨ μ = 89 by omega) with h | h | h | h | h | h | h | h | h | h | h | h | h | h | h | h | h | h | h | h | h | h | h | h | h | h | h | h | h | h
  · rw [h]; exact mk_A_nextSetByAny
  · rw [h]; exact mk_Fi_init
  · rw [h]; exact mk_Fi_copyFrom
  · rw [h]; exact mk_Fl_chosenPiece
  · rw [h]; exact mk_R_init
  · rw [h]; exact mk_R_begin
  · rw [h]; exact mk_R_come
  · rw [h]; exact mk_R_copyFrom
  · rw [h]; exact mk_Sg_init
  · rw [h]; exact mk_Sg_byteFor
  · rw [h]; exact mk_Sg_isCoveredBefore
  · rw [h]; exact mk_Sg_put
  · rw [h]; exact mk_Sg_smallestStart
  · rw [h]; exact mk_St_remove
  · rw [h]; exact mk_Wo_init
  · rw [h]; exact mk_Wo_copyFrom
  · rw [h]; exact mk_Wo_definedSet
  · rw [h]; exact mk_Wo_put
  · rw [h]; exact mk_M_begins
  · rw [h]; exact mk_M_byteOf
  · rw [h]; exact mk_M_covers
  · rw [h]; exact mk_M_definedSet
  · rw [h]; exact mk_M_drops
  · rw [h]; exact mk_M_endsWith
  · rw [h]; exact mk_M_faultOf
  · rw [h]; exact mk_M_find
  · rw [h]; exact mk_M_flow
  · rw [h]; exact mk_M_has
  · rw [h]; exact mk_M_hexOf
  · rw [h]; exact mk_M_inserts
theorem jx_mall3 : ∀ μ, 90 ≤ μ → μ < 120 → jx_mchk (zz.1 μ) = true := by
  intro μ h1 h2
  rcases (show μ = 90 ∨ μ = 91 ∨ μ = 92 ∨ μ = 93 ∨ μ = 94 ∨ μ = 95 ∨ μ = 96 ∨ μ = 97 ∨ μ = 98 ∨ μ = 99 ∨ μ = 100 ∨ μ = 101 ∨ μ = 102 ∨ μ = 103 ∨ μ = 104 ∨ μ = 105 ∨ μ = 106 ∨ μ = 107 ∨ μ = 108 ∨ μ = 109 ∨ μ = 110 ∨ μ = 111 ∨ μ = 112 ∨ μ = 113 ∨ μ = 114 ∨ μ = 115 ∨ μ = 116 ∨ μ = 117 ∨ μ = 118 ∨ μ = 119 by omega) with h | h | h | h | h | h | h | h | h | h | h | h | h | h | h | h | h | h | h | h | h | h | h | h | h | h | h | h | h | h
  · rw [h]; exact mk_M_isBetter
  · rw [h]; exact mk_M_isPossible
  · rw [h]; exact mk_M_isWord
  · rw [h]; exact mk_M_laysPossible
  · rw [h]; exact mk_M_longest
  · rw [h]; exact mk_M_next
  · rw [h]; exact mk_M_node
  · rw [h]; exact mk_M_placeOf
  · rw [h]; exact mk_M_possibleNow
  · rw [h]; exact mk_M_readNow
  · rw [h]; exact mk_M_records
  · rw [h]; exact mk_M_starts
  · rw [h]; exact mk_M_type
  · rw [h]; exact mk_T_told
  · rw [h]; exact mk_A_addChildren
  · rw [h]; exact mk_A_fewestLettersToWord
  · rw [h]; exact mk_A_spread
  · rw [h]; exact mk_Fl_init
  · rw [h]; exact mk_Fl_begin
  · rw [h]; exact mk_Fl_chosenByte
  · rw [h]; exact mk_Fl_isDisputed
  · rw [h]; exact mk_R_release
  · rw [h]; exact mk_Sg_add
  · rw [h]; exact mk_Sg_coveredFrom
  · rw [h]; exact mk_Sg_dropBefore
  · rw [h]; exact mk_M_asked
  · rw [h]; exact mk_M_chosen
  · rw [h]; exact mk_M_isConflict
  · rw [h]; exact mk_M_lays
  · rw [h]; exact mk_M_letter
theorem jx_mall4 : ∀ μ, 120 ≤ μ → μ < 150 → jx_mchk (zz.1 μ) = true := by
  intro μ h1 h2
  rcases (show μ = 120 ∨ μ = 121 ∨ μ = 122 ∨ μ = 123 ∨ μ = 124 ∨ μ = 125 ∨ μ = 126 ∨ μ = 127 ∨ μ = 128 ∨ μ = 129 ∨ μ = 130 ∨ μ = 131 ∨ μ = 132 ∨ μ = 133 ∨ μ = 134 ∨ μ = 135 ∨ μ = 136 ∨ μ = 137 ∨ μ = 138 ∨ μ = 139 ∨ μ = 140 ∨ μ = 141 ∨ μ = 142 ∨ μ = 143 ∨ μ = 144 ∨ μ = 145 ∨ μ = 146 ∨ μ = 147 ∨ μ = 148 ∨ μ = 149 by omega) with h | h | h | h | h | h | h | h | h | h | h | h | h | h | h | h | h | h | h | h | h | h | h | h | h | h | h | h | h | h
  · rw [h]; exact mk_M_possibleMany
  · rw [h]; exact mk_M_set
  · rw [h]; exact mk_M_steps
  · rw [h]; exact mk_M_told
  · rw [h]; exact mk_M_wrong
  · rw [h]; exact mk_T_byteAt
  · rw [h]; exact mk_T_nearest
  · rw [h]; exact mk_A_build
  · rw [h]; exact mk_Fl_end
  · rw [h]; exact mk_Fl_tell
  · rw [h]; exact mk_R_skip
  · rw [h]; exact mk_R_take
  · rw [h]; exact mk_Sg_copyFrom
  · rw [h]; exact mk_St_init
  · rw [h]; exact mk_St_flowOfSegment
  · rw [h]; exact mk_M_init
  · rw [h]; exact mk_M_byteNow
  · rw [h]; exact mk_M_covered
  · rw [h]; exact mk_M_nearest
  · rw [h]; exact mk_M_others
  · rw [h]; exact mk_M_possible
  · rw [h]; exact mk_M_read
  · rw [h]; exact mk_M_reads
  · rw [h]; exact mk_M_undo
  · rw [h]; exact mk_T_init
  · rw [h]; exact mk_T_mixedWithFlow
  · rw [h]; exact mk_T_property
  · rw [h]; exact mk_T_undo
  · rw [h]; exact mk_T_wordsChanged
  · rw [h]; exact mk_Fl_copyFrom
theorem jx_mall5 : ∀ μ, 150 ≤ μ → μ < 180 → jx_mchk (zz.1 μ) = true := by
  intro μ h1 h2
  rcases (show μ = 150 ∨ μ = 151 ∨ μ = 152 ∨ μ = 153 ∨ μ = 154 ∨ μ = 155 ∨ μ = 156 ∨ μ = 157 ∨ μ = 158 ∨ μ = 159 ∨ μ = 160 ∨ μ = 161 ∨ μ = 162 ∨ μ = 163 ∨ μ = 164 ∨ μ = 165 ∨ μ = 166 ∨ μ = 167 ∨ μ = 168 ∨ μ = 169 ∨ μ = 170 ∨ μ = 171 ∨ μ = 172 ∨ μ = 173 ∨ μ = 174 ∨ μ = 175 ∨ μ = 176 ∨ μ = 177 ∨ μ = 178 ∨ μ = 179 by omega) with h | h | h | h | h | h | h | h | h | h | h | h | h | h | h | h | h | h | h | h | h | h | h | h | h | h | h | h | h | h
  · rw [h]; exact mk_Fl_deliver
  · rw [h]; exact mk_Fl_skipGap
  · rw [h]; exact mk_M_byteAt
  · rw [h]; exact mk_M_character
  · rw [h]; exact mk_M_define
  · rw [h]; exact mk_M_forget
  · rw [h]; exact mk_M_propertyNow
  · rw [h]; exact mk_T_digest
  · rw [h]; exact mk_Fl_accept
  · rw [h]; exact mk_St_copyFrom
  · rw [h]; exact mk_M_lets
  · rw [h]; exact mk_M_mixedFlow
  · rw [h]; exact mk_M_property
  · rw [h]; exact mk_T_handled
  · rw [h]; exact mk_T_record
  · rw [h]; exact mk_T_wordsBy
  · rw [h]; exact mk_M_delivers
  · rw [h]; exact mk_M_digest
  · rw [h]; exact mk_M_finish
  · rw [h]; exact mk_M_gap
  · rw [h]; exact mk_T_define
  · rw [h]; exact mk_T_evasions
  · rw [h]; exact mk_T_finish
  · rw [h]; exact mk_T_forget
  · rw [h]; exact mk_T_ifSegment
  · rw [h]; exact mk_T_replay
  · rw [h]; exact mk_T_segment
  · rw [h]; exact mk_T_set
  · rw [h]; exact mk_M_deliversAll
  · rw [h]; exact mk_M_handles
theorem jx_mall6 : ∀ μ, 180 ≤ μ → μ < 187 → jx_mchk (zz.1 μ) = true := by
  intro μ h1 h2
  rcases (show μ = 180 ∨ μ = 181 ∨ μ = 182 ∨ μ = 183 ∨ μ = 184 ∨ μ = 185 ∨ μ = 186 by omega) with h | h | h | h | h | h | h
  · rw [h]; exact mk_M_handlesText
  · rw [h]; exact mk_M_replays
  · rw [h]; exact mk_M_evasions
  · rw [h]; exact mk_M_replay
  · rw [h]; exact mk_M_segments
  · rw [h]; exact mk_M_ifSegment
  · rw [h]; exact mk_M_segment
theorem jx_mall (μ : Nat) (h : μ < 187) : jx_mchk (zz.1 μ) = true := by
  rcases (show (0 ≤ μ ∧ μ < 30) ∨ (30 ≤ μ ∧ μ < 60) ∨ (60 ≤ μ ∧ μ < 90) ∨ (90 ≤ μ ∧ μ < 120) ∨ (120 ≤ μ ∧ μ < 150) ∨ (150 ≤ μ ∧ μ < 180) ∨ (180 ≤ μ ∧ μ < 187) by omega) with h | h | h | h | h | h | h
  · exact jx_mall0 μ h.1 h.2
  · exact jx_mall1 μ h.1 h.2
  · exact jx_mall2 μ h.1 h.2
  · exact jx_mall3 μ h.1 h.2
  · exact jx_mall4 μ h.1 h.2
  · exact jx_mall5 μ h.1 h.2
  · exact jx_mall6 μ h.1 h.2
theorem jx_mlen : jx_mtab.length = 188 := by decide +kernel
theorem jx_plen : jx_ptab.length = 188 := by decide +kernel
theorem jx_plain : (jx_mtab.all (fun q => plainName q.1.1.cls)) = true := by decide +kernel
theorem jx_pc0 : (jx_ptab.all (fun l => Nat.beq (l.getD 0 (0, [], [])).1 0)) = true := by decide +kernel
theorem jx_vld : jx_valid zz 187 := by
  refine ⟨jx_mall, fun μ => ?_⟩
  by_cases h : μ < 188
  · refine ⟨?_, ?_, jx_vall μ h⟩
    · show plainName (jx_mtab.getD μ jx_d0).1.1.cls = true
      rw [List.getD_eq_getElem?_getD, List.getElem?_eq_getElem (by rw [jx_mlen]; exact h)]
      exact List.all_eq_true.mp jx_plain _ (List.getElem_mem _)
    · show ((jx_ptab.getD μ []).getD 0 (0, [], [])).1 = 0
      rw [List.getD_eq_getElem?_getD (l := jx_ptab), List.getElem?_eq_getElem (by rw [jx_plen]; exact h)]
      exact Nat.eq_of_beq_eq_true (List.all_eq_true.mp jx_pc0 _ (List.getElem_mem _))
  · have e1 : zz.1 μ = jx_d0 := by
      show jx_mtab.getD μ jx_d0 = jx_d0
      have h1 := jx_mlen
      rw [List.getD_eq_getElem?_getD, List.getElem?_eq_none (by omega)]
      rfl
    have e2 : ∀ b, zz.2 μ b = (0, [], []) := by
      intro b
      have h1 := jx_plen
      show (jx_ptab.getD μ []).getD b (0, [], []) = _
      rw [List.getD_eq_getElem?_getD (l := jx_ptab), List.getElem?_eq_none (by omega)]
      rfl
    refine ⟨by rw [e1]; decide +kernel, by rw [e2], fun b => ?_⟩
    rw [e2]
    rfl
