/-! THE CLAIM'S METHODS AS DATA OF THE PLAIN MACHINE (written by wip/whole/gen/gen3.py) -/
abbrev n_T_clear : Nat := 0
abbrev n_T_dropOldest : Nat := 1
abbrev n_T_flow : Nat := 2
abbrev n_T_isKey : Nat := 3
abbrev n_T_isLetter : Nat := 4
abbrev n_T_isWord : Nat := 5
abbrev n_T_mixed : Nat := 6
abbrev n_T_type : Nat := 7
abbrev n_A_has : Nat := 8
abbrev n_A_nextOf : Nat := 9
abbrev n_A_nextSet : Nat := 10
abbrev n_A_wordsOfSet : Nat := 11
abbrev n_Fi_add : Nat := 12
abbrev n_Fi_made : Nat := 13
abbrev n_Fi_tell : Nat := 14
abbrev n_Fl_isPreferred : Nat := 15
abbrev n_R_firstIndexOf : Nat := 16
abbrev n_R_hexadecimal : Nat := 17
abbrev n_R_isDropped : Nat := 18
abbrev n_R_recentCharacter : Nat := 19
abbrev n_R_restart : Nat := 20
abbrev n_Sg_covers : Nat := 21
abbrev n_Sg_isFull : Nat := 22
abbrev n_St_movedToEnd : Nat := 23
abbrev n_St_placeOf : Nat := 24
abbrev n_Wo_isDefined : Nat := 25
abbrev n_Wo_letterAt : Nat := 26
abbrev n_Wo_remove : Nat := 27
abbrev n_M_adds : Nat := 28
abbrev n_M_clear : Nat := 29
abbrev n_M_copies : Nat := 30
abbrev n_M_freeSlot : Nat := 31
abbrev n_M_highOf : Nat := 32
abbrev n_M_in : Nat := 33
abbrev n_M_leaves : Nat := 34
abbrev n_M_letterOf : Nat := 35
abbrev n_M_lowOf : Nat := 36
abbrev n_M_nodeOf : Nat := 37
abbrev n_M_of : Nat := 38
abbrev n_M_order : Nat := 39
abbrev n_M_pieceAt : Nat := 40
abbrev n_M_put : Nat := 41
abbrev n_M_slot : Nat := 42
abbrev n_M_takes : Nat := 43
abbrev n_M_wordLength : Nat := 44
abbrev n_JI_bitCount : Nat := 45
abbrev n_JL_bitCount : Nat := 46
abbrev n_JA_fill : Nat := 47
abbrev n_T_find : Nat := 48
abbrev n_T_firstWrongByte : Nat := 49
abbrev n_T_letter : Nat := 50
abbrev n_T_next : Nat := 51
abbrev n_T_node : Nat := 52
abbrev n_T_possible : Nat := 53
abbrev n_T_read : Nat := 54
abbrev n_T_segmentError : Nat := 55
abbrev n_A_init : Nat := 56
abbrev n_A_added : Nat := 57
abbrev n_A_link : Nat := 58
abbrev n_A_nextSetByAny : Nat := 59
abbrev n_Fi_init : Nat := 60
abbrev n_Fi_copyFrom : Nat := 61
abbrev n_Fl_chosenPiece : Nat := 62
abbrev n_R_init : Nat := 63
abbrev n_R_begin : Nat := 64
abbrev n_R_come : Nat := 65
abbrev n_R_copyFrom : Nat := 66
abbrev n_Sg_init : Nat := 67
abbrev n_Sg_byteFor : Nat := 68
abbrev n_Sg_isCoveredBefore : Nat := 69
abbrev n_Sg_put : Nat := 70
abbrev n_Sg_smallestStart : Nat := 71
abbrev n_St_remove : Nat := 72
abbrev n_Wo_init : Nat := 73
abbrev n_Wo_copyFrom : Nat := 74
abbrev n_Wo_definedSet : Nat := 75
abbrev n_Wo_put : Nat := 76
abbrev n_M_begins : Nat := 77
abbrev n_M_byteOf : Nat := 78
abbrev n_M_covers : Nat := 79
abbrev n_M_definedSet : Nat := 80
abbrev n_M_drops : Nat := 81
abbrev n_M_endsWith : Nat := 82
abbrev n_M_faultOf : Nat := 83
abbrev n_M_find : Nat := 84
abbrev n_M_flow : Nat := 85
abbrev n_M_has : Nat := 86
abbrev n_M_hexOf : Nat := 87
abbrev n_M_inserts : Nat := 88
abbrev n_M_isBetter : Nat := 89
abbrev n_M_isPossible : Nat := 90
abbrev n_M_isWord : Nat := 91
abbrev n_M_laysPossible : Nat := 92
abbrev n_M_longest : Nat := 93
abbrev n_M_next : Nat := 94
abbrev n_M_node : Nat := 95
abbrev n_M_placeOf : Nat := 96
abbrev n_M_possibleNow : Nat := 97
abbrev n_M_readNow : Nat := 98
abbrev n_M_records : Nat := 99
abbrev n_M_starts : Nat := 100
abbrev n_M_type : Nat := 101
abbrev n_T_told : Nat := 102
abbrev n_A_addChildren : Nat := 103
abbrev n_A_fewestLettersToWord : Nat := 104
abbrev n_A_spread : Nat := 105
abbrev n_Fl_init : Nat := 106
abbrev n_Fl_begin : Nat := 107
abbrev n_Fl_chosenByte : Nat := 108
abbrev n_Fl_isDisputed : Nat := 109
abbrev n_R_release : Nat := 110
abbrev n_Sg_add : Nat := 111
abbrev n_Sg_coveredFrom : Nat := 112
abbrev n_Sg_dropBefore : Nat := 113
abbrev n_M_asked : Nat := 114
abbrev n_M_chosen : Nat := 115
abbrev n_M_isConflict : Nat := 116
abbrev n_M_lays : Nat := 117
abbrev n_M_letter : Nat := 118
abbrev n_M_possibleMany : Nat := 119
abbrev n_M_set : Nat := 120
abbrev n_M_steps : Nat := 121
abbrev n_M_told : Nat := 122
abbrev n_M_wrong : Nat := 123
abbrev n_T_byteAt : Nat := 124
abbrev n_T_nearest : Nat := 125
abbrev n_A_build : Nat := 126
abbrev n_Fl_end : Nat := 127
abbrev n_Fl_tell : Nat := 128
abbrev n_R_skip : Nat := 129
abbrev n_R_take : Nat := 130
abbrev n_Sg_copyFrom : Nat := 131
abbrev n_St_init : Nat := 132
abbrev n_St_flowOfSegment : Nat := 133
abbrev n_M_init : Nat := 134
abbrev n_M_byteNow : Nat := 135
abbrev n_M_covered : Nat := 136
abbrev n_M_nearest : Nat := 137
abbrev n_M_others : Nat := 138
abbrev n_M_possible : Nat := 139
abbrev n_M_read : Nat := 140
abbrev n_M_reads : Nat := 141
abbrev n_M_undo : Nat := 142
abbrev n_T_init : Nat := 143
abbrev n_T_mixedWithFlow : Nat := 144
abbrev n_T_property : Nat := 145
abbrev n_T_undo : Nat := 146
abbrev n_T_wordsChanged : Nat := 147
abbrev n_Fl_copyFrom : Nat := 148
abbrev n_Fl_deliver : Nat := 149
abbrev n_Fl_skipGap : Nat := 150
abbrev n_M_byteAt : Nat := 151
abbrev n_M_character : Nat := 152
abbrev n_M_define : Nat := 153
abbrev n_M_forget : Nat := 154
abbrev n_M_propertyNow : Nat := 155
abbrev n_T_digest : Nat := 156
abbrev n_Fl_accept : Nat := 157
abbrev n_St_copyFrom : Nat := 158
abbrev n_M_lets : Nat := 159
abbrev n_M_mixedFlow : Nat := 160
abbrev n_M_property : Nat := 161
abbrev n_T_handled : Nat := 162
abbrev n_T_record : Nat := 163
abbrev n_T_wordsBy : Nat := 164
abbrev n_M_delivers : Nat := 165
abbrev n_M_digest : Nat := 166
abbrev n_M_finish : Nat := 167
abbrev n_M_gap : Nat := 168
abbrev n_T_define : Nat := 169
abbrev n_T_evasions : Nat := 170
abbrev n_T_finish : Nat := 171
abbrev n_T_forget : Nat := 172
abbrev n_T_ifSegment : Nat := 173
abbrev n_T_replay : Nat := 174
abbrev n_T_segment : Nat := 175
abbrev n_T_set : Nat := 176
abbrev n_M_deliversAll : Nat := 177
abbrev n_M_handles : Nat := 178
abbrev n_M_handlesText : Nat := 179
abbrev n_M_replays : Nat := 180
abbrev n_M_evasions : Nat := 181
abbrev n_M_replay : Nat := 182
abbrev n_M_segments : Nat := 183
abbrev n_M_ifSegment : Nat := 184
abbrev n_M_segment : Nat := 185
abbrev n_L_law : Nat := 186
def bk_T_clear : List jx_B := [
  (0, [0], [(1, .aload_n 0, []), (3, .getfield 13, [0, 7, 1, 364]), (1, .istore_n 1, []), (1, .aload_n 0, []), (1, .iconst 0, [0, 0]), (3, .putfield 13, [0, 7, 1, 364]), (1, .iload_n 1, []), (1, .ireturn, [0])])]
def bk_T_dropOldest : List jx_B := [
  (0, [0], [(1, .aload_n 0, []), (3, .getfield 46, [2, 7, 6, 369]), (1, .iconst 0, [0, 0]), (1, .aaload, [5]), (1, .astore_n 1, []), (1, .iconst 1, [0, 1]), (1, .istore_n 2, []), (0, .nop, [1])]),
  (9, [0, 1, 2], [(1, .iload_n 2, []), (1, .iconst 4, [0, 4]), (3, .if_icmp .ge 23, [2]), (1, .aload_n 0, []), (3, .getfield 46, [2, 7, 6, 369]), (1, .iload_n 2, []), (1, .iconst 1, [0, 1]), (1, .isub, []), (1, .aload_n 0, []), (3, .getfield 46, [2, 7, 6, 369]), (1, .iload_n 2, []), (1, .aaload, [5]), (1, .aastore, [5]), (3, .iinc 2 1, [0, 1]), (3, .goto (-22), [1])]),
  (34, [0, 1], [(1, .aload_n 0, []), (3, .getfield 46, [2, 7, 6, 369]), (1, .iconst 3, [0, 3]), (1, .aload_n 1, []), (1, .aastore, [5]), (1, .aload_n 0, []), (1, .iconst 3, [0, 3]), (3, .putfield 50, [0, 7, 7, 370]), (1, .return_, [])])]
def bk_T_flow : List jx_B := [
  (0, [0, 1], [(1, .iload_n 1, []), (3, .ifCond .ge 5, [1]), (1, .iconst (-1), [1, 1]), (1, .ireturn, [0])]),
  (6, [0, 1], [(1, .iload_n 1, []), (1, .aload_n 0, []), (3, .getfield 32, [2, 7, 3, 366]), (3, .getfield 151, [0, 5, 4, 344]), (3, .if_icmp .ge 23, [2]), (1, .iload_n 1, []), (1, .iconst 4, [0, 4]), (3, .if_icmp .ge 18, [2]), (1, .aload_n 0, []), (3, .getfield 32, [2, 7, 3, 366]), (3, .getfield 143, [2, 5, 3, 342]), (1, .iload_n 1, []), (1, .aaload, [2]), (3, .getfield 154, [0, 2, 0, 293]), (3, .goto 5, [3])]),
  (37, [], [(2, .bipush (-9), [1, 9]), (0, .nop, [3])]),
  (39, [], [(1, .ireturn, [0])])]
def bk_T_isKey : List jx_B := [
  (0, [0], [(1, .iload_n 0, []), (3, .ifCond .lt 13, [1]), (1, .iload_n 0, []), (2, .bipush 100, [0, 100]), (3, .if_icmp .ge 7, [1]), (1, .iconst 1, [0, 1]), (3, .goto 4, [2])]),
  (14, [], [(1, .iconst 0, [0, 0]), (0, .nop, [2])]),
  (15, [], [(1, .ireturn, [1])])]
def bk_T_isLetter : List jx_B := [
  (0, [0], [(1, .iload_n 0, []), (2, .bipush 97, [0, 97]), (3, .if_icmp .lt 13, [1]), (1, .iload_n 0, []), (2, .bipush 122, [0, 122]), (3, .if_icmp .gt 7, [1]), (1, .iconst 1, [0, 1]), (3, .goto 4, [2])]),
  (16, [], [(1, .iconst 0, [0, 0]), (0, .nop, [2])]),
  (17, [], [(1, .ireturn, [1])])]
def bk_T_isWord : List jx_B := [
  (0, [0], [(1, .iload_n 0, []), (3, .ifCond .lt 13, [1]), (1, .iload_n 0, []), (2, .bipush 6, [0, 6]), (3, .if_icmp .ge 7, [1]), (1, .iconst 1, [0, 1]), (3, .goto 4, [2])]),
  (14, [], [(1, .iconst 0, [0, 0]), (0, .nop, [2])]),
  (15, [], [(1, .ireturn, [1])])]
def bk_T_mixed : List jx_B := [
  (0, [0, 2], [(3, .ldc2_w 233, [0, 31, 804]), (1, .lload_n 0, []), (1, .lmul, []), (1, .lload_n 2, []), (1, .ladd, []), (1, .lreturn, [])])]
def bk_T_type : List jx_B := [
  (0, [0, 1], [(1, .iload_n 1, []), (2, .bipush 32, [0, 32]), (3, .if_icmp .lt 9, [1]), (1, .iload_n 1, []), (2, .bipush 126, [0, 126]), (3, .if_icmp .le 5, [2]), (0, .nop, [1])]),
  (12, [], [(1, .iconst (-1), [1, 1]), (1, .ireturn, [0])]),
  (14, [0, 1], [(1, .aload_n 0, []), (3, .getfield 13, [0, 7, 1, 364]), (2, .bipush 40, [0, 40]), (3, .if_icmp .lt 6, [3]), (2, .bipush (-3), [1, 3]), (1, .ireturn, [0])]),
  (26, [0, 1], [(1, .aload_n 0, []), (3, .getfield 9, [2, 7, 0, 363]), (1, .aload_n 0, []), (3, .getfield 13, [0, 7, 1, 364]), (1, .iload_n 1, []), (1, .i2b, []), (1, .bastore, []), (1, .aload_n 0, []), (1, .dup, []), (3, .getfield 13, [0, 7, 1, 364]), (1, .iconst 1, [0, 1]), (1, .iadd, []), (3, .putfield 13, [0, 7, 1, 364]), (1, .aload_n 0, []), (3, .getfield 13, [0, 7, 1, 364]), (1, .ireturn, [0])])]
def bk_A_has : List jx_B := [
  (0, [0, 1], [(1, .iload_n 1, []), (3, .ifCond .lt 15, [1]), (1, .iload_n 1, []), (1, .aload_n 0, []), (3, .getfield 9, [0, 0, 0, 103]), (3, .if_icmp .ge 7, [1]), (1, .iconst 1, [0, 1]), (3, .goto 4, [2])]),
  (16, [], [(1, .iconst 0, [0, 0]), (0, .nop, [2])]),
  (17, [], [(1, .ireturn, [1])])]
def bk_A_nextOf : List jx_B := [
  (0, [0, 1, 2], [(1, .aload_n 0, []), (3, .getfield 34, [2, 0, 7, 118]), (1, .iload_n 1, []), (2, .bipush 26, [0, 26]), (1, .imul, []), (1, .iload_n 2, []), (1, .iadd, []), (1, .iaload, [0]), (1, .ireturn, [0])])]
def bk_A_nextSet : List jx_B := [
  (0, [0, 1, 3], [(1, .lconst 0, []), (2, .lstore 4, []), (1, .iconst 0, [0, 0]), (2, .istore 6, []), (0, .nop, [1])]),
  (6, [0, 1, 3, 4, 6], [(2, .iload 6, []), (1, .aload_n 0, []), (3, .getfield 9, [0, 0, 0, 103]), (3, .if_icmp .ge 39, [3]), (1, .lload_n 1, []), (2, .iload 6, []), (1, .lushr, []), (1, .lconst 1, []), (1, .land, []), (1, .lconst 0, []), (1, .lcmp, []), (3, .ifCond .eq 22, [2]), (2, .lload 4, []), (1, .lconst 1, []), (1, .aload_n 0, []), (3, .getfield 34, [2, 0, 7, 118]), (2, .iload 6, []), (2, .bipush 26, [0, 26]), (1, .imul, []), (1, .iload_n 3, []), (1, .iadd, []), (1, .iaload, [0]), (1, .lshl, []), (1, .lor, []), (2, .lstore 4, []), (0, .nop, [2])]),
  (45, [0, 1, 3, 4, 6], [(3, .iinc 6 1, [0, 1]), (3, .goto (-42), [1])]),
  (51, [4], [(2, .lload 4, []), (1, .lreturn, [])])]
def bk_A_wordsOfSet : List jx_B := [
  (0, [0, 1], [(1, .iconst 0, [0, 0]), (1, .istore_n 3, []), (1, .iconst 0, [0, 0]), (2, .istore 4, []), (0, .nop, [1])]),
  (5, [0, 1, 3, 4], [(2, .iload 4, []), (1, .aload_n 0, []), (3, .getfield 9, [0, 0, 0, 103]), (3, .if_icmp .ge 30, [3]), (1, .lload_n 1, []), (2, .iload 4, []), (1, .lushr, []), (1, .lconst 1, []), (1, .land, []), (1, .lconst 0, []), (1, .lcmp, []), (3, .ifCond .eq 13, [2]), (1, .iload_n 3, []), (1, .aload_n 0, []), (3, .getfield 28, [2, 0, 5, 113]), (2, .iload 4, []), (1, .iaload, [0]), (1, .ior, []), (1, .istore_n 3, []), (0, .nop, [2])]),
  (35, [0, 1, 3, 4], [(3, .iinc 4 1, [0, 1]), (3, .goto (-33), [1])]),
  (41, [3], [(1, .iload_n 3, []), (1, .ireturn, [0])])]
def bk_Fi_add : List jx_B := [
  (0, [0, 1, 2, 3, 4], [(1, .aload_n 0, []), (3, .getfield 24, [2, 1, 4, 156]), (1, .aload_n 0, []), (3, .getfield 21, [0, 1, 3, 155]), (1, .iload_n 1, []), (1, .iastore, []), (1, .aload_n 0, []), (3, .getfield 28, [2, 1, 5, 157]), (1, .aload_n 0, []), (3, .getfield 21, [0, 1, 3, 155]), (1, .iload_n 2, []), (1, .iastore, []), (1, .aload_n 0, []), (3, .getfield 31, [2, 1, 6, 158]), (1, .aload_n 0, []), (3, .getfield 21, [0, 1, 3, 155]), (1, .iload_n 3, []), (1, .iastore, []), (1, .aload_n 0, []), (3, .getfield 34, [2, 1, 7, 159]), (1, .aload_n 0, []), (3, .getfield 21, [0, 1, 3, 155]), (2, .iload 4, []), (1, .iastore, []), (1, .aload_n 0, []), (1, .aload_n 0, []), (3, .getfield 21, [0, 1, 3, 155]), (1, .iconst 1, [0, 1]), (1, .iadd, []), (2, .bipush 30, [0, 30]), (3, .if_icmp .ge 12, [1]), (1, .aload_n 0, []), (3, .getfield 21, [0, 1, 3, 155]), (1, .iconst 1, [0, 1]), (1, .iadd, []), (3, .goto 4, [2])]),
  (62, [0, 3], [(1, .iconst 0, [0, 0]), (0, .nop, [2])]),
  (63, [0, 3], [(3, .putfield 21, [0, 1, 3, 155]), (1, .aload_n 0, []), (3, .getfield 18, [0, 1, 2, 153]), (2, .bipush 30, [0, 30]), (3, .if_icmp .ge 13, [3]), (1, .aload_n 0, []), (1, .dup, []), (3, .getfield 18, [0, 1, 2, 153]), (1, .iconst 1, [0, 1]), (1, .iadd, []), (3, .putfield 18, [0, 1, 2, 153]), (0, .nop, [3])]),
  (85, [0, 3], [(1, .iload_n 3, []), (2, .bipush (-9), [1, 9]), (3, .if_icmp .ne 16, [4]), (1, .aload_n 0, []), (1, .dup, []), (3, .getfield 15, [0, 1, 1, 151]), (1, .iconst 1, [0, 1]), (1, .iadd, []), (3, .putfield 15, [0, 1, 1, 151]), (3, .goto 13, [5])]),
  (104, [0], [(1, .aload_n 0, []), (1, .dup, []), (3, .getfield 9, [0, 1, 0, 149]), (1, .iconst 1, [0, 1]), (1, .iadd, []), (3, .putfield 9, [0, 1, 0, 149]), (0, .nop, [5])]),
  (114, [], [(1, .return_, [])])]
def bk_Fi_made : List jx_B := [
  (0, [0], [(1, .aload_n 0, []), (3, .getfield 9, [0, 1, 0, 149]), (1, .aload_n 0, []), (3, .getfield 15, [0, 1, 1, 151]), (1, .iadd, []), (1, .ireturn, [0])])]
def bk_Fi_tell : List jx_B := [
  (0, [0, 1, 2], [(1, .iload_n 1, []), (3, .ifCond .lt 11, [1]), (1, .iload_n 1, []), (1, .aload_n 0, []), (3, .getfield 18, [0, 1, 2, 153]), (3, .if_icmp .lt 6, [2]), (0, .nop, [1])]),
  (12, [], [(2, .bipush (-9), [1, 9]), (1, .ireturn, [0])]),
  (15, [0, 1, 2], [(1, .aload_n 0, []), (3, .getfield 21, [0, 1, 3, 155]), (1, .iload_n 1, []), (3, .if_icmp .le 14, [3]), (1, .aload_n 0, []), (3, .getfield 21, [0, 1, 3, 155]), (1, .iconst 1, [0, 1]), (1, .isub, []), (1, .iload_n 1, []), (1, .isub, []), (3, .goto 14, [4])]),
  (34, [0, 1, 2], [(1, .aload_n 0, []), (3, .getfield 21, [0, 1, 3, 155]), (1, .iconst 1, [0, 1]), (1, .isub, []), (1, .iload_n 1, []), (1, .isub, []), (2, .bipush 30, [0, 30]), (1, .iadd, []), (0, .nop, [4])]),
  (45, [0, 2], [(1, .istore_n 3, []), (1, .iload_n 2, []), (25, .tableswitch 46 0 2 #[25, 32, 39], [8, 5, 6, 7])]),
  (72, [0, 3], [(1, .aload_n 0, []), (3, .getfield 24, [2, 1, 4, 156]), (1, .iload_n 3, []), (1, .iaload, [0]), (1, .ireturn, [0])]),
  (79, [0, 3], [(1, .aload_n 0, []), (3, .getfield 28, [2, 1, 5, 157]), (1, .iload_n 3, []), (1, .iaload, [0]), (1, .ireturn, [0])]),
  (86, [0, 3], [(1, .aload_n 0, []), (3, .getfield 31, [2, 1, 6, 158]), (1, .iload_n 3, []), (1, .iaload, [0]), (1, .ireturn, [0])]),
  (93, [0, 3], [(1, .aload_n 0, []), (3, .getfield 34, [2, 1, 7, 159]), (1, .iload_n 3, []), (1, .iaload, [0]), (1, .ireturn, [0])])]
def bk_Fl_isPreferred : List jx_B := [
  (0, [0, 1, 2], [(1, .aload_n 0, []), (3, .getfield 36, [0, 2, 1, 294]), (28, .tableswitch 84 1 3 #[28, 30, 57], [8, 1, 2, 5])]),
  (32, [], [(1, .iconst 1, [0, 1]), (1, .ireturn, [1])]),
  (34, [0, 1, 2], [(1, .aload_n 0, []), (3, .getfield 14, [2, 2, 4, 299]), (3, .getfield 121, [2, 4, 1, 212]), (1, .iload_n 1, []), (1, .iaload, [0]), (1, .aload_n 0, []), (3, .getfield 14, [2, 2, 4, 299]), (3, .getfield 121, [2, 4, 1, 212]), (1, .iload_n 2, []), (1, .iaload, [0]), (3, .if_icmp .ge 7, [3]), (1, .iconst 1, [0, 1]), (3, .goto 4, [4])]),
  (59, [], [(1, .iconst 0, [0, 0]), (0, .nop, [4])]),
  (60, [], [(1, .ireturn, [1])]),
  (61, [0, 1, 2], [(1, .aload_n 0, []), (3, .getfield 14, [2, 2, 4, 299]), (3, .getfield 125, [2, 4, 2, 215]), (1, .iload_n 1, []), (1, .iaload, [0]), (1, .aload_n 0, []), (3, .getfield 14, [2, 2, 4, 299]), (3, .getfield 125, [2, 4, 2, 215]), (1, .iload_n 2, []), (1, .iaload, [0]), (3, .if_icmp .le 7, [6]), (1, .iconst 1, [0, 1]), (3, .goto 4, [7])]),
  (86, [], [(1, .iconst 0, [0, 0]), (0, .nop, [7])]),
  (87, [], [(1, .ireturn, [1])]),
  (88, [], [(1, .iconst 0, [0, 0]), (1, .ireturn, [1])])]
def bk_R_firstIndexOf : List jx_B := [
  (0, [0, 1], [(1, .aload_n 0, []), (3, .getfield 40, [0, 3, 11, 252]), (1, .iload_n 1, []), (1, .isub, []), (1, .istore_n 2, []), (1, .iload_n 2, []), (3, .ifCond .ge 7, [1]), (1, .iconst 0, [0, 0]), (3, .goto 12, [2])]),
  (15, [0, 2], [(1, .aload_n 0, []), (3, .getfield 15, [2, 3, 10, 251]), (1, .iload_n 2, []), (2, .bipush 8, [0, 8]), (1, .irem, []), (1, .iaload, [0]), (0, .nop, [2])]),
  (24, [], [(1, .ireturn, [0])])]
def bk_R_hexadecimal : List jx_B := [
  (0, [0], [(1, .iload_n 0, []), (2, .bipush 48, [0, 48]), (3, .if_icmp .lt 14, [1]), (1, .iload_n 0, []), (2, .bipush 57, [0, 57]), (3, .if_icmp .gt 8, [1]), (1, .iload_n 0, []), (2, .bipush 48, [0, 48]), (1, .isub, []), (1, .ireturn, [0])]),
  (17, [0], [(1, .iload_n 0, []), (2, .bipush 65, [0, 65]), (3, .if_icmp .lt 17, [2]), (1, .iload_n 0, []), (2, .bipush 70, [0, 70]), (3, .if_icmp .gt 11, [2]), (1, .iload_n 0, []), (2, .bipush 65, [0, 65]), (1, .isub, []), (2, .bipush 10, [0, 10]), (1, .iadd, []), (1, .ireturn, [0])]),
  (37, [0], [(1, .iload_n 0, []), (2, .bipush 97, [0, 97]), (3, .if_icmp .lt 19, [3]), (1, .iload_n 0, []), (2, .bipush 102, [0, 102]), (3, .if_icmp .gt 13, [3]), (1, .iload_n 0, []), (2, .bipush 97, [0, 97]), (1, .isub, []), (2, .bipush 10, [0, 10]), (1, .iadd, []), (3, .goto 4, [4])]),
  (59, [], [(1, .iconst (-1), [1, 1]), (0, .nop, [4])]),
  (60, [], [(1, .ireturn, [0])])]
def bk_R_isDropped : List jx_B := [
  (0, [0, 1], [(1, .aload_n 0, []), (3, .getfield 30, [0, 3, 3, 237]), (2, .bipush 8, [0, 8]), (1, .iand, []), (3, .ifCond .eq 17, [2]), (1, .iload_n 1, []), (2, .bipush 45, [0, 45]), (3, .if_icmp .eq 9, [1]), (1, .iload_n 1, []), (2, .bipush 46, [0, 46]), (3, .if_icmp .ne 5, [2]), (0, .nop, [1])]),
  (22, [], [(1, .iconst 1, [0, 1]), (1, .ireturn, [1])]),
  (24, [0, 1], [(1, .aload_n 0, []), (3, .getfield 30, [0, 3, 3, 237]), (1, .iconst 4, [0, 4]), (1, .iand, []), (3, .ifCond .eq 20, [3]), (1, .iload_n 1, []), (2, .bipush 32, [0, 32]), (3, .if_icmp .ne 14, [3]), (1, .aload_n 0, []), (3, .getfield 36, [0, 3, 6, 243]), (3, .ifCond .eq 7, [3]), (1, .iconst 1, [0, 1]), (3, .goto 4, [4])]),
  (50, [], [(1, .iconst 0, [0, 0]), (0, .nop, [4])]),
  (51, [], [(1, .ireturn, [1])])]
def bk_R_recentCharacter : List jx_B := [
  (0, [0, 1], [(1, .iload_n 1, []), (1, .aload_n 0, []), (3, .getfield 40, [0, 3, 11, 252]), (3, .if_icmp .ge 22, [1]), (1, .aload_n 0, []), (3, .getfield 9, [2, 3, 9, 250]), (1, .aload_n 0, []), (3, .getfield 40, [0, 3, 11, 252]), (1, .iconst 1, [0, 1]), (1, .isub, []), (1, .iload_n 1, []), (1, .isub, []), (2, .bipush 8, [0, 8]), (1, .irem, []), (1, .iaload, [0]), (3, .goto 5, [2])]),
  (27, [], [(2, .bipush (-9), [1, 9]), (0, .nop, [2])]),
  (29, [], [(1, .ireturn, [0])])]
def bk_R_restart : List jx_B := [
  (0, [0], [(1, .aload_n 0, []), (1, .iconst 0, [0, 0]), (3, .putfield 55, [0, 3, 7, 244]), (1, .aload_n 0, []), (1, .lconst 1, []), (3, .putfield 58, [1, 3, 8, 247]), (1, .return_, [])])]
def bk_Sg_covers : List jx_B := [
  (0, [0, 1, 2], [(1, .iload_n 1, []), (3, .ifCond .lt 42, [1]), (1, .iload_n 1, []), (1, .aload_n 0, []), (3, .getfield 9, [0, 4, 0, 208]), (3, .if_icmp .ge 34, [1]), (1, .iload_n 2, []), (1, .aload_n 0, []), (3, .getfield 15, [2, 4, 1, 211]), (1, .iload_n 1, []), (1, .iaload, [0]), (3, .if_icmp .lt 24, [1]), (1, .iload_n 2, []), (1, .aload_n 0, []), (3, .getfield 15, [2, 4, 1, 211]), (1, .iload_n 1, []), (1, .iaload, [0]), (1, .aload_n 0, []), (3, .getfield 19, [2, 4, 2, 214]), (1, .iload_n 1, []), (1, .iaload, [0]), (1, .iadd, []), (3, .if_icmp .ge 7, [1]), (1, .iconst 1, [0, 1]), (3, .goto 4, [2])]),
  (43, [], [(1, .iconst 0, [0, 0]), (0, .nop, [2])]),
  (44, [], [(1, .ireturn, [1])])]
def bk_Sg_isFull : List jx_B := [
  (0, [0], [(1, .aload_n 0, []), (3, .getfield 9, [0, 4, 0, 208]), (1, .aload_n 0, []), (3, .getfield 15, [2, 4, 1, 211]), (1, .arraylength, [0]), (3, .if_icmp .lt 7, [1]), (1, .iconst 1, [0, 1]), (3, .goto 4, [2])]),
  (16, [], [(1, .iconst 0, [0, 0]), (0, .nop, [2])]),
  (17, [], [(1, .ireturn, [1])])]
def bk_St_movedToEnd : List jx_B := [
  (0, [0, 1], [(1, .aload_n 0, []), (3, .getfield 24, [2, 5, 3, 341]), (1, .iload_n 1, []), (1, .aaload, [2]), (1, .astore_n 2, []), (1, .iload_n 1, []), (1, .iconst 1, [0, 1]), (1, .iadd, []), (1, .istore_n 3, []), (0, .nop, [1])]),
  (11, [0, 2, 3], [(1, .iload_n 3, []), (1, .aload_n 0, []), (3, .getfield 28, [0, 5, 4, 343]), (3, .if_icmp .ge 28, [2]), (1, .iload_n 3, []), (1, .iconst 4, [0, 4]), (3, .if_icmp .ge 23, [2]), (1, .aload_n 0, []), (3, .getfield 24, [2, 5, 3, 341]), (1, .iload_n 3, []), (1, .iconst 1, [0, 1]), (1, .isub, []), (1, .aload_n 0, []), (3, .getfield 24, [2, 5, 3, 341]), (1, .iload_n 3, []), (1, .aaload, [2]), (1, .aastore, [2]), (3, .iinc 3 1, [0, 1]), (3, .goto (-30), [1])]),
  (44, [0, 2], [(1, .aload_n 0, []), (3, .getfield 24, [2, 5, 3, 341]), (1, .aload_n 0, []), (3, .getfield 28, [0, 5, 4, 343]), (1, .iconst 1, [0, 1]), (1, .isub, []), (1, .aload_n 2, []), (1, .aastore, [2]), (1, .aload_n 2, []), (1, .areturn, [])])]
def bk_St_placeOf : List jx_B := [
  (0, [0, 1], [(1, .iconst 0, [0, 0]), (1, .istore_n 2, []), (0, .nop, [1])]),
  (2, [0, 1, 2], [(1, .iload_n 2, []), (1, .aload_n 0, []), (3, .getfield 28, [0, 5, 4, 343]), (3, .if_icmp .ge 29, [3]), (1, .iload_n 2, []), (1, .iconst 4, [0, 4]), (3, .if_icmp .ge 24, [3]), (1, .aload_n 0, []), (3, .getfield 24, [2, 5, 3, 341]), (1, .iload_n 2, []), (1, .aaload, [2]), (3, .getfield 60, [0, 2, 0, 292]), (1, .iload_n 1, []), (3, .if_icmp .ne 5, [2]), (1, .iload_n 2, []), (1, .ireturn, [0])]),
  (30, [0, 1, 2], [(3, .iinc 2 1, [0, 1]), (3, .goto (-31), [1])]),
  (36, [], [(1, .iconst (-1), [1, 1]), (1, .ireturn, [0])])]
def bk_Wo_isDefined : List jx_B := [
  (0, [0, 1], [(1, .aload_n 0, []), (3, .getfield 9, [2, 6, 0, 187]), (1, .iload_n 1, []), (1, .iaload, [0]), (3, .ifCond .le 7, [1]), (1, .iconst 1, [0, 1]), (3, .goto 4, [2])]),
  (13, [], [(1, .iconst 0, [0, 0]), (0, .nop, [2])]),
  (14, [], [(1, .ireturn, [1])])]
def bk_Wo_letterAt : List jx_B := [
  (0, [0, 1, 2], [(1, .iload_n 2, []), (1, .aload_n 0, []), (3, .getfield 9, [2, 6, 0, 187]), (1, .iload_n 1, []), (1, .iaload, [0]), (3, .if_icmp .ge 17, [1]), (1, .aload_n 0, []), (3, .getfield 15, [2, 6, 1, 189]), (1, .iload_n 1, []), (2, .bipush 8, [0, 8]), (1, .imul, []), (1, .iload_n 2, []), (1, .iadd, []), (1, .baload, []), (3, .goto 5, [2])]),
  (24, [], [(2, .bipush (-9), [1, 9]), (0, .nop, [2])]),
  (26, [], [(1, .ireturn, [0])])]
def bk_Wo_remove : List jx_B := [
  (0, [0, 1], [(1, .aload_n 0, []), (3, .getfield 9, [2, 6, 0, 187]), (1, .iload_n 1, []), (1, .iconst 0, [0, 0]), (1, .iastore, []), (1, .return_, [])])]
def bk_M_adds : List jx_B := [
  (0, [0, 1, 2], [(1, .aload_n 0, []), (3, .getfield 7, [2, 8, 0, 851]), (1, .aload_n 0, []), (3, .getfield 109, [0, 8, 12, 863]), (1, .iload_n 1, []), (1, .iadd, []), (1, .dup2, []), (1, .iaload, [0]), (1, .iload_n 2, []), (1, .iadd, []), (1, .iastore, []), (1, .return_, [])])]
def bk_M_clear : List jx_B := [
  (0, [0], [(1, .aload_n 0, []), (3, .getfield 89, [0, 8, 3, 854]), (1, .istore_n 1, []), (1, .aload_n 0, []), (1, .iconst 0, [0, 0]), (3, .putfield 89, [0, 8, 3, 854]), (1, .iload_n 1, []), (1, .ireturn, [0])])]
def bk_M_copies : List jx_B := [
  (0, [0, 1, 2], [(1, .iconst 0, [0, 0]), (1, .istore_n 3, []), (0, .nop, [1])]),
  (2, [0, 1, 2, 3], [(1, .iload_n 3, []), (3, .sipush 3736, [0, 3736]), (3, .if_icmp .ge 33, [2]), (1, .aload_n 0, []), (3, .getfield 7, [2, 8, 0, 851]), (3, .sipush 3736, [0, 3736]), (1, .iload_n 2, []), (1, .imul, []), (1, .iload_n 3, []), (1, .iadd, []), (1, .aload_n 0, []), (3, .getfield 7, [2, 8, 0, 851]), (3, .sipush 3736, [0, 3736]), (1, .iload_n 1, []), (1, .imul, []), (1, .iload_n 3, []), (1, .iadd, []), (1, .iaload, [0]), (1, .iastore, []), (3, .iinc 3 1, [0, 1]), (3, .goto (-34), [1])]),
  (39, [], [(1, .return_, [])])]
def bk_M_freeSlot : List jx_B := [
  (0, [0], [(1, .iconst 0, [0, 0]), (1, .istore_n 1, []), (1, .iconst 1, [0, 1]), (1, .istore_n 2, []), (0, .nop, [1])]),
  (4, [0, 1, 2], [(1, .iload_n 2, []), (3, .ifCond .eq 62, [9]), (1, .iconst 0, [0, 0]), (1, .istore_n 2, []), (1, .iconst 0, [0, 0]), (1, .istore_n 3, []), (0, .nop, [2])]),
  (12, [0, 1, 2, 3], [(1, .iload_n 3, []), (1, .aload_n 0, []), (3, .getfield 7, [2, 8, 0, 851]), (2, .bipush 57, [0, 57]), (1, .iaload, [0]), (3, .if_icmp .ge 32, [6]), (1, .iload_n 2, []), (3, .ifCond .ne 16, [3]), (1, .aload_n 0, []), (3, .getfield 7, [2, 8, 0, 851]), (2, .bipush 58, [0, 58]), (1, .iload_n 3, []), (1, .iadd, []), (1, .iaload, [0]), (1, .iload_n 1, []), (3, .if_icmp .ne 7, [4]), (0, .nop, [3])]),
  (40, [0, 1, 3], [(1, .iconst 1, [0, 1]), (3, .goto 4, [5])]),
  (44, [0, 1, 3], [(1, .iconst 0, [0, 0]), (0, .nop, [5])]),
  (45, [0, 1, 3], [(1, .istore_n 2, []), (3, .iinc 3 1, [0, 1]), (3, .goto (-37), [2])]),
  (52, [0, 1, 2], [(1, .iload_n 1, []), (1, .iload_n 2, []), (3, .ifCond .eq 7, [7]), (1, .iconst 1, [0, 1]), (3, .goto 4, [8])]),
  (61, [0, 2], [(1, .iconst 0, [0, 0]), (0, .nop, [8])]),
  (62, [0, 2], [(1, .iadd, []), (1, .istore_n 1, []), (3, .goto (-60), [1])]),
  (67, [1], [(1, .iload_n 1, []), (1, .ireturn, [0])])]
def bk_M_highOf : List jx_B := [
  (0, [0], [(1, .iload_n 0, []), (2, .bipush 25, [0, 25]), (3, .if_icmp .ge 7, [1]), (1, .iconst 0, [0, 0]), (3, .goto 9, [2])]),
  (10, [0], [(1, .iconst 1, [0, 1]), (1, .iload_n 0, []), (2, .bipush 25, [0, 25]), (1, .isub, []), (1, .ishl, []), (0, .nop, [2])]),
  (16, [], [(1, .ireturn, [0])])]
def bk_M_in : List jx_B := [
  (0, [0, 1, 2], [(1, .iload_n 0, []), (1, .iload_n 1, []), (3, .if_icmp .lt 12, [1]), (1, .iload_n 0, []), (1, .iload_n 2, []), (3, .if_icmp .gt 7, [1]), (1, .iconst 1, [0, 1]), (3, .goto 4, [2])]),
  (14, [], [(1, .iconst 0, [0, 0]), (0, .nop, [2])]),
  (15, [], [(1, .ireturn, [1])])]
def bk_M_leaves : List jx_B := [
  (0, [0, 1], [(1, .iload_n 1, []), (1, .istore_n 2, []), (0, .nop, [1])]),
  (2, [0, 2], [(1, .iload_n 2, []), (1, .iconst 1, [0, 1]), (1, .iadd, []), (1, .aload_n 0, []), (3, .getfield 7, [2, 8, 0, 851]), (2, .bipush 57, [0, 57]), (1, .iaload, [0]), (3, .if_icmp .ge 29, [2]), (1, .aload_n 0, []), (3, .getfield 7, [2, 8, 0, 851]), (2, .bipush 58, [0, 58]), (1, .iload_n 2, []), (1, .iadd, []), (1, .aload_n 0, []), (3, .getfield 7, [2, 8, 0, 851]), (2, .bipush 58, [0, 58]), (1, .iload_n 2, []), (1, .iadd, []), (1, .iconst 1, [0, 1]), (1, .iadd, []), (1, .iaload, [0]), (1, .iastore, []), (3, .iinc 2 1, [0, 1]), (3, .goto (-36), [1])]),
  (41, [0], [(1, .aload_n 0, []), (3, .getfield 7, [2, 8, 0, 851]), (2, .bipush 57, [0, 57]), (1, .dup2, []), (1, .iaload, [0]), (1, .iconst 1, [0, 1]), (1, .isub, []), (1, .iastore, []), (1, .return_, [])])]
def bk_M_letterOf : List jx_B := [
  (0, [0, 1, 2], [(1, .aload_n 0, []), (3, .getfield 7, [2, 8, 0, 851]), (2, .bipush 9, [0, 9]), (1, .iload_n 1, []), (1, .imul, []), (1, .iconst 1, [0, 1]), (1, .iadd, []), (1, .iload_n 2, []), (1, .iadd, []), (1, .iaload, [0]), (1, .ireturn, [0])])]
def bk_M_lowOf : List jx_B := [
  (0, [0], [(1, .iload_n 0, []), (2, .bipush 25, [0, 25]), (3, .if_icmp .ge 9, [1]), (1, .iconst 1, [0, 1]), (1, .iload_n 0, []), (1, .ishl, []), (3, .goto 4, [2])]),
  (12, [], [(1, .iconst 0, [0, 0]), (0, .nop, [2])]),
  (13, [], [(1, .ireturn, [0])])]
def bk_M_nodeOf : List jx_B := [
  (0, [0, 1, 2], [(1, .iconst 0, [0, 0]), (1, .istore_n 3, []), (0, .nop, [1])]),
  (2, [0, 1, 2, 3], [(1, .iload_n 3, []), (1, .aload_n 0, []), (3, .getfield 54, [0, 8, 4, 855]), (3, .if_icmp .ge 84, [9]), (1, .aload_n 0, []), (3, .getfield 16, [2, 8, 5, 856]), (1, .iload_n 3, []), (1, .iaload, [0]), (1, .iload_n 2, []), (3, .if_icmp .ne 7, [2]), (1, .iconst 1, [0, 1]), (3, .goto 4, [3])]),
  (24, [0, 1, 2, 3], [(1, .iconst 0, [0, 0]), (0, .nop, [3])]),
  (25, [0, 1, 2, 3], [(2, .istore 4, []), (1, .iconst 0, [0, 0]), (2, .istore 5, []), (0, .nop, [4])]),
  (30, [0, 1, 2, 3, 4, 5], [(2, .iload 5, []), (1, .iload_n 2, []), (3, .if_icmp .ge 45, [7]), (2, .iload 4, []), (3, .ifCond .eq 40, [7]), (1, .aload_n 0, []), (3, .getfield 19, [2, 8, 6, 857]), (2, .bipush 8, [0, 8]), (1, .iload_n 3, []), (1, .imul, []), (2, .iload 5, []), (1, .iadd, []), (1, .iaload, [0]), (1, .aload_n 0, []), (3, .getfield 34, [2, 8, 11, 862]), (1, .iload_n 1, []), (2, .iload 5, []), (1, .iadd, []), (1, .iaload, [0]), (3, .if_icmp .ne 7, [5]), (1, .iconst 1, [0, 1]), (3, .goto 4, [6])]),
  (69, [0, 1, 2, 3, 5], [(1, .iconst 0, [0, 0]), (0, .nop, [6])]),
  (70, [0, 1, 2, 3, 5], [(2, .istore 4, []), (3, .iinc 5 1, [0, 1]), (3, .goto (-45), [4])]),
  (78, [0, 1, 2, 3, 4], [(2, .iload 4, []), (3, .ifCond .eq 5, [8]), (1, .iload_n 3, []), (1, .ireturn, [0])]),
  (85, [0, 1, 2, 3], [(3, .iinc 3 1, [0, 1]), (3, .goto (-86), [1])]),
  (91, [], [(2, .bipush (-9), [1, 9]), (1, .ireturn, [0])])]
def bk_M_of : List jx_B := [
  (0, [0, 1], [(1, .aload_n 0, []), (3, .getfield 7, [2, 8, 0, 851]), (1, .aload_n 0, []), (3, .getfield 109, [0, 8, 12, 863]), (1, .iload_n 1, []), (1, .iadd, []), (1, .iaload, [0]), (1, .ireturn, [0])])]
def bk_M_order : List jx_B := [
  (0, [0, 1, 2], [(1, .iconst 0, [0, 0]), (1, .istore_n 3, []), (0, .nop, [1])]),
  (2, [0, 1, 2, 3], [(1, .iload_n 3, []), (1, .iload_n 2, []), (3, .if_icmp .ge 37, [3]), (1, .aload_n 0, []), (3, .getfield 19, [2, 8, 6, 857]), (2, .bipush 8, [0, 8]), (1, .iload_n 1, []), (1, .imul, []), (1, .iload_n 3, []), (1, .iadd, []), (1, .iaload, [0]), (1, .aload_n 0, []), (3, .getfield 34, [2, 8, 11, 862]), (1, .iload_n 3, []), (1, .iaload, [0]), (1, .isub, []), (2, .istore 4, []), (2, .iload 4, []), (3, .ifCond .eq 6, [2]), (2, .iload 4, []), (1, .ireturn, [0])]),
  (35, [0, 1, 2, 3], [(3, .iinc 3 1, [0, 1]), (3, .goto (-36), [1])]),
  (41, [], [(1, .iconst 0, [0, 0]), (1, .ireturn, [0])])]
def bk_M_pieceAt : List jx_B := [
  (0, [0, 1], [(1, .aload_n 0, []), (3, .getfield 109, [0, 8, 12, 863]), (2, .bipush 38, [0, 38]), (1, .iadd, []), (2, .bipush 42, [0, 42]), (1, .iload_n 1, []), (1, .imul, []), (1, .iadd, []), (1, .ireturn, [0])])]
def bk_M_put : List jx_B := [
  (0, [0, 1, 2], [(1, .aload_n 0, []), (3, .getfield 7, [2, 8, 0, 851]), (1, .aload_n 0, []), (3, .getfield 109, [0, 8, 12, 863]), (1, .iload_n 1, []), (1, .iadd, []), (1, .iload_n 2, []), (1, .iastore, []), (1, .return_, [])])]
def bk_M_slot : List jx_B := [
  (0, [0, 1], [(3, .sipush 186, [0, 186]), (3, .sipush 710, [0, 710]), (1, .aload_n 0, []), (3, .getfield 7, [2, 8, 0, 851]), (2, .bipush 58, [0, 58]), (1, .iload_n 1, []), (1, .iadd, []), (1, .iaload, [0]), (1, .imul, []), (1, .iadd, []), (1, .ireturn, [0])])]
def bk_M_takes : List jx_B := [
  (0, [0, 1], [(1, .iconst 0, [0, 0]), (1, .istore_n 2, []), (0, .nop, [1])]),
  (2, [0, 1, 2], [(1, .iload_n 2, []), (1, .aload_n 0, []), (3, .getfield 16, [2, 8, 5, 856]), (1, .iload_n 1, []), (1, .iaload, [0]), (3, .if_icmp .ge 26, [2]), (1, .aload_n 0, []), (3, .getfield 34, [2, 8, 11, 862]), (1, .iload_n 2, []), (1, .aload_n 0, []), (3, .getfield 19, [2, 8, 6, 857]), (2, .bipush 8, [0, 8]), (1, .iload_n 1, []), (1, .imul, []), (1, .iload_n 2, []), (1, .iadd, []), (1, .iaload, [0]), (1, .iastore, []), (3, .iinc 2 1, [0, 1]), (3, .goto (-30), [1])]),
  (35, [], [(1, .return_, [])])]
def bk_M_wordLength : List jx_B := [
  (0, [0, 1], [(1, .aload_n 0, []), (3, .getfield 7, [2, 8, 0, 851]), (2, .bipush 9, [0, 9]), (1, .iload_n 1, []), (1, .imul, []), (1, .iaload, [0]), (1, .ireturn, [0])])]
def bk_JI_bitCount : List jx_B := [
  (0, [0], [(1, .iload_n 0, []), (1, .iload_n 0, []), (1, .iconst 1, [0, 1]), (1, .iushr, []), (3, .ldc_w 265, [1431655765, 651]), (1, .iand, []), (1, .isub, []), (1, .istore_n 0, []), (1, .iload_n 0, []), (3, .ldc_w 266, [858993459, 652]), (1, .iand, []), (1, .iload_n 0, []), (1, .iconst 2, [0, 2]), (1, .iushr, []), (3, .ldc_w 266, [858993459, 652]), (1, .iand, []), (1, .iadd, []), (1, .istore_n 0, []), (1, .iload_n 0, []), (1, .iload_n 0, []), (1, .iconst 4, [0, 4]), (1, .iushr, []), (1, .iadd, []), (3, .ldc_w 267, [252645135, 653]), (1, .iand, []), (1, .istore_n 0, []), (1, .iload_n 0, []), (1, .iload_n 0, []), (2, .bipush 8, [0, 8]), (1, .iushr, []), (1, .iadd, []), (1, .istore_n 0, []), (1, .iload_n 0, []), (1, .iload_n 0, []), (2, .bipush 16, [0, 16]), (1, .iushr, []), (1, .iadd, []), (1, .istore_n 0, []), (1, .iload_n 0, []), (2, .bipush 63, [0, 63]), (1, .iand, []), (1, .ireturn, [0])])]
def bk_JL_bitCount : List jx_B := [
  (0, [0], [(1, .lload_n 0, []), (1, .lload_n 0, []), (1, .iconst 1, [0, 1]), (1, .lushr, []), (3, .ldc2_w 314, [0, 6148914691236517205, 723]), (1, .land, []), (1, .lsub, []), (1, .lstore_n 0, []), (1, .lload_n 0, []), (3, .ldc2_w 316, [0, 3689348814741910323, 724]), (1, .land, []), (1, .lload_n 0, []), (1, .iconst 2, [0, 2]), (1, .lushr, []), (3, .ldc2_w 316, [0, 3689348814741910323, 724]), (1, .land, []), (1, .ladd, []), (1, .lstore_n 0, []), (1, .lload_n 0, []), (1, .lload_n 0, []), (1, .iconst 4, [0, 4]), (1, .lushr, []), (1, .ladd, []), (3, .ldc2_w 318, [0, 1085102592571150095, 725]), (1, .land, []), (1, .lstore_n 0, []), (1, .lload_n 0, []), (1, .lload_n 0, []), (2, .bipush 8, [0, 8]), (1, .lushr, []), (1, .ladd, []), (1, .lstore_n 0, []), (1, .lload_n 0, []), (1, .lload_n 0, []), (2, .bipush 16, [0, 16]), (1, .lushr, []), (1, .ladd, []), (1, .lstore_n 0, []), (1, .lload_n 0, []), (1, .lload_n 0, []), (2, .bipush 32, [0, 32]), (1, .lushr, []), (1, .ladd, []), (1, .lstore_n 0, []), (1, .lload_n 0, []), (1, .l2i, []), (2, .bipush 127, [0, 127]), (1, .iand, []), (1, .ireturn, [0])])]
def bk_JA_fill : List jx_B := [
  (0, [0, 1], [(1, .iconst 0, [0, 0]), (1, .istore_n 2, []), (1, .aload_n 0, []), (1, .arraylength, [0]), (1, .istore_n 3, []), (0, .nop, [1])]),
  (5, [0, 1, 2, 3], [(1, .iload_n 2, []), (1, .iload_n 3, []), (3, .if_icmp .ge 13, [2]), (1, .aload_n 0, []), (1, .iload_n 2, []), (1, .iload_n 1, []), (1, .iastore, []), (3, .iinc 2 1, [0, 1]), (3, .goto (-12), [1])]),
  (20, [], [(1, .return_, [])])]
def bk_T_find : List jx_B := [
  (0, [0, 1, 2], [(1, .iload_n 1, []), (3, .ifCond .lt 12, [1]), (1, .iload_n 2, []), (3, .ifCond .lt 8, [1]), (1, .iload_n 2, []), (1, .iconst 4, [0, 4]), (3, .if_icmp .lt 5, [2]), (0, .nop, [1])]),
  (13, [], [(1, .iconst (-1), [1, 1]), (1, .ireturn, [0])]),
  (15, [0, 1, 2], [(1, .aload_n 0, []), (3, .getfield 32, [2, 7, 3, 366]), (3, .getfield 136, [2, 5, 2, 340]), (1, .iload_n 1, []), (1, .iload_n 2, []), (3, .invokevirtual 180, [0, 1, 14, 3, 1, 752]), (1, .ireturn, [0])])]
def bk_T_firstWrongByte : List jx_B := [
  (0, [0], [(1, .aload_n 0, []), (3, .getfield 13, [0, 7, 1, 364]), (3, .ifCond .ne 5, [1]), (1, .iconst 0, [0, 0]), (1, .ireturn, [0])]),
  (9, [0], [(1, .iconst 0, [0, 0]), (1, .istore_n 1, []), (0, .nop, [2])]),
  (11, [0, 1], [(1, .iload_n 1, []), (1, .aload_n 0, []), (3, .getfield 13, [0, 7, 1, 364]), (3, .if_icmp .ge 35, [5]), (1, .iload_n 1, []), (2, .bipush 40, [0, 40]), (3, .if_icmp .ge 29, [5]), (1, .iload_n 1, []), (2, .bipush 8, [0, 8]), (3, .if_icmp .ge 15, [3]), (1, .aload_n 0, []), (3, .getfield 9, [2, 7, 0, 363]), (1, .iload_n 1, []), (1, .baload, []), (3, .invokestatic 235, [0, 4, 1, 1, 407]), (3, .ifCond .ne 5, [4]), (0, .nop, [3])]),
  (43, [1], [(1, .iload_n 1, []), (1, .ireturn, [0])]),
  (45, [0, 1], [(3, .iinc 1 1, [0, 1]), (3, .goto (-37), [2])]),
  (51, [], [(1, .iconst (-1), [1, 1]), (1, .ireturn, [0])])]
def bk_T_letter : List jx_B := [
  (0, [0, 1, 2], [(1, .iload_n 1, []), (3, .invokestatic 53, [0, 5, 1, 1, 400]), (3, .ifCond .eq 7, [1]), (1, .iload_n 2, []), (3, .ifCond .ge 5, [2]), (0, .nop, [1])]),
  (11, [], [(1, .iconst (-1), [1, 1]), (1, .ireturn, [0])]),
  (13, [0, 1, 2], [(1, .aload_n 0, []), (3, .getfield 32, [2, 7, 3, 366]), (3, .getfield 64, [2, 5, 0, 336]), (1, .iload_n 1, []), (3, .invokevirtual 80, [0, 6, 25, 2, 1, 508]), (3, .ifCond .eq 18, [3]), (1, .aload_n 0, []), (3, .getfield 32, [2, 7, 3, 366]), (3, .getfield 64, [2, 5, 0, 336]), (1, .iload_n 1, []), (1, .iload_n 2, []), (3, .invokevirtual 87, [0, 6, 26, 3, 1, 520]), (3, .goto 5, [4])]),
  (42, [], [(2, .bipush (-2), [1, 2]), (0, .nop, [4])]),
  (44, [], [(1, .ireturn, [0])])]
def bk_T_next : List jx_B := [
  (0, [0, 1, 2], [(1, .aload_n 0, []), (3, .getfield 20, [2, 7, 2, 365]), (1, .iload_n 1, []), (3, .invokevirtual 91, [0, 0, 8, 2, 1, 525]), (3, .ifCond .eq 13, [1]), (1, .iload_n 2, []), (3, .ifCond .lt 9, [1]), (1, .iload_n 2, []), (2, .bipush 26, [0, 26]), (3, .if_icmp .lt 5, [2]), (0, .nop, [1])]),
  (21, [], [(1, .iconst (-1), [1, 1]), (1, .ireturn, [0])]),
  (23, [0, 1, 2], [(1, .aload_n 0, []), (3, .getfield 20, [2, 7, 2, 365]), (1, .iload_n 1, []), (1, .iload_n 2, []), (3, .invokevirtual 110, [0, 0, 9, 3, 1, 533]), (1, .ireturn, [0])])]
def bk_T_node : List jx_B := [
  (0, [0, 1, 2], [(1, .aload_n 0, []), (3, .getfield 20, [2, 7, 2, 365]), (1, .iload_n 1, []), (3, .invokevirtual 91, [0, 0, 8, 2, 1, 525]), (3, .ifCond .eq 12, [1]), (1, .iload_n 2, []), (3, .ifCond .lt 8, [1]), (1, .iload_n 2, []), (1, .iconst 5, [0, 5]), (3, .if_icmp .lt 5, [2]), (0, .nop, [1])]),
  (20, [], [(1, .iconst (-1), [1, 1]), (1, .ireturn, [0])]),
  (22, [0, 1, 2], [(1, .iload_n 1, []), (3, .ifCond .ne 16, [3]), (1, .iload_n 2, []), (1, .iconst 1, [0, 1]), (3, .if_icmp .lt 11, [3]), (1, .iload_n 2, []), (1, .iconst 3, [0, 3]), (3, .if_icmp .gt 6, [3]), (2, .bipush (-9), [1, 9]), (1, .ireturn, [0])]),
  (39, [0, 1, 2], [(1, .iload_n 2, []), (32, .tableswitch 72 0 3 #[32, 42, 52, 62], [8, 4, 5, 6, 7])]),
  (72, [0, 1], [(1, .aload_n 0, []), (3, .getfield 20, [2, 7, 2, 365]), (3, .getfield 94, [2, 0, 1, 106]), (1, .iload_n 1, []), (1, .iaload, [0]), (1, .ireturn, [0])]),
  (82, [0, 1], [(1, .aload_n 0, []), (3, .getfield 20, [2, 7, 2, 365]), (3, .getfield 98, [2, 0, 2, 108]), (1, .iload_n 1, []), (1, .iaload, [0]), (1, .ireturn, [0])]),
  (92, [0, 1], [(1, .aload_n 0, []), (3, .getfield 20, [2, 7, 2, 365]), (3, .getfield 101, [2, 0, 3, 110]), (1, .iload_n 1, []), (1, .iaload, [0]), (1, .ireturn, [0])]),
  (102, [0, 1], [(1, .aload_n 0, []), (3, .getfield 20, [2, 7, 2, 365]), (3, .getfield 104, [2, 0, 4, 112]), (1, .iload_n 1, []), (1, .iaload, [0]), (1, .ireturn, [0])]),
  (112, [0, 1], [(1, .aload_n 0, []), (3, .getfield 20, [2, 7, 2, 365]), (3, .getfield 107, [2, 0, 5, 114]), (1, .iload_n 1, []), (1, .iaload, [0]), (1, .ireturn, [0])])]
def bk_T_possible : List jx_B := [
  (0, [0, 1], [(1, .iload_n 1, []), (3, .invokestatic 129, [0, 3, 1, 1, 550]), (3, .ifCond .ne 7, [1]), (3, .ldc2_w 163, [1, 1, 738]), (1, .lreturn, [])]),
  (11, [0, 1], [(1, .aload_n 0, []), (3, .getfield 32, [2, 7, 3, 366]), (1, .iload_n 1, []), (3, .invokevirtual 132, [0, 5, 24, 2, 1, 553]), (1, .istore_n 2, []), (1, .iload_n 2, []), (1, .iconst (-1), [1, 1]), (3, .if_icmp .ne 9, [2]), (3, .ldc2_w 165, [1, 2, 739]), (3, .goto 18, [3])]),
  (31, [0, 2], [(1, .aload_n 0, []), (3, .getfield 32, [2, 7, 3, 366]), (3, .getfield 143, [2, 5, 3, 342]), (1, .iload_n 2, []), (1, .aaload, [2]), (3, .getfield 167, [2, 2, 6, 304]), (3, .getfield 171, [1, 3, 8, 249]), (0, .nop, [3])]),
  (46, [], [(1, .lreturn, [])])]
def bk_T_read : List jx_B := [
  (0, [0, 1, 2], [(1, .iload_n 1, []), (3, .invokestatic 129, [0, 3, 1, 1, 550]), (3, .ifCond .eq 13, [1]), (1, .iload_n 2, []), (3, .ifCond .lt 9, [1]), (1, .iload_n 2, []), (2, .bipush 8, [0, 8]), (3, .if_icmp .lt 5, [2]), (0, .nop, [1])]),
  (17, [], [(1, .iconst (-1), [1, 1]), (1, .ireturn, [0])]),
  (19, [0, 1, 2], [(1, .aload_n 0, []), (3, .getfield 32, [2, 7, 3, 366]), (1, .iload_n 1, []), (3, .invokevirtual 132, [0, 5, 24, 2, 1, 553]), (1, .istore_n 3, []), (1, .iload_n 3, []), (1, .iconst (-1), [1, 1]), (3, .if_icmp .ne 8, [3]), (2, .bipush (-2), [1, 2]), (3, .goto 19, [4])]),
  (38, [0, 2, 3], [(1, .aload_n 0, []), (3, .getfield 32, [2, 7, 3, 366]), (3, .getfield 143, [2, 5, 3, 342]), (1, .iload_n 3, []), (1, .aaload, [2]), (3, .getfield 167, [2, 2, 6, 304]), (1, .iload_n 2, []), (3, .invokevirtual 177, [0, 3, 19, 2, 1, 744]), (0, .nop, [4])]),
  (54, [], [(1, .ireturn, [0])])]
def bk_T_segmentError : List jx_B := [
  (0, [0, 1, 2], [(1, .iload_n 1, []), (3, .invokestatic 129, [0, 3, 1, 1, 550]), (3, .ifCond .eq 14, [1]), (1, .iload_n 2, []), (3, .ifCond .lt 10, [1]), (1, .iload_n 2, []), (3, .sipush 1000, [0, 1000]), (3, .if_icmp .lt 5, [2]), (0, .nop, [1])]),
  (18, [], [(1, .iconst (-1), [1, 1]), (1, .ireturn, [0])]),
  (20, [0, 1], [(1, .aload_n 0, []), (3, .getfield 13, [0, 7, 1, 364]), (3, .ifCond .ne 6, [3]), (2, .bipush (-2), [1, 2]), (1, .ireturn, [0])]),
  (30, [0, 1], [(1, .aload_n 0, []), (3, .getfield 32, [2, 7, 3, 366]), (1, .iload_n 1, []), (3, .invokevirtual 132, [0, 5, 24, 2, 1, 553]), (1, .istore_n 3, []), (1, .iload_n 3, []), (1, .iconst (-1), [1, 1]), (3, .if_icmp .eq 26, [4]), (1, .aload_n 0, []), (3, .getfield 32, [2, 7, 3, 366]), (3, .getfield 143, [2, 5, 3, 342]), (1, .iload_n 3, []), (1, .aaload, [2]), (3, .getfield 241, [2, 2, 4, 300]), (3, .invokevirtual 245, [0, 4, 22, 1, 1, 557]), (3, .ifCond .eq 8, [4]), (2, .bipush (-3), [1, 3]), (3, .goto 4, [5])]),
  (67, [], [(1, .iconst 0, [0, 0]), (0, .nop, [5])]),
  (68, [], [(1, .ireturn, [0])])]
def bk_A_init : List jx_B := [
  (0, [0], [(1, .aload_n 0, []), (3, .invokespecial 3, [2, 102, 95, 96]), (1, .aload_n 0, []), (1, .iconst 1, [0, 1]), (3, .putfield 9, [0, 0, 0, 103]), (0, .nop, [1])]),
  (9, [0], [(1, .aload_n 0, []), (2, .bipush 49, [0, 49]), (2, .newarray .int, [140]), (3, .putfield 15, [2, 0, 1, 105]), (0, .nop, [2])]),
  (17, [0], [(1, .aload_n 0, []), (2, .bipush 49, [0, 49]), (2, .newarray .int, [140]), (3, .putfield 19, [2, 0, 2, 107]), (0, .nop, [3])]),
  (25, [0], [(1, .aload_n 0, []), (2, .bipush 49, [0, 49]), (2, .newarray .int, [140]), (3, .putfield 22, [2, 0, 3, 109]), (0, .nop, [4])]),
  (33, [0], [(1, .aload_n 0, []), (2, .bipush 49, [0, 49]), (2, .newarray .int, [140]), (3, .putfield 25, [2, 0, 4, 111]), (0, .nop, [5])]),
  (41, [0], [(1, .aload_n 0, []), (2, .bipush 49, [0, 49]), (2, .newarray .int, [140]), (3, .putfield 28, [2, 0, 5, 113]), (0, .nop, [6])]),
  (49, [0], [(1, .aload_n 0, []), (2, .bipush 6, [0, 6]), (2, .newarray .int, [140]), (3, .putfield 31, [2, 0, 6, 116]), (0, .nop, [7])]),
  (57, [0], [(1, .aload_n 0, []), (3, .sipush 1274, [0, 1274]), (2, .newarray .int, [140]), (3, .putfield 34, [2, 0, 7, 118]), (0, .nop, [8])]),
  (66, [0], [(1, .aload_n 0, []), (2, .bipush 6, [0, 6]), (2, .newarray .int, [140]), (3, .putfield 37, [2, 0, 8, 119]), (0, .nop, [9])]),
  (74, [], [(1, .return_, [])])]
def bk_A_added : List jx_B := [
  (0, [0, 1, 2, 3], [(1, .aload_n 0, []), (3, .getfield 9, [0, 0, 0, 103]), (2, .bipush 48, [0, 48]), (3, .invokestatic 65, [4, 491, 466, 85, 467]), (2, .istore 4, []), (1, .aload_n 0, []), (3, .getfield 15, [2, 0, 1, 105]), (2, .iload 4, []), (1, .iload_n 3, []), (1, .iastore, []), (1, .aload_n 0, []), (3, .getfield 19, [2, 0, 2, 107]), (2, .iload 4, []), (1, .iload_n 1, []), (1, .iastore, []), (1, .aload_n 0, []), (3, .getfield 22, [2, 0, 3, 109]), (2, .iload 4, []), (1, .iload_n 2, []), (1, .iastore, []), (1, .aload_n 0, []), (3, .getfield 28, [2, 0, 5, 113]), (2, .iload 4, []), (1, .iconst 0, [0, 0]), (1, .iastore, []), (1, .aload_n 0, []), (3, .getfield 34, [2, 0, 7, 118]), (1, .iload_n 1, []), (2, .bipush 26, [0, 26]), (1, .imul, []), (1, .iload_n 2, []), (1, .iadd, []), (2, .iload 4, []), (1, .iastore, []), (1, .aload_n 0, []), (2, .iload 4, []), (1, .iconst 1, [0, 1]), (1, .iadd, []), (3, .putfield 9, [0, 0, 0, 103]), (2, .iload 4, []), (1, .ireturn, [0])])]
def bk_A_link : List jx_B := [
  (0, [0, 1], [(1, .aload_n 0, []), (3, .getfield 19, [2, 0, 2, 107]), (1, .iload_n 1, []), (1, .iaload, [0]), (1, .istore_n 2, []), (1, .iload_n 2, []), (3, .ifCond .ne 7, [1]), (1, .iconst 0, [0, 0]), (3, .goto 19, [2])]),
  (15, [0, 1, 2], [(1, .aload_n 0, []), (1, .aload_n 0, []), (3, .getfield 25, [2, 0, 4, 111]), (1, .iload_n 2, []), (1, .iaload, [0]), (1, .aload_n 0, []), (3, .getfield 22, [2, 0, 3, 109]), (1, .iload_n 1, []), (1, .iaload, [0]), (3, .invokevirtual 70, [0, 0, 9, 3, 1, 496]), (0, .nop, [2])]),
  (31, [0, 1], [(1, .istore_n 3, []), (1, .aload_n 0, []), (3, .getfield 25, [2, 0, 4, 111]), (1, .iload_n 1, []), (1, .iload_n 3, []), (1, .iastore, []), (1, .aload_n 0, []), (3, .getfield 28, [2, 0, 5, 113]), (1, .iload_n 1, []), (1, .dup2, []), (1, .iaload, [0]), (1, .aload_n 0, []), (3, .getfield 28, [2, 0, 5, 113]), (1, .iload_n 3, []), (1, .iaload, [0]), (1, .ior, []), (1, .iastore, []), (1, .iconst 0, [0, 0]), (2, .istore 4, []), (0, .nop, [3])]),
  (57, [0, 1, 3, 4], [(2, .iload 4, []), (2, .bipush 26, [0, 26]), (3, .if_icmp .ge 47, [5]), (1, .iload_n 1, []), (2, .bipush 26, [0, 26]), (1, .imul, []), (2, .iload 4, []), (1, .iadd, []), (2, .istore 5, []), (1, .aload_n 0, []), (3, .getfield 34, [2, 0, 7, 118]), (2, .iload 5, []), (1, .iaload, [0]), (3, .ifCond .ne 22, [4]), (1, .aload_n 0, []), (3, .getfield 34, [2, 0, 7, 118]), (2, .iload 5, []), (1, .aload_n 0, []), (3, .getfield 34, [2, 0, 7, 118]), (1, .iload_n 3, []), (2, .bipush 26, [0, 26]), (1, .imul, []), (2, .iload 4, []), (1, .iadd, []), (1, .iaload, [0]), (1, .iastore, []), (0, .nop, [4])]),
  (102, [0, 1, 3, 4], [(3, .iinc 4 1, [0, 1]), (3, .goto (-48), [3])]),
  (108, [], [(1, .return_, [])])]
def bk_A_nextSetByAny : List jx_B := [
  (0, [0, 1], [(1, .lconst 0, []), (1, .lstore_n 3, []), (1, .iconst 0, [0, 0]), (2, .istore 5, []), (0, .nop, [1])]),
  (5, [0, 1, 3, 5], [(2, .iload 5, []), (2, .bipush 26, [0, 26]), (3, .if_icmp .ge 19, [2]), (1, .lload_n 3, []), (1, .aload_n 0, []), (1, .lload_n 1, []), (2, .iload 5, []), (3, .invokevirtual 73, [0, 0, 10, 3, 2, 697]), (1, .lor, []), (1, .lstore_n 3, []), (3, .iinc 5 1, [0, 1]), (3, .goto (-20), [1])]),
  (28, [3], [(1, .lload_n 3, []), (1, .lreturn, [])])]
def bk_Fi_init : List jx_B := [
  (0, [0], [(1, .aload_n 0, []), (3, .invokespecial 3, [2, 148, 95, 96]), (1, .aload_n 0, []), (1, .iconst 0, [0, 0]), (3, .putfield 9, [0, 1, 0, 149]), (0, .nop, [1])]),
  (9, [0], [(1, .aload_n 0, []), (1, .iconst 0, [0, 0]), (3, .putfield 15, [0, 1, 1, 151]), (0, .nop, [2])]),
  (14, [0], [(1, .aload_n 0, []), (1, .iconst 0, [0, 0]), (3, .putfield 18, [0, 1, 2, 153]), (0, .nop, [3])]),
  (19, [0], [(1, .aload_n 0, []), (1, .iconst 0, [0, 0]), (3, .putfield 21, [0, 1, 3, 155]), (0, .nop, [4])]),
  (24, [0], [(1, .aload_n 0, []), (2, .bipush 30, [0, 30]), (2, .newarray .int, [140]), (3, .putfield 24, [2, 1, 4, 156]), (0, .nop, [5])]),
  (32, [0], [(1, .aload_n 0, []), (2, .bipush 30, [0, 30]), (2, .newarray .int, [140]), (3, .putfield 28, [2, 1, 5, 157]), (0, .nop, [6])]),
  (40, [0], [(1, .aload_n 0, []), (2, .bipush 30, [0, 30]), (2, .newarray .int, [140]), (3, .putfield 31, [2, 1, 6, 158]), (0, .nop, [7])]),
  (48, [0], [(1, .aload_n 0, []), (2, .bipush 30, [0, 30]), (2, .newarray .int, [140]), (3, .putfield 34, [2, 1, 7, 159]), (0, .nop, [8])]),
  (56, [], [(1, .return_, [])])]
def bk_Fi_copyFrom : List jx_B := [
  (0, [0, 1], [(1, .aload_n 0, []), (1, .aload_n 1, []), (3, .getfield 9, [0, 1, 0, 149]), (3, .putfield 9, [0, 1, 0, 149]), (1, .aload_n 0, []), (1, .aload_n 1, []), (3, .getfield 15, [0, 1, 1, 151]), (3, .putfield 15, [0, 1, 1, 151]), (1, .aload_n 0, []), (1, .aload_n 1, []), (3, .getfield 18, [0, 1, 2, 153]), (3, .putfield 18, [0, 1, 2, 153]), (1, .aload_n 0, []), (1, .aload_n 1, []), (3, .getfield 21, [0, 1, 3, 155]), (3, .putfield 21, [0, 1, 3, 155]), (1, .aload_n 1, []), (3, .getfield 24, [2, 1, 4, 156]), (1, .iconst 0, [0, 0]), (1, .aload_n 0, []), (3, .getfield 24, [2, 1, 4, 156]), (1, .iconst 0, [0, 0]), (2, .bipush 30, [0, 30]), (3, .invokestatic 37, [2, 434, 428, 427, 84]), (1, .aload_n 1, []), (3, .getfield 28, [2, 1, 5, 157]), (1, .iconst 0, [0, 0]), (1, .aload_n 0, []), (3, .getfield 28, [2, 1, 5, 157]), (1, .iconst 0, [0, 0]), (2, .bipush 30, [0, 30]), (3, .invokestatic 37, [2, 434, 428, 427, 84]), (1, .aload_n 1, []), (3, .getfield 31, [2, 1, 6, 158]), (1, .iconst 0, [0, 0]), (1, .aload_n 0, []), (3, .getfield 31, [2, 1, 6, 158]), (1, .iconst 0, [0, 0]), (2, .bipush 30, [0, 30]), (3, .invokestatic 37, [2, 434, 428, 427, 84]), (1, .aload_n 1, []), (3, .getfield 34, [2, 1, 7, 159]), (1, .iconst 0, [0, 0]), (1, .aload_n 0, []), (3, .getfield 34, [2, 1, 7, 159]), (1, .iconst 0, [0, 0]), (2, .bipush 30, [0, 30]), (3, .invokestatic 37, [2, 434, 428, 427, 84]), (1, .return_, [])])]
def bk_Fl_chosenPiece : List jx_B := [
  (0, [0, 1], [(1, .iconst (-1), [1, 1]), (1, .istore_n 2, []), (1, .iconst 0, [0, 0]), (1, .istore_n 3, []), (0, .nop, [1])]),
  (4, [0, 1, 2, 3], [(1, .iload_n 3, []), (1, .aload_n 0, []), (3, .getfield 14, [2, 2, 4, 299]), (3, .getfield 45, [0, 4, 0, 209]), (3, .if_icmp .ge 37, [4]), (1, .aload_n 0, []), (3, .getfield 14, [2, 2, 4, 299]), (1, .iload_n 3, []), (1, .iload_n 1, []), (3, .invokevirtual 115, [0, 4, 21, 3, 1, 601]), (3, .ifCond .eq 19, [3]), (1, .iload_n 2, []), (1, .iconst (-1), [1, 1]), (3, .if_icmp .eq 12, [2]), (1, .aload_n 0, []), (1, .iload_n 3, []), (1, .iload_n 2, []), (3, .invokevirtual 118, [0, 2, 15, 3, 1, 605]), (3, .ifCond .eq 5, [3]), (0, .nop, [2])]),
  (41, [0, 1, 3], [(1, .iload_n 3, []), (1, .istore_n 2, []), (0, .nop, [3])]),
  (43, [0, 1, 2, 3], [(3, .iinc 3 1, [0, 1]), (3, .goto (-42), [1])]),
  (49, [2], [(1, .iload_n 2, []), (1, .ireturn, [0])])]
def bk_R_init : List jx_B := [
  (0, [0, 1, 2], [(1, .aload_n 0, []), (3, .invokespecial 3, [2, 233, 95, 96]), (1, .aload_n 0, []), (2, .bipush 8, [0, 8]), (2, .newarray .int, [140]), (3, .putfield 9, [2, 3, 9, 250]), (1, .aload_n 0, []), (2, .bipush 8, [0, 8]), (2, .newarray .int, [140]), (3, .putfield 15, [2, 3, 10, 251]), (1, .aload_n 0, []), (1, .aload_n 1, []), (3, .putfield 18, [2, 3, 0, 234]), (1, .aload_n 0, []), (1, .aload_n 2, []), (3, .putfield 22, [2, 3, 1, 235]), (1, .return_, [])])]
def bk_R_begin : List jx_B := [
  (0, [0, 1, 2], [(1, .aload_n 0, []), (1, .iload_n 1, []), (3, .putfield 26, [0, 3, 2, 236]), (1, .aload_n 0, []), (1, .iload_n 2, []), (3, .putfield 30, [0, 3, 3, 237]), (1, .aload_n 0, []), (1, .iconst 0, [0, 0]), (3, .putfield 33, [0, 3, 4, 240]), (1, .aload_n 0, []), (1, .iconst 0, [0, 0]), (3, .putfield 36, [3, 3, 6, 243]), (1, .aload_n 0, []), (1, .iconst 0, [0, 0]), (3, .putfield 40, [0, 3, 11, 252]), (1, .aload_n 0, []), (1, .iconst 0, [0, 0]), (3, .putfield 43, [0, 3, 12, 254]), (1, .aload_n 0, []), (1, .iconst 0, [0, 0]), (3, .putfield 46, [0, 3, 13, 256]), (1, .aload_n 0, []), (1, .iconst 0, [0, 0]), (3, .putfield 49, [0, 3, 14, 258]), (1, .aload_n 0, []), (3, .invokevirtual 52, [0, 3, 20, 1, 0, 587]), (1, .return_, [])])]
def bk_R_come : List jx_B := [
  (0, [0, 1, 2, 3], [(1, .aload_n 0, []), (3, .getfield 30, [0, 3, 3, 237]), (1, .iconst 1, [0, 1]), (1, .iand, []), (3, .ifCond .eq 25, [1]), (1, .iload_n 1, []), (2, .bipush 65, [0, 65]), (3, .if_icmp .lt 19, [1]), (1, .iload_n 1, []), (2, .bipush 90, [0, 90]), (3, .if_icmp .gt 13, [1]), (1, .iload_n 1, []), (2, .bipush 65, [0, 65]), (1, .isub, []), (2, .bipush 97, [0, 97]), (1, .iadd, []), (3, .goto 4, [2])]),
  (31, [0, 1, 2, 3], [(1, .iload_n 1, []), (0, .nop, [2])]),
  (32, [0, 2, 3], [(2, .istore 4, []), (1, .aload_n 0, []), (2, .iload 4, []), (3, .invokevirtual 89, [0, 3, 18, 2, 1, 626]), (3, .ifCond .eq 4, [3]), (1, .return_, [])]),
  (44, [0, 2, 3, 4], [(1, .aload_n 0, []), (2, .iload 4, []), (2, .bipush 32, [0, 32]), (3, .if_icmp .ne 7, [4]), (1, .iconst 1, [0, 1]), (3, .goto 4, [5])]),
  (56, [0, 2, 3, 4], [(1, .iconst 0, [0, 0]), (0, .nop, [5])]),
  (57, [0, 2, 3, 4], [(3, .putfield 36, [3, 3, 6, 243]), (1, .aload_n 0, []), (3, .getfield 9, [2, 3, 9, 250]), (1, .aload_n 0, []), (3, .getfield 40, [0, 3, 11, 252]), (2, .bipush 8, [0, 8]), (1, .irem, []), (2, .iload 4, []), (1, .iastore, []), (1, .aload_n 0, []), (3, .getfield 15, [2, 3, 10, 251]), (1, .aload_n 0, []), (3, .getfield 40, [0, 3, 11, 252]), (2, .bipush 8, [0, 8]), (1, .irem, []), (1, .iload_n 2, []), (1, .iastore, []), (1, .aload_n 0, []), (1, .dup, []), (3, .getfield 40, [0, 3, 11, 252]), (1, .iconst 1, [0, 1]), (1, .iadd, []), (3, .putfield 40, [0, 3, 11, 252]), (2, .iload 4, []), (3, .invokestatic 93, [1, 4, 1, 1, 3]), (3, .ifCond .ne 8, [6]), (1, .aload_n 0, []), (3, .invokevirtual 52, [0, 3, 20, 1, 0, 587]), (1, .return_, [])]),
  (110, [0, 3, 4], [(1, .aload_n 0, []), (1, .aload_n 0, []), (3, .getfield 18, [2, 3, 0, 234]), (1, .aload_n 0, []), (3, .getfield 55, [0, 3, 7, 244]), (2, .iload 4, []), (2, .bipush 97, [0, 97]), (1, .isub, []), (3, .invokevirtual 96, [0, 0, 9, 3, 1, 631]), (3, .putfield 55, [0, 3, 7, 244]), (1, .aload_n 0, []), (1, .aload_n 0, []), (3, .getfield 18, [2, 3, 0, 234]), (1, .aload_n 0, []), (3, .getfield 58, [1, 3, 8, 247]), (2, .iload 4, []), (2, .bipush 97, [0, 97]), (1, .isub, []), (3, .invokevirtual 100, [0, 0, 10, 3, 2, 632]), (3, .putfield 58, [1, 3, 8, 247]), (1, .aload_n 0, []), (3, .getfield 18, [2, 3, 0, 234]), (3, .getfield 103, [2, 0, 5, 115]), (1, .aload_n 0, []), (3, .getfield 55, [0, 3, 7, 244]), (1, .iaload, [0]), (2, .istore 5, []), (1, .aload_n 0, []), (3, .getfield 18, [2, 3, 0, 234]), (1, .aload_n 0, []), (3, .getfield 58, [1, 3, 8, 247]), (3, .invokevirtual 106, [0, 0, 11, 2, 1, 636]), (2, .iload 5, []), (1, .iconst (-1), [1, 1]), (1, .ixor, []), (1, .iand, []), (2, .istore 6, []), (1, .iconst 0, [0, 0]), (2, .istore 7, []), (0, .nop, [7])]),
  (185, [0, 3, 5, 6, 7], [(2, .iload 7, []), (2, .bipush 6, [0, 6]), (3, .if_icmp .ge 47, [9]), (2, .iload 5, []), (2, .iload 7, []), (1, .ishr, []), (1, .iconst 1, [0, 1]), (1, .iand, []), (3, .ifCond .eq 31, [8]), (1, .aload_n 0, []), (3, .getfield 22, [2, 3, 1, 235]), (1, .aload_n 0, []), (3, .getfield 26, [0, 3, 2, 236]), (2, .iload 7, []), (1, .aload_n 0, []), (1, .aload_n 0, []), (3, .getfield 18, [2, 3, 0, 234]), (3, .getfield 110, [2, 0, 6, 117]), (2, .iload 7, []), (1, .iaload, [0]), (3, .invokevirtual 113, [0, 3, 16, 2, 1, 640]), (1, .iload_n 3, []), (3, .invokevirtual 116, [0, 1, 12, 5, 0, 644]), (0, .nop, [8])]),
  (230, [0, 3, 5, 6, 7], [(3, .iinc 7 1, [0, 1]), (3, .goto (-48), [7])]),
  (236, [0, 3, 5, 6], [(1, .iconst 0, [0, 0]), (2, .istore 7, []), (0, .nop, [10])]),
  (239, [0, 3, 5, 6, 7], [(2, .iload 7, []), (2, .bipush 6, [0, 6]), (3, .if_icmp .ge 35, [12]), (2, .iload 6, []), (2, .iload 7, []), (1, .ishr, []), (1, .iconst 1, [0, 1]), (1, .iand, []), (3, .ifCond .eq 19, [11]), (1, .aload_n 0, []), (3, .getfield 22, [2, 3, 1, 235]), (1, .aload_n 0, []), (3, .getfield 26, [0, 3, 2, 236]), (2, .iload 7, []), (2, .bipush (-9), [1, 9]), (1, .iload_n 3, []), (3, .invokevirtual 116, [0, 1, 12, 5, 0, 644]), (0, .nop, [11])]),
  (272, [0, 3, 5, 6, 7], [(3, .iinc 7 1, [0, 1]), (3, .goto (-36), [10])]),
  (278, [0, 5, 6], [(1, .aload_n 0, []), (1, .dup, []), (3, .getfield 43, [0, 3, 12, 254]), (2, .iload 5, []), (3, .invokestatic 122, [0, 45, 1, 1, 648]), (1, .iadd, []), (3, .putfield 43, [0, 3, 12, 254]), (1, .aload_n 0, []), (1, .dup, []), (3, .getfield 46, [0, 3, 13, 256]), (2, .iload 6, []), (3, .invokestatic 122, [0, 45, 1, 1, 648]), (1, .iadd, []), (3, .putfield 46, [0, 3, 13, 256]), (1, .aload_n 0, []), (1, .dup, []), (3, .getfield 49, [0, 3, 14, 258]), (2, .iload 5, []), (1, .ior, []), (3, .putfield 49, [0, 3, 14, 258]), (1, .return_, [])])]
def bk_R_copyFrom : List jx_B := [
  (0, [0, 1], [(1, .aload_n 0, []), (1, .aload_n 1, []), (3, .getfield 26, [0, 3, 2, 236]), (3, .putfield 26, [0, 3, 2, 236]), (1, .aload_n 0, []), (1, .aload_n 1, []), (3, .getfield 30, [0, 3, 3, 237]), (3, .putfield 30, [0, 3, 3, 237]), (1, .aload_n 0, []), (1, .aload_n 1, []), (3, .getfield 33, [0, 3, 4, 240]), (3, .putfield 33, [0, 3, 4, 240]), (1, .aload_n 0, []), (1, .aload_n 1, []), (3, .getfield 62, [0, 3, 5, 242]), (3, .putfield 62, [0, 3, 5, 242]), (0, .nop, [1])]),
  (32, [0, 1], [(1, .aload_n 0, []), (1, .aload_n 1, []), (3, .getfield 36, [0, 3, 6, 243]), (3, .putfield 36, [3, 3, 6, 243]), (1, .aload_n 0, []), (1, .aload_n 1, []), (3, .getfield 55, [0, 3, 7, 244]), (3, .putfield 55, [0, 3, 7, 244]), (1, .aload_n 0, []), (1, .aload_n 1, []), (3, .getfield 58, [1, 3, 8, 247]), (3, .putfield 58, [1, 3, 8, 247]), (1, .aload_n 1, []), (3, .getfield 9, [2, 3, 9, 250]), (1, .iconst 0, [0, 0]), (1, .aload_n 0, []), (3, .getfield 9, [2, 3, 9, 250]), (1, .iconst 0, [0, 0]), (2, .bipush 8, [0, 8]), (3, .invokestatic 65, [2, 460, 428, 427, 84]), (1, .aload_n 1, []), (3, .getfield 15, [2, 3, 10, 251]), (1, .iconst 0, [0, 0]), (1, .aload_n 0, []), (3, .getfield 15, [2, 3, 10, 251]), (1, .iconst 0, [0, 0]), (2, .bipush 8, [0, 8]), (3, .invokestatic 65, [2, 460, 428, 427, 84]), (1, .aload_n 0, []), (1, .aload_n 1, []), (3, .getfield 40, [0, 3, 11, 252]), (3, .putfield 40, [0, 3, 11, 252]), (0, .nop, [2])]),
  (94, [0, 1], [(1, .aload_n 0, []), (1, .aload_n 1, []), (3, .getfield 43, [0, 3, 12, 254]), (3, .putfield 43, [0, 3, 12, 254]), (1, .aload_n 0, []), (1, .aload_n 1, []), (3, .getfield 46, [0, 3, 13, 256]), (3, .putfield 46, [0, 3, 13, 256]), (1, .aload_n 0, []), (1, .aload_n 1, []), (3, .getfield 49, [0, 3, 14, 258]), (3, .putfield 49, [0, 3, 14, 258]), (1, .return_, [])])]
def bk_Sg_init : List jx_B := [
  (0, [0, 1], [(1, .aload_n 0, []), (3, .invokespecial 3, [2, 207, 95, 96]), (1, .aload_n 0, []), (1, .iconst 0, [0, 0]), (3, .putfield 9, [0, 4, 0, 208]), (1, .aload_n 0, []), (1, .iload_n 1, []), (2, .newarray .int, [140]), (3, .putfield 15, [2, 4, 1, 211]), (1, .aload_n 0, []), (1, .iload_n 1, []), (2, .newarray .int, [140]), (3, .putfield 19, [2, 4, 2, 214]), (1, .aload_n 0, []), (1, .iload_n 1, []), (2, .bipush 40, [0, 40]), (1, .imul, []), (2, .newarray .byte, [139]), (3, .putfield 22, [2, 4, 3, 217]), (1, .return_, [])])]
def bk_Sg_byteFor : List jx_B := [
  (0, [0, 1, 2], [(1, .aload_n 0, []), (1, .iload_n 1, []), (1, .iload_n 2, []), (3, .invokevirtual 44, [0, 4, 21, 3, 1, 613]), (3, .ifCond .eq 24, [1]), (1, .aload_n 0, []), (3, .getfield 22, [2, 4, 3, 217]), (1, .iload_n 1, []), (2, .bipush 40, [0, 40]), (1, .imul, []), (1, .iload_n 2, []), (1, .iadd, []), (1, .aload_n 0, []), (3, .getfield 15, [2, 4, 1, 211]), (1, .iload_n 1, []), (1, .iaload, [0]), (1, .isub, []), (1, .baload, []), (3, .goto 5, [2])]),
  (30, [], [(2, .bipush (-9), [1, 9]), (0, .nop, [2])]),
  (32, [], [(1, .ireturn, [0])])]
def bk_Sg_isCoveredBefore : List jx_B := [
  (0, [0, 1, 2], [(1, .iconst 0, [0, 0]), (1, .istore_n 3, []), (0, .nop, [1])]),
  (2, [0, 1, 2, 3], [(1, .iload_n 3, []), (1, .iload_n 1, []), (3, .if_icmp .ge 20, [3]), (1, .aload_n 0, []), (1, .iload_n 3, []), (1, .iload_n 2, []), (3, .invokevirtual 44, [0, 4, 21, 3, 1, 613]), (3, .ifCond .eq 5, [2]), (1, .iconst 1, [0, 1]), (1, .ireturn, [1])]),
  (18, [0, 1, 2, 3], [(3, .iinc 3 1, [0, 1]), (3, .goto (-19), [1])]),
  (24, [], [(1, .iconst 0, [0, 0]), (1, .ireturn, [1])])]
def bk_Sg_put : List jx_B := [
  (0, [0, 1, 2, 3, 4, 5], [(1, .aload_n 0, []), (3, .getfield 15, [2, 4, 1, 211]), (1, .iload_n 1, []), (2, .iload 5, []), (1, .iastore, []), (1, .aload_n 0, []), (3, .getfield 19, [2, 4, 2, 214]), (1, .iload_n 1, []), (2, .iload 4, []), (1, .iastore, []), (1, .aload_n 2, []), (1, .iload_n 3, []), (1, .aload_n 0, []), (3, .getfield 22, [2, 4, 3, 217]), (1, .iload_n 1, []), (2, .bipush 40, [0, 40]), (1, .imul, []), (2, .iload 4, []), (3, .invokestatic 38, [3, 455, 428, 427, 84]), (1, .return_, [])])]
def bk_Sg_smallestStart : List jx_B := [
  (0, [0], [(3, .sipush 1040, [0, 1040]), (1, .istore_n 1, []), (1, .iconst 0, [0, 0]), (1, .istore_n 2, []), (0, .nop, [1])]),
  (6, [0, 1, 2], [(1, .iload_n 2, []), (1, .aload_n 0, []), (3, .getfield 9, [0, 4, 0, 208]), (3, .if_icmp .ge 20, [2]), (1, .iload_n 1, []), (1, .aload_n 0, []), (3, .getfield 15, [2, 4, 1, 211]), (1, .iload_n 2, []), (1, .iaload, [0]), (3, .invokestatic 57, [4, 684, 466, 85, 467]), (1, .istore_n 1, []), (3, .iinc 2 1, [0, 1]), (3, .goto (-22), [1])]),
  (31, [1], [(1, .iload_n 1, []), (1, .ireturn, [0])])]
def bk_St_remove : List jx_B := [
  (0, [0, 1], [(1, .aload_n 0, []), (1, .iload_n 1, []), (3, .invokevirtual 75, [0, 5, 23, 2, 3, 575]), (1, .pop, []), (1, .aload_n 0, []), (1, .dup, []), (3, .getfield 28, [0, 5, 4, 343]), (1, .iconst 1, [0, 1]), (1, .isub, []), (3, .putfield 28, [0, 5, 4, 343]), (1, .return_, [])])]
def bk_Wo_init : List jx_B := [
  (0, [0], [(1, .aload_n 0, []), (3, .invokespecial 3, [2, 186, 95, 96]), (1, .aload_n 0, []), (2, .bipush 6, [0, 6]), (2, .newarray .int, [140]), (3, .putfield 9, [2, 6, 0, 187]), (1, .aload_n 0, []), (2, .bipush 48, [0, 48]), (2, .newarray .byte, [139]), (3, .putfield 15, [2, 6, 1, 189]), (1, .return_, [])])]
def bk_Wo_copyFrom : List jx_B := [
  (0, [0, 1], [(1, .aload_n 1, []), (3, .getfield 9, [2, 6, 0, 187]), (1, .iconst 0, [0, 0]), (1, .aload_n 0, []), (3, .getfield 9, [2, 6, 0, 187]), (1, .iconst 0, [0, 0]), (2, .bipush 6, [0, 6]), (3, .invokestatic 19, [2, 426, 428, 427, 84]), (1, .aload_n 1, []), (3, .getfield 15, [2, 6, 1, 189]), (1, .iconst 0, [0, 0]), (1, .aload_n 0, []), (3, .getfield 15, [2, 6, 1, 189]), (1, .iconst 0, [0, 0]), (2, .bipush 48, [0, 48]), (3, .invokestatic 19, [3, 426, 428, 427, 84]), (1, .return_, [])])]
def bk_Wo_definedSet : List jx_B := [
  (0, [0], [(1, .iconst 0, [0, 0]), (1, .istore_n 1, []), (1, .iconst 0, [0, 0]), (1, .istore_n 2, []), (0, .nop, [1])]),
  (4, [0, 1, 2], [(1, .iload_n 2, []), (2, .bipush 6, [0, 6]), (3, .if_icmp .ge 23, [3]), (1, .aload_n 0, []), (1, .iload_n 2, []), (3, .invokevirtual 31, [0, 6, 25, 2, 1, 764]), (3, .ifCond .eq 9, [2]), (1, .iload_n 1, []), (1, .iconst 1, [0, 1]), (1, .iload_n 2, []), (1, .ishl, []), (1, .ior, []), (1, .istore_n 1, []), (0, .nop, [2])]),
  (24, [0, 1, 2], [(3, .iinc 2 1, [0, 1]), (3, .goto (-23), [1])]),
  (30, [1], [(1, .iload_n 1, []), (1, .ireturn, [0])])]
def bk_Wo_put : List jx_B := [
  (0, [0, 1, 2, 3], [(1, .iconst 0, [0, 0]), (2, .istore 4, []), (0, .nop, [1])]),
  (3, [0, 1, 2, 3, 4], [(2, .iload 4, []), (1, .iload_n 3, []), (3, .if_icmp .ge 43, [2]), (2, .iload 4, []), (2, .bipush 8, [0, 8]), (3, .if_icmp .ge 36, [2]), (2, .iload 4, []), (1, .aload_n 2, []), (1, .arraylength, [2]), (3, .if_icmp .ge 29, [2]), (1, .aload_n 0, []), (3, .getfield 15, [2, 6, 1, 189]), (1, .iload_n 1, []), (2, .bipush 8, [0, 8]), (1, .imul, []), (2, .iload 4, []), (1, .iadd, []), (1, .aload_n 2, []), (2, .iload 4, []), (1, .baload, []), (2, .bipush 97, [0, 97]), (1, .isub, []), (1, .i2b, []), (1, .bastore, []), (3, .iinc 4 1, [0, 1]), (3, .goto (-43), [1])]),
  (49, [0, 1, 3], [(1, .aload_n 0, []), (3, .getfield 9, [2, 6, 0, 187]), (1, .iload_n 1, []), (1, .iload_n 3, []), (2, .bipush 8, [0, 8]), (3, .invokestatic 25, [4, 465, 466, 85, 467]), (1, .iastore, []), (1, .return_, [])])]
def bk_M_begins : List jx_B := [
  (0, [0], [(1, .aload_n 0, []), (3, .getfield 46, [0, 8, 1, 852]), (1, .iconst 4, [0, 4]), (3, .if_icmp .ne 34, [3]), (1, .iconst 1, [0, 1]), (1, .istore_n 1, []), (0, .nop, [1])]),
  (10, [0, 1], [(1, .iload_n 1, []), (1, .iconst 4, [0, 4]), (3, .if_icmp .ge 17, [2]), (1, .aload_n 0, []), (1, .iload_n 1, []), (1, .iconst 1, [0, 1]), (1, .iadd, []), (1, .iload_n 1, []), (3, .invokevirtual 50, [0, 8, 30, 3, 0, 929]), (3, .iinc 1 1, [0, 1]), (3, .goto (-16), [1])]),
  (29, [0], [(1, .aload_n 0, []), (1, .dup, []), (3, .getfield 46, [0, 8, 1, 852]), (1, .iconst 1, [0, 1]), (1, .isub, []), (3, .putfield 46, [0, 8, 1, 852]), (0, .nop, [3])]),
  (39, [0], [(1, .aload_n 0, []), (1, .dup, []), (3, .getfield 46, [0, 8, 1, 852]), (1, .iconst 1, [0, 1]), (1, .iadd, []), (3, .putfield 46, [0, 8, 1, 852]), (1, .aload_n 0, []), (1, .iconst 0, [0, 0]), (1, .aload_n 0, []), (3, .getfield 46, [0, 8, 1, 852]), (3, .invokevirtual 50, [0, 8, 30, 3, 0, 929]), (1, .return_, [])])]
def bk_M_byteOf : List jx_B := [
  (0, [0, 1, 2], [(1, .aload_n 0, []), (3, .getfield 7, [2, 8, 0, 851]), (1, .aload_n 0, []), (1, .iload_n 1, []), (3, .invokevirtual 161, [0, 8, 40, 2, 1, 1009]), (1, .iconst 2, [0, 2]), (1, .iadd, []), (1, .iload_n 2, []), (1, .iadd, []), (1, .aload_n 0, []), (3, .getfield 7, [2, 8, 0, 851]), (1, .aload_n 0, []), (1, .iload_n 1, []), (3, .invokevirtual 161, [0, 8, 40, 2, 1, 1009]), (1, .iaload, [0]), (1, .isub, []), (1, .iaload, [0]), (1, .ireturn, [0])])]
def bk_M_covers : List jx_B := [
  (0, [0, 1, 2], [(1, .aload_n 0, []), (3, .getfield 7, [2, 8, 0, 851]), (1, .aload_n 0, []), (1, .iload_n 1, []), (3, .invokevirtual 161, [0, 8, 40, 2, 1, 1009]), (1, .iaload, [0]), (1, .istore_n 3, []), (1, .iload_n 2, []), (1, .aload_n 0, []), (1, .iconst 4, [0, 4]), (3, .invokevirtual 112, [0, 8, 38, 2, 1, 993]), (3, .if_icmp .lt 30, [1]), (1, .iload_n 2, []), (1, .iload_n 3, []), (3, .if_icmp .lt 25, [1]), (1, .iload_n 2, []), (1, .iload_n 3, []), (1, .aload_n 0, []), (3, .getfield 7, [2, 8, 0, 851]), (1, .aload_n 0, []), (1, .iload_n 1, []), (3, .invokevirtual 161, [0, 8, 40, 2, 1, 1009]), (1, .iconst 1, [0, 1]), (1, .iadd, []), (1, .iaload, [0]), (1, .iadd, []), (3, .if_icmp .ge 7, [1]), (1, .iconst 1, [0, 1]), (3, .goto 4, [2])]),
  (47, [], [(1, .iconst 0, [0, 0]), (0, .nop, [2])]),
  (48, [], [(1, .ireturn, [1])])]
def bk_M_definedSet : List jx_B := [
  (0, [0], [(1, .iconst 0, [0, 0]), (1, .istore_n 1, []), (1, .iconst 0, [0, 0]), (1, .istore_n 2, []), (0, .nop, [1])]),
  (4, [0, 1, 2], [(1, .iload_n 2, []), (2, .bipush 6, [0, 6]), (3, .if_icmp .ge 27, [4]), (1, .iload_n 1, []), (1, .aload_n 0, []), (1, .iload_n 2, []), (3, .invokevirtual 64, [0, 8, 44, 2, 1, 819]), (3, .ifCond .le 9, [2]), (1, .iconst 1, [0, 1]), (1, .iload_n 2, []), (1, .ishl, []), (3, .goto 4, [3])]),
  (25, [0, 2], [(1, .iconst 0, [0, 0]), (0, .nop, [3])]),
  (26, [0, 2], [(1, .ior, []), (1, .istore_n 1, []), (3, .iinc 2 1, [0, 1]), (3, .goto (-27), [1])]),
  (34, [1], [(1, .iload_n 1, []), (1, .ireturn, [0])])]
def bk_M_drops : List jx_B := [
  (0, [0], [(1, .aload_n 0, []), (1, .iconst 5, [0, 5]), (3, .invokevirtual 112, [0, 8, 38, 2, 1, 993]), (1, .iconst 1, [0, 1]), (1, .isub, []), (1, .istore_n 1, []), (0, .nop, [1])]),
  (8, [0, 1], [(1, .iload_n 1, []), (3, .ifCond .lt 88, [5]), (1, .aload_n 0, []), (3, .getfield 7, [2, 8, 0, 851]), (1, .aload_n 0, []), (1, .iload_n 1, []), (3, .invokevirtual 161, [0, 8, 40, 2, 1, 1009]), (1, .iaload, [0]), (1, .aload_n 0, []), (3, .getfield 7, [2, 8, 0, 851]), (1, .aload_n 0, []), (1, .iload_n 1, []), (3, .invokevirtual 161, [0, 8, 40, 2, 1, 1009]), (1, .iconst 1, [0, 1]), (1, .iadd, []), (1, .iaload, [0]), (1, .iadd, []), (1, .aload_n 0, []), (1, .iconst 4, [0, 4]), (3, .invokevirtual 112, [0, 8, 38, 2, 1, 993]), (3, .if_icmp .gt 51, [4]), (1, .aload_n 0, []), (1, .iload_n 1, []), (3, .invokevirtual 161, [0, 8, 40, 2, 1, 1009]), (1, .istore_n 2, []), (0, .nop, [2])]),
  (49, [0, 1, 2], [(1, .iload_n 2, []), (1, .aload_n 0, []), (1, .aload_n 0, []), (1, .iconst 5, [0, 5]), (3, .invokevirtual 112, [0, 8, 38, 2, 1, 993]), (1, .iconst 1, [0, 1]), (1, .isub, []), (3, .invokevirtual 161, [0, 8, 40, 2, 1, 1009]), (3, .if_icmp .ge 24, [3]), (1, .aload_n 0, []), (3, .getfield 7, [2, 8, 0, 851]), (1, .iload_n 2, []), (1, .aload_n 0, []), (3, .getfield 7, [2, 8, 0, 851]), (1, .iload_n 2, []), (2, .bipush 42, [0, 42]), (1, .iadd, []), (1, .iaload, [0]), (1, .iastore, []), (3, .iinc 2 1, [0, 1]), (3, .goto (-33), [2])]),
  (85, [0, 1], [(1, .aload_n 0, []), (1, .iconst 5, [0, 5]), (1, .iconst (-1), [1, 1]), (3, .invokevirtual 121, [0, 8, 28, 3, 0, 997]), (0, .nop, [4])]),
  (91, [0, 1], [(3, .iinc 1 (-1), [1, 1]), (3, .goto (-86), [1])]),
  (97, [], [(1, .return_, [])])]
def bk_M_endsWith : List jx_B := [
  (0, [0, 1, 2], [(1, .aload_n 0, []), (3, .getfield 16, [2, 8, 5, 856]), (1, .iload_n 1, []), (1, .iaload, [0]), (1, .aload_n 0, []), (1, .iload_n 2, []), (3, .invokevirtual 64, [0, 8, 44, 2, 1, 819]), (1, .isub, []), (1, .istore_n 3, []), (1, .aload_n 0, []), (1, .iload_n 2, []), (3, .invokevirtual 64, [0, 8, 44, 2, 1, 819]), (3, .ifCond .le 11, [1]), (1, .iload_n 3, []), (3, .ifCond .lt 7, [1]), (1, .iconst 1, [0, 1]), (3, .goto 4, [2])]),
  (29, [0, 1, 2, 3], [(1, .iconst 0, [0, 0]), (0, .nop, [2])]),
  (30, [0, 1, 2, 3], [(2, .istore 4, []), (1, .iconst 0, [0, 0]), (2, .istore 5, []), (0, .nop, [3])]),
  (35, [0, 1, 2, 3, 4, 5], [(2, .iload 5, []), (1, .aload_n 0, []), (1, .iload_n 2, []), (3, .invokevirtual 64, [0, 8, 44, 2, 1, 819]), (3, .if_icmp .ge 45, [6]), (2, .iload 4, []), (3, .ifCond .eq 40, [6]), (1, .aload_n 0, []), (3, .getfield 19, [2, 8, 6, 857]), (2, .bipush 8, [0, 8]), (1, .iload_n 1, []), (1, .imul, []), (1, .iload_n 3, []), (1, .iadd, []), (2, .iload 5, []), (1, .iadd, []), (1, .iaload, [0]), (1, .aload_n 0, []), (1, .iload_n 2, []), (2, .iload 5, []), (3, .invokevirtual 68, [0, 8, 35, 3, 1, 823]), (3, .if_icmp .ne 7, [4]), (1, .iconst 1, [0, 1]), (3, .goto 4, [5])]),
  (78, [0, 1, 2, 3, 5], [(1, .iconst 0, [0, 0]), (0, .nop, [5])]),
  (79, [0, 1, 2, 3, 5], [(2, .istore 4, []), (3, .iinc 5 1, [0, 1]), (3, .goto (-49), [3])]),
  (87, [4], [(2, .iload 4, []), (1, .ireturn, [1])])]
def bk_M_faultOf : List jx_B := [
  (0, [0], [(1, .iconst 0, [0, 0]), (1, .istore_n 1, []), (0, .nop, [1])]),
  (2, [0, 1], [(1, .iload_n 1, []), (1, .aload_n 0, []), (3, .getfield 89, [0, 8, 3, 854]), (3, .if_icmp .ge 33, [4]), (1, .iload_n 1, []), (2, .bipush 8, [0, 8]), (3, .if_icmp .eq 19, [2]), (1, .aload_n 0, []), (3, .getfield 13, [2, 8, 2, 853]), (1, .iload_n 1, []), (1, .iaload, [0]), (2, .bipush 97, [0, 97]), (2, .bipush 122, [0, 122]), (3, .invokestatic 85, [0, 33, 3, 1, 907]), (3, .ifCond .ne 5, [3]), (0, .nop, [2])]),
  (32, [1], [(1, .iload_n 1, []), (1, .ireturn, [0])]),
  (34, [0, 1], [(3, .iinc 1 1, [0, 1]), (3, .goto (-35), [1])]),
  (40, [0], [(1, .aload_n 0, []), (3, .getfield 89, [0, 8, 3, 854]), (3, .ifCond .ne 7, [5]), (1, .iconst 0, [0, 0]), (3, .goto 5, [6])]),
  (51, [], [(2, .bipush (-9), [1, 9]), (0, .nop, [6])]),
  (53, [], [(1, .ireturn, [0])])]
def bk_M_find : List jx_B := [
  (0, [0, 1, 2], [(1, .iload_n 1, []), (3, .ifCond .lt 12, [1]), (1, .iload_n 2, []), (1, .iconst 0, [0, 0]), (1, .iconst 3, [0, 3]), (3, .invokestatic 85, [0, 33, 3, 1, 907]), (3, .ifCond .ne 5, [2]), (0, .nop, [1])]),
  (13, [], [(1, .iconst (-1), [1, 1]), (1, .ireturn, [0])]),
  (15, [0, 1, 2], [(1, .iload_n 1, []), (1, .aload_n 0, []), (3, .getfield 7, [2, 8, 0, 851]), (2, .bipush 62, [0, 62]), (1, .iaload, [0]), (3, .if_icmp .ge 29, [3]), (1, .aload_n 0, []), (3, .getfield 7, [2, 8, 0, 851]), (2, .bipush 66, [0, 66]), (1, .iconst 4, [0, 4]), (1, .aload_n 0, []), (3, .getfield 7, [2, 8, 0, 851]), (2, .bipush 62, [0, 62]), (1, .iaload, [0]), (1, .iconst 1, [0, 1]), (1, .isub, []), (1, .iload_n 1, []), (1, .isub, []), (1, .imul, []), (1, .iadd, []), (1, .iload_n 2, []), (1, .iadd, []), (1, .iaload, [0]), (3, .goto 5, [4])]),
  (52, [], [(2, .bipush (-9), [1, 9]), (0, .nop, [4])]),
  (54, [], [(1, .ireturn, [0])])]
def bk_M_flow : List jx_B := [
  (0, [0, 1], [(1, .iload_n 1, []), (3, .ifCond .ge 7, [1]), (1, .iconst (-1), [1, 1]), (3, .goto 31, [3])]),
  (8, [0, 1], [(1, .iload_n 1, []), (1, .aload_n 0, []), (3, .getfield 7, [2, 8, 0, 851]), (2, .bipush 57, [0, 57]), (1, .iaload, [0]), (3, .if_icmp .ge 18, [2]), (1, .aload_n 0, []), (3, .getfield 7, [2, 8, 0, 851]), (1, .aload_n 0, []), (1, .iload_n 1, []), (3, .invokevirtual 92, [0, 8, 42, 2, 1, 937]), (1, .iconst 0, [0, 0]), (1, .iadd, []), (1, .iaload, [0]), (3, .goto 5, [3])]),
  (34, [], [(2, .bipush (-9), [1, 9]), (0, .nop, [3])]),
  (36, [], [(1, .ireturn, [0])])]
def bk_M_has : List jx_B := [
  (0, [0, 1], [(1, .aload_n 0, []), (1, .iconst 2, [0, 2]), (3, .invokevirtual 112, [0, 8, 38, 2, 1, 993]), (1, .iload_n 1, []), (1, .iand, []), (3, .ifCond .eq 7, [1]), (1, .iconst 1, [0, 1]), (3, .goto 4, [2])]),
  (14, [], [(1, .iconst 0, [0, 0]), (0, .nop, [2])]),
  (15, [], [(1, .ireturn, [1])])]
def bk_M_hexOf : List jx_B := [
  (0, [0], [(1, .iload_n 0, []), (2, .bipush 48, [0, 48]), (2, .bipush 57, [0, 57]), (3, .invokestatic 85, [0, 33, 3, 1, 907]), (3, .ifCond .eq 10, [1]), (1, .iload_n 0, []), (2, .bipush 48, [0, 48]), (1, .isub, []), (3, .goto 47, [4])]),
  (18, [0], [(1, .iload_n 0, []), (2, .bipush 65, [0, 65]), (2, .bipush 70, [0, 70]), (3, .invokestatic 85, [0, 33, 3, 1, 907]), (3, .ifCond .eq 13, [2]), (1, .iload_n 0, []), (2, .bipush 65, [0, 65]), (1, .isub, []), (2, .bipush 10, [0, 10]), (1, .iadd, []), (3, .goto 26, [4])]),
  (39, [0], [(1, .iload_n 0, []), (2, .bipush 97, [0, 97]), (2, .bipush 102, [0, 102]), (3, .invokestatic 85, [0, 33, 3, 1, 907]), (3, .ifCond .eq 13, [3]), (1, .iload_n 0, []), (2, .bipush 97, [0, 97]), (1, .isub, []), (2, .bipush 10, [0, 10]), (1, .iadd, []), (3, .goto 5, [4])]),
  (60, [], [(2, .bipush (-9), [1, 9]), (0, .nop, [4])]),
  (62, [], [(1, .ireturn, [0])])]
def bk_M_inserts : List jx_B := [
  (0, [0, 1], [(1, .iconst 0, [0, 0]), (1, .istore_n 2, []), (0, .nop, [1])]),
  (2, [0, 1, 2], [(1, .iload_n 2, []), (1, .aload_n 0, []), (3, .getfield 54, [0, 8, 4, 855]), (3, .if_icmp .ge 38, [3]), (1, .aload_n 0, []), (3, .getfield 16, [2, 8, 5, 856]), (1, .iload_n 2, []), (1, .iaload, [0]), (1, .iload_n 1, []), (3, .if_icmp .lt 22, [2]), (1, .aload_n 0, []), (3, .getfield 16, [2, 8, 5, 856]), (1, .iload_n 2, []), (1, .iaload, [0]), (1, .iload_n 1, []), (3, .if_icmp .ne 18, [3]), (1, .aload_n 0, []), (1, .iload_n 2, []), (1, .iload_n 1, []), (3, .invokevirtual 57, [0, 8, 39, 3, 1, 831]), (3, .ifCond .ge 9, [3]), (0, .nop, [2])]),
  (39, [0, 1, 2], [(3, .iinc 2 1, [0, 1]), (3, .goto (-40), [1])]),
  (45, [0, 1, 2], [(1, .iload_n 2, []), (1, .aload_n 0, []), (3, .getfield 54, [0, 8, 4, 855]), (3, .if_icmp .ge 23, [4]), (1, .aload_n 0, []), (3, .getfield 16, [2, 8, 5, 856]), (1, .iload_n 2, []), (1, .iaload, [0]), (1, .iload_n 1, []), (3, .if_icmp .ne 13, [4]), (1, .aload_n 0, []), (1, .iload_n 2, []), (1, .iload_n 1, []), (3, .invokevirtual 57, [0, 8, 39, 3, 1, 831]), (3, .ifCond .ne 4, [4]), (1, .return_, [])]),
  (73, [0, 1, 2], [(1, .aload_n 0, []), (3, .getfield 54, [0, 8, 4, 855]), (1, .istore_n 3, []), (0, .nop, [5])]),
  (78, [0, 1, 2, 3], [(1, .iload_n 3, []), (1, .iload_n 2, []), (3, .if_icmp .le 65, [8]), (1, .aload_n 0, []), (3, .getfield 16, [2, 8, 5, 856]), (1, .iload_n 3, []), (1, .aload_n 0, []), (3, .getfield 16, [2, 8, 5, 856]), (1, .iload_n 3, []), (1, .iconst 1, [0, 1]), (1, .isub, []), (1, .iaload, [0]), (1, .iastore, []), (1, .iconst 0, [0, 0]), (2, .istore 4, []), (0, .nop, [6])]),
  (100, [0, 1, 2, 3, 4], [(2, .iload 4, []), (2, .bipush 8, [0, 8]), (3, .if_icmp .ge 35, [7]), (1, .aload_n 0, []), (3, .getfield 19, [2, 8, 6, 857]), (2, .bipush 8, [0, 8]), (1, .iload_n 3, []), (1, .imul, []), (2, .iload 4, []), (1, .iadd, []), (1, .aload_n 0, []), (3, .getfield 19, [2, 8, 6, 857]), (2, .bipush 8, [0, 8]), (1, .iload_n 3, []), (1, .iconst 1, [0, 1]), (1, .isub, []), (1, .imul, []), (2, .iload 4, []), (1, .iadd, []), (1, .iaload, [0]), (1, .iastore, []), (3, .iinc 4 1, [0, 1]), (3, .goto (-36), [6])]),
  (139, [0, 1, 2, 3], [(3, .iinc 3 (-1), [1, 1]), (3, .goto (-64), [5])]),
  (145, [0, 1, 2], [(1, .aload_n 0, []), (3, .getfield 16, [2, 8, 5, 856]), (1, .iload_n 2, []), (1, .iload_n 1, []), (1, .iastore, []), (1, .iconst 0, [0, 0]), (1, .istore_n 3, []), (0, .nop, [9])]),
  (154, [0, 1, 2, 3], [(1, .iload_n 3, []), (1, .iload_n 1, []), (3, .if_icmp .ge 26, [10]), (1, .aload_n 0, []), (3, .getfield 19, [2, 8, 6, 857]), (2, .bipush 8, [0, 8]), (1, .iload_n 2, []), (1, .imul, []), (1, .iload_n 3, []), (1, .iadd, []), (1, .aload_n 0, []), (3, .getfield 34, [2, 8, 11, 862]), (1, .iload_n 3, []), (1, .iaload, [0]), (1, .iastore, []), (3, .iinc 3 1, [0, 1]), (3, .goto (-25), [9])]),
  (182, [0], [(1, .aload_n 0, []), (1, .dup, []), (3, .getfield 54, [0, 8, 4, 855]), (1, .iconst 1, [0, 1]), (1, .iadd, []), (3, .putfield 54, [0, 8, 4, 855]), (1, .return_, [])])]
def bk_M_isBetter : List jx_B := [
  (0, [0, 1, 2], [(1, .aload_n 0, []), (1, .iconst 1, [0, 1]), (3, .invokevirtual 112, [0, 8, 38, 2, 1, 993]), (27, .tableswitch 60 0 2 #[27, 29, 31], [6, 1, 2, 3])]),
  (32, [], [(1, .iconst 0, [0, 0]), (1, .ireturn, [1])]),
  (34, [], [(1, .iconst 1, [0, 1]), (1, .ireturn, [1])]),
  (36, [0, 1, 2], [(1, .aload_n 0, []), (3, .getfield 7, [2, 8, 0, 851]), (1, .aload_n 0, []), (1, .iload_n 1, []), (3, .invokevirtual 161, [0, 8, 40, 2, 1, 1009]), (1, .iaload, [0]), (1, .aload_n 0, []), (3, .getfield 7, [2, 8, 0, 851]), (1, .aload_n 0, []), (1, .iload_n 2, []), (3, .invokevirtual 161, [0, 8, 40, 2, 1, 1009]), (1, .iaload, [0]), (3, .if_icmp .ge 7, [4]), (1, .iconst 1, [0, 1]), (3, .goto 4, [5])]),
  (63, [], [(1, .iconst 0, [0, 0]), (0, .nop, [5])]),
  (64, [], [(1, .ireturn, [1])]),
  (65, [0, 1, 2], [(1, .aload_n 0, []), (3, .getfield 7, [2, 8, 0, 851]), (1, .aload_n 0, []), (1, .iload_n 1, []), (3, .invokevirtual 161, [0, 8, 40, 2, 1, 1009]), (1, .iconst 1, [0, 1]), (1, .iadd, []), (1, .iaload, [0]), (1, .aload_n 0, []), (3, .getfield 7, [2, 8, 0, 851]), (1, .aload_n 0, []), (1, .iload_n 2, []), (3, .invokevirtual 161, [0, 8, 40, 2, 1, 1009]), (1, .iconst 1, [0, 1]), (1, .iadd, []), (1, .iaload, [0]), (3, .if_icmp .le 7, [7]), (1, .iconst 1, [0, 1]), (3, .goto 4, [8])]),
  (96, [], [(1, .iconst 0, [0, 0]), (0, .nop, [8])]),
  (97, [], [(1, .ireturn, [1])])]
def bk_M_isPossible : List jx_B := [
  (0, [0, 1], [(1, .iload_n 1, []), (2, .bipush 25, [0, 25]), (3, .if_icmp .ge 16, [1]), (1, .aload_n 0, []), (2, .bipush 7, [0, 7]), (3, .invokevirtual 112, [0, 8, 38, 2, 1, 993]), (1, .iload_n 1, []), (1, .ishr, []), (1, .iconst 1, [0, 1]), (1, .iand, []), (3, .goto 16, [2])]),
  (19, [0, 1], [(1, .aload_n 0, []), (2, .bipush 8, [0, 8]), (3, .invokevirtual 112, [0, 8, 38, 2, 1, 993]), (1, .iload_n 1, []), (2, .bipush 25, [0, 25]), (1, .isub, []), (1, .ishr, []), (1, .iconst 1, [0, 1]), (1, .iand, []), (0, .nop, [2])]),
  (32, [], [(1, .iconst 1, [0, 1]), (3, .if_icmp .ne 7, [3]), (1, .iconst 1, [0, 1]), (3, .goto 4, [4])]),
  (40, [], [(1, .iconst 0, [0, 0]), (0, .nop, [4])]),
  (41, [], [(1, .ireturn, [1])])]
def bk_M_isWord : List jx_B := [
  (0, [0], [(1, .iload_n 0, []), (1, .iconst 0, [0, 0]), (1, .iconst 5, [0, 5]), (3, .invokestatic 85, [0, 33, 3, 1, 907]), (1, .ireturn, [1])])]
def bk_M_laysPossible : List jx_B := [
  (0, [0, 1, 2], [(1, .aload_n 0, []), (2, .bipush 7, [0, 7]), (1, .iload_n 1, []), (3, .invokevirtual 115, [0, 8, 41, 3, 0, 989]), (1, .aload_n 0, []), (2, .bipush 8, [0, 8]), (1, .iload_n 2, []), (3, .invokevirtual 115, [0, 8, 41, 3, 0, 989]), (1, .return_, [])])]
def bk_M_longest : List jx_B := [
  (0, [0, 1, 2], [(1, .iload_n 2, []), (1, .iload_n 1, []), (3, .if_icmp .ge 7, [1]), (1, .iload_n 2, []), (3, .goto 4, [2])]),
  (9, [0, 1], [(1, .iload_n 1, []), (0, .nop, [2])]),
  (10, [0, 1], [(1, .istore_n 3, []), (0, .nop, [3])]),
  (11, [0, 1, 3], [(1, .iload_n 3, []), (3, .ifCond .le 29, [5]), (1, .aload_n 0, []), (1, .iload_n 1, []), (1, .iload_n 3, []), (1, .isub, []), (1, .iload_n 3, []), (3, .invokevirtual 61, [0, 8, 37, 3, 1, 843]), (2, .istore 4, []), (2, .iload 4, []), (2, .bipush (-9), [1, 9]), (3, .if_icmp .eq 6, [4]), (2, .iload 4, []), (1, .ireturn, [0])]),
  (35, [0, 1, 3], [(3, .iinc 3 (-1), [1, 1]), (3, .goto (-27), [3])]),
  (41, [], [(1, .iconst 0, [0, 0]), (1, .ireturn, [0])])]
def bk_M_next : List jx_B := [
  (0, [0, 1, 2], [(1, .iload_n 1, []), (1, .iconst 0, [0, 0]), (1, .aload_n 0, []), (3, .getfield 54, [0, 8, 4, 855]), (1, .iconst 1, [0, 1]), (1, .isub, []), (3, .invokestatic 85, [0, 33, 3, 1, 907]), (3, .ifCond .eq 27, [1]), (1, .iload_n 2, []), (1, .iconst 0, [0, 0]), (2, .bipush 25, [0, 25]), (3, .invokestatic 85, [0, 33, 3, 1, 907]), (3, .ifCond .eq 17, [1]), (1, .aload_n 0, []), (3, .getfield 31, [2, 8, 10, 861]), (2, .bipush 26, [0, 26]), (1, .iload_n 1, []), (1, .imul, []), (1, .iload_n 2, []), (1, .iadd, []), (1, .iaload, [0]), (3, .goto 4, [2])]),
  (38, [], [(1, .iconst (-1), [1, 1]), (0, .nop, [2])]),
  (39, [], [(1, .ireturn, [0])])]
def bk_M_node : List jx_B := [
  (0, [0, 1, 2], [(1, .iload_n 1, []), (1, .iconst 0, [0, 0]), (1, .aload_n 0, []), (3, .getfield 54, [0, 8, 4, 855]), (1, .iconst 1, [0, 1]), (1, .isub, []), (3, .invokestatic 85, [0, 33, 3, 1, 907]), (3, .ifCond .eq 12, [1]), (1, .iload_n 2, []), (1, .iconst 0, [0, 0]), (1, .iconst 4, [0, 4]), (3, .invokestatic 85, [0, 33, 3, 1, 907]), (3, .ifCond .ne 5, [2]), (0, .nop, [1])]),
  (23, [], [(1, .iconst (-1), [1, 1]), (1, .ireturn, [0])]),
  (25, [0, 1, 2], [(1, .iload_n 2, []), (30, .tableswitch 79 0 3 #[30, 37, 44, 72], [9, 3, 4, 5, 8])]),
  (56, [0, 1], [(1, .aload_n 0, []), (3, .getfield 16, [2, 8, 5, 856]), (1, .iload_n 1, []), (1, .iaload, [0]), (1, .ireturn, [0])]),
  (63, [0, 1], [(1, .aload_n 0, []), (3, .getfield 22, [2, 8, 7, 858]), (1, .iload_n 1, []), (1, .iaload, [0]), (1, .ireturn, [0])]),
  (70, [0, 1], [(1, .iload_n 1, []), (3, .ifCond .ne 8, [6]), (2, .bipush (-9), [1, 9]), (3, .goto 21, [7])]),
  (79, [0, 1], [(1, .aload_n 0, []), (3, .getfield 19, [2, 8, 6, 857]), (2, .bipush 8, [0, 8]), (1, .iload_n 1, []), (1, .imul, []), (1, .aload_n 0, []), (3, .getfield 16, [2, 8, 5, 856]), (1, .iload_n 1, []), (1, .iaload, [0]), (1, .iadd, []), (1, .iconst 1, [0, 1]), (1, .isub, []), (1, .iaload, [0]), (0, .nop, [7])]),
  (97, [], [(1, .ireturn, [0])]),
  (98, [0, 1], [(1, .aload_n 0, []), (3, .getfield 25, [2, 8, 8, 859]), (1, .iload_n 1, []), (1, .iaload, [0]), (1, .ireturn, [0])]),
  (105, [0, 1], [(1, .aload_n 0, []), (3, .getfield 28, [2, 8, 9, 860]), (1, .iload_n 1, []), (1, .iaload, [0]), (1, .ireturn, [0])])]
def bk_M_placeOf : List jx_B := [
  (0, [0, 1], [(1, .iconst 0, [0, 0]), (1, .istore_n 2, []), (0, .nop, [1])]),
  (2, [0, 1, 2], [(1, .iload_n 2, []), (1, .aload_n 0, []), (3, .getfield 7, [2, 8, 0, 851]), (2, .bipush 57, [0, 57]), (1, .iaload, [0]), (3, .if_icmp .ge 27, [3]), (1, .aload_n 0, []), (3, .getfield 7, [2, 8, 0, 851]), (1, .aload_n 0, []), (1, .iload_n 2, []), (3, .invokevirtual 92, [0, 8, 42, 2, 1, 937]), (1, .iconst 0, [0, 0]), (1, .iadd, []), (1, .iaload, [0]), (1, .iload_n 1, []), (3, .if_icmp .ne 5, [2]), (1, .iload_n 2, []), (1, .ireturn, [0])]),
  (31, [0, 1, 2], [(3, .iinc 2 1, [0, 1]), (3, .goto (-32), [1])]),
  (37, [], [(2, .bipush (-9), [1, 9]), (1, .ireturn, [0])])]
def bk_M_possibleNow : List jx_B := [
  (0, [0], [(1, .aload_n 0, []), (2, .bipush 7, [0, 7]), (3, .invokevirtual 112, [0, 8, 38, 2, 1, 993]), (1, .i2l, []), (1, .aload_n 0, []), (2, .bipush 8, [0, 8]), (3, .invokevirtual 112, [0, 8, 38, 2, 1, 993]), (1, .i2l, []), (2, .bipush 25, [0, 25]), (1, .lshl, []), (1, .ladd, []), (1, .lreturn, [])])]
def bk_M_readNow : List jx_B := [
  (0, [0, 1], [(1, .iload_n 1, []), (1, .aload_n 0, []), (2, .bipush 18, [0, 18]), (3, .invokevirtual 112, [0, 8, 38, 2, 1, 993]), (3, .if_icmp .ge 14, [1]), (1, .aload_n 0, []), (2, .bipush 22, [0, 22]), (1, .iload_n 1, []), (1, .iadd, []), (3, .invokevirtual 112, [0, 8, 38, 2, 1, 993]), (3, .goto 5, [2])]),
  (21, [], [(2, .bipush (-9), [1, 9]), (0, .nop, [2])]),
  (23, [], [(1, .ireturn, [0])])]
def bk_M_records : List jx_B := [
  (0, [0, 1, 2, 3], [(1, .aload_n 0, []), (3, .getfield 7, [2, 8, 0, 851]), (2, .bipush 62, [0, 62]), (1, .iaload, [0]), (2, .bipush 30, [0, 30]), (3, .if_icmp .ne 48, [4]), (2, .bipush 66, [0, 66]), (2, .istore 4, []), (0, .nop, [1])]),
  (16, [0, 1, 2, 3, 4], [(2, .iload 4, []), (3, .sipush 182, [0, 182]), (3, .if_icmp .ge 25, [3]), (1, .aload_n 0, []), (3, .getfield 7, [2, 8, 0, 851]), (2, .iload 4, []), (1, .aload_n 0, []), (3, .getfield 7, [2, 8, 0, 851]), (2, .iload 4, []), (1, .iconst 4, [0, 4]), (1, .iadd, []), (1, .iaload, [0]), (1, .iastore, []), (0, .nop, [2])]),
  (40, [0, 1, 2, 3, 4], [(3, .iinc 4 1, [0, 1]), (3, .goto (-27), [1])]),
  (46, [0, 1, 2, 3], [(1, .aload_n 0, []), (3, .getfield 7, [2, 8, 0, 851]), (2, .bipush 62, [0, 62]), (1, .dup2, []), (1, .iaload, [0]), (1, .iconst 1, [0, 1]), (1, .isub, []), (1, .iastore, []), (0, .nop, [4])]),
  (57, [0, 1, 2, 3], [(2, .bipush 66, [0, 66]), (1, .iconst 4, [0, 4]), (1, .aload_n 0, []), (3, .getfield 7, [2, 8, 0, 851]), (2, .bipush 62, [0, 62]), (1, .iaload, [0]), (1, .imul, []), (1, .iadd, []), (2, .istore 4, []), (1, .aload_n 0, []), (3, .getfield 7, [2, 8, 0, 851]), (2, .iload 4, []), (1, .aload_n 0, []), (1, .iconst 0, [0, 0]), (3, .invokevirtual 112, [0, 8, 38, 2, 1, 993]), (1, .iastore, []), (0, .nop, [5])]),
  (83, [0, 1, 2, 3, 4], [(1, .aload_n 0, []), (3, .getfield 7, [2, 8, 0, 851]), (2, .iload 4, []), (1, .iconst 1, [0, 1]), (1, .iadd, []), (1, .iload_n 1, []), (1, .iastore, []), (0, .nop, [6])]),
  (93, [0, 1, 2, 3, 4], [(1, .aload_n 0, []), (3, .getfield 7, [2, 8, 0, 851]), (2, .iload 4, []), (1, .iconst 2, [0, 2]), (1, .iadd, []), (1, .iload_n 2, []), (1, .iastore, []), (0, .nop, [7])]),
  (103, [0, 1, 2, 3, 4], [(1, .aload_n 0, []), (3, .getfield 7, [2, 8, 0, 851]), (2, .iload 4, []), (1, .iconst 3, [0, 3]), (1, .iadd, []), (1, .iload_n 3, []), (1, .iastore, []), (0, .nop, [8])]),
  (113, [0, 1, 2], [(1, .aload_n 0, []), (3, .getfield 7, [2, 8, 0, 851]), (2, .bipush 62, [0, 62]), (1, .dup2, []), (1, .iaload, [0]), (1, .iconst 1, [0, 1]), (1, .iadd, []), (1, .iastore, []), (0, .nop, [9])]),
  (124, [0, 1, 2], [(1, .aload_n 0, []), (1, .dup, []), (3, .getfield 118, [0, 8, 13, 864]), (1, .iconst 1, [0, 1]), (1, .iadd, []), (3, .putfield 118, [0, 8, 13, 864]), (1, .aload_n 0, []), (3, .getfield 7, [2, 8, 0, 851]), (1, .iload_n 2, []), (2, .bipush (-9), [1, 9]), (3, .if_icmp .ne 8, [10]), (2, .bipush 64, [0, 64]), (3, .goto 5, [11])]),
  (149, [0, 1, 2], [(2, .bipush 63, [0, 63]), (0, .nop, [11])]),
  (151, [0, 1, 2], [(1, .dup2, []), (1, .iaload, [0]), (1, .iconst 1, [0, 1]), (1, .iadd, []), (1, .iastore, []), (0, .nop, [12])]),
  (156, [0, 1, 2], [(1, .aload_n 0, []), (1, .iload_n 2, []), (2, .bipush (-9), [1, 9]), (3, .if_icmp .ne 8, [13]), (2, .bipush 20, [0, 20]), (3, .goto 5, [14])]),
  (168, [0, 1, 2], [(2, .bipush 19, [0, 19]), (0, .nop, [14])]),
  (170, [0, 1, 2], [(1, .iconst 1, [0, 1]), (3, .invokevirtual 121, [0, 8, 28, 3, 0, 997]), (1, .aload_n 0, []), (1, .dup, []), (3, .getfield 124, [0, 8, 14, 865]), (1, .iload_n 2, []), (2, .bipush (-9), [1, 9]), (3, .if_icmp .ne 7, [15]), (1, .iconst 0, [0, 0]), (3, .goto 6, [16])]),
  (189, [1], [(1, .iconst 1, [0, 1]), (1, .iload_n 1, []), (1, .ishl, []), (0, .nop, [16])]),
  (192, [], [(1, .ior, []), (3, .putfield 124, [0, 8, 14, 865]), (1, .return_, [])])]
def bk_M_starts : List jx_B := [
  (0, [0, 1, 2, 3, 4], [(1, .iconst 0, [0, 0]), (2, .istore 5, []), (0, .nop, [1])]),
  (3, [0, 1, 2, 3, 4, 5], [(2, .iload 5, []), (3, .sipush 710, [0, 710]), (3, .if_icmp .ge 22, [2]), (1, .aload_n 0, []), (3, .getfield 7, [2, 8, 0, 851]), (1, .aload_n 0, []), (3, .getfield 109, [0, 8, 12, 863]), (2, .iload 5, []), (1, .iadd, []), (1, .iconst 0, [0, 0]), (1, .iastore, []), (3, .iinc 5 1, [0, 1]), (3, .goto (-24), [1])]),
  (30, [0, 1, 2, 3, 4], [(1, .aload_n 0, []), (1, .iconst 0, [0, 0]), (1, .iload_n 1, []), (3, .invokevirtual 115, [0, 8, 41, 3, 0, 989]), (1, .aload_n 0, []), (1, .iconst 1, [0, 1]), (1, .iload_n 2, []), (3, .invokevirtual 115, [0, 8, 41, 3, 0, 989]), (1, .aload_n 0, []), (1, .iconst 2, [0, 2]), (1, .iload_n 3, []), (3, .invokevirtual 115, [0, 8, 41, 3, 0, 989]), (1, .aload_n 0, []), (1, .iconst 3, [0, 3]), (2, .iload 4, []), (3, .invokevirtual 115, [0, 8, 41, 3, 0, 989]), (1, .aload_n 0, []), (2, .bipush 7, [0, 7]), (1, .iconst 1, [0, 1]), (3, .invokevirtual 115, [0, 8, 41, 3, 0, 989]), (1, .return_, [])])]
def bk_M_type : List jx_B := [
  (0, [0, 1], [(1, .iload_n 1, []), (2, .bipush 32, [0, 32]), (2, .bipush 126, [0, 126]), (3, .invokestatic 85, [0, 33, 3, 1, 907]), (3, .ifCond .ne 5, [1]), (1, .iconst (-1), [1, 1]), (1, .ireturn, [0])]),
  (13, [0, 1], [(1, .aload_n 0, []), (3, .getfield 89, [0, 8, 3, 854]), (2, .bipush 40, [0, 40]), (3, .if_icmp .ne 6, [2]), (2, .bipush (-3), [1, 3]), (1, .ireturn, [0])]),
  (25, [0, 1], [(1, .aload_n 0, []), (3, .getfield 13, [2, 8, 2, 853]), (1, .aload_n 0, []), (3, .getfield 89, [0, 8, 3, 854]), (1, .iload_n 1, []), (1, .iastore, []), (1, .aload_n 0, []), (1, .dup, []), (3, .getfield 89, [0, 8, 3, 854]), (1, .iconst 1, [0, 1]), (1, .iadd, []), (3, .putfield 89, [0, 8, 3, 854]), (1, .aload_n 0, []), (3, .getfield 89, [0, 8, 3, 854]), (1, .ireturn, [0])])]
def bk_T_told : List jx_B := [
  (0, [0, 1], [(1, .iload_n 1, []), (63, .tableswitch 171 0 11 #[63, 74, 82, 92, 102, 112, 120, 131, 142, 153, 161, 166], [13, 1, 2, 3, 4, 5, 6, 7, 8, 9, 10, 11, 12])]),
  (64, [0], [(1, .aload_n 0, []), (3, .getfield 32, [2, 7, 3, 366]), (3, .getfield 64, [2, 5, 0, 336]), (3, .invokevirtual 182, [0, 6, 75, 1, 1, 760]), (1, .ireturn, [0])]),
  (75, [0], [(1, .aload_n 0, []), (3, .getfield 20, [2, 7, 2, 365]), (3, .getfield 77, [0, 0, 0, 104]), (1, .ireturn, [0])]),
  (83, [0], [(1, .aload_n 0, []), (3, .getfield 32, [2, 7, 3, 366]), (3, .getfield 119, [2, 5, 1, 338]), (1, .iconst 0, [0, 0]), (1, .iaload, [0]), (1, .ireturn, [0])]),
  (93, [0], [(1, .aload_n 0, []), (3, .getfield 32, [2, 7, 3, 366]), (3, .getfield 119, [2, 5, 1, 338]), (1, .iconst 1, [0, 1]), (1, .iaload, [0]), (1, .ireturn, [0])]),
  (103, [0], [(1, .aload_n 0, []), (3, .getfield 32, [2, 7, 3, 366]), (3, .getfield 119, [2, 5, 1, 338]), (1, .iconst 2, [0, 2]), (1, .iaload, [0]), (1, .ireturn, [0])]),
  (113, [0], [(1, .aload_n 0, []), (3, .getfield 32, [2, 7, 3, 366]), (3, .getfield 151, [0, 5, 4, 344]), (1, .ireturn, [0])]),
  (121, [0], [(1, .aload_n 0, []), (3, .getfield 32, [2, 7, 3, 366]), (3, .getfield 136, [2, 5, 2, 340]), (3, .getfield 185, [0, 1, 2, 154]), (1, .ireturn, [0])]),
  (132, [0], [(1, .aload_n 0, []), (3, .getfield 32, [2, 7, 3, 366]), (3, .getfield 136, [2, 5, 2, 340]), (3, .getfield 188, [0, 1, 0, 150]), (1, .ireturn, [0])]),
  (143, [0], [(1, .aload_n 0, []), (3, .getfield 32, [2, 7, 3, 366]), (3, .getfield 136, [2, 5, 2, 340]), (3, .getfield 191, [0, 1, 1, 152]), (1, .ireturn, [0])]),
  (154, [0], [(1, .aload_n 0, []), (3, .getfield 32, [2, 7, 3, 366]), (3, .getfield 194, [0, 5, 5, 346]), (1, .ireturn, [0])]),
  (162, [0], [(1, .aload_n 0, []), (3, .getfield 50, [0, 7, 7, 370]), (1, .ireturn, [0])]),
  (167, [0], [(1, .aload_n 0, []), (3, .getfield 13, [0, 7, 1, 364]), (1, .ireturn, [0])]),
  (172, [], [(1, .iconst (-1), [1, 1]), (1, .ireturn, [0])])]
def bk_A_addChildren : List jx_B := [
  (0, [0, 1, 2, 3], [(1, .iconst 0, [0, 0]), (2, .istore 4, []), (0, .nop, [1])]),
  (3, [0, 1, 2, 3, 4], [(2, .iload 4, []), (2, .bipush 26, [0, 26]), (3, .if_icmp .ge 106, [7]), (1, .iconst (-1), [1, 1]), (2, .istore 5, []), (1, .iconst 0, [0, 0]), (2, .istore 6, []), (0, .nop, [2])]),
  (16, [0, 1, 2, 3, 4, 5, 6], [(2, .iload 6, []), (2, .bipush 6, [0, 6]), (3, .if_icmp .ge 87, [6]), (1, .aload_n 0, []), (3, .getfield 37, [2, 0, 8, 119]), (2, .iload 6, []), (1, .iaload, [0]), (1, .iload_n 2, []), (3, .if_icmp .ne 70, [5]), (1, .aload_n 1, []), (2, .iload 6, []), (1, .iload_n 3, []), (1, .iconst 1, [0, 1]), (1, .isub, []), (3, .invokevirtual 57, [0, 6, 26, 3, 1, 483]), (2, .iload 4, []), (3, .if_icmp .eq 6, [3]), (3, .goto 53, [5])]),
  (51, [0, 1, 2, 3, 4, 5, 6], [(2, .iload 5, []), (1, .iconst (-1), [1, 1]), (3, .if_icmp .ne 13, [4]), (1, .aload_n 0, []), (1, .iload_n 2, []), (2, .iload 4, []), (1, .iload_n 3, []), (3, .invokevirtual 61, [0, 0, 57, 4, 1, 487]), (2, .istore 5, []), (0, .nop, [4])]),
  (67, [0, 1, 2, 3, 4, 5, 6], [(1, .aload_n 0, []), (3, .getfield 37, [2, 0, 8, 119]), (2, .iload 6, []), (2, .iload 5, []), (1, .iastore, []), (1, .aload_n 0, []), (3, .getfield 31, [2, 0, 6, 116]), (2, .iload 6, []), (1, .iaload, [0]), (1, .iload_n 3, []), (3, .if_icmp .ne 17, [5]), (1, .aload_n 0, []), (3, .getfield 28, [2, 0, 5, 113]), (2, .iload 5, []), (1, .dup2, []), (1, .iaload, [0]), (1, .iconst 1, [0, 1]), (2, .iload 6, []), (1, .ishl, []), (1, .ior, []), (1, .iastore, []), (0, .nop, [5])]),
  (101, [0, 1, 2, 3, 4, 5, 6], [(3, .iinc 6 1, [0, 1]), (3, .goto (-88), [2])]),
  (107, [0, 1, 2, 3, 4], [(3, .iinc 4 1, [0, 1]), (3, .goto (-107), [1])]),
  (113, [], [(1, .return_, [])])]
def bk_A_fewestLettersToWord : List jx_B := [
  (0, [0, 1], [(1, .lconst 1, []), (1, .iload_n 1, []), (1, .lshl, []), (1, .lstore_n 2, []), (1, .iconst 1, [0, 1]), (2, .istore 4, []), (0, .nop, [1])]),
  (7, [0, 2, 4], [(2, .iload 4, []), (2, .bipush 8, [0, 8]), (3, .if_icmp .gt 26, [3]), (1, .aload_n 0, []), (1, .lload_n 2, []), (3, .invokevirtual 77, [0, 0, 59, 2, 2, 693]), (1, .lstore_n 2, []), (1, .aload_n 0, []), (1, .lload_n 2, []), (3, .invokevirtual 81, [0, 0, 11, 2, 1, 790]), (3, .ifCond .eq 6, [2]), (2, .iload 4, []), (1, .ireturn, [0])]),
  (31, [0, 2, 4], [(3, .iinc 4 1, [0, 1]), (3, .goto (-27), [1])]),
  (37, [], [(2, .bipush (-9), [1, 9]), (1, .ireturn, [0])])]
def bk_A_spread : List jx_B := [
  (0, [0, 1, 3], [(1, .lload_n 1, []), (2, .lstore 4, []), (1, .iconst 0, [0, 0]), (2, .istore 6, []), (0, .nop, [1])]),
  (6, [0, 3, 4, 6], [(2, .iload 6, []), (1, .iload_n 3, []), (3, .if_icmp .ge 37, [3]), (2, .lload 4, []), (1, .aload_n 0, []), (2, .lload 4, []), (3, .invokevirtual 77, [0, 0, 59, 2, 2, 693]), (1, .lor, []), (1, .lconst 1, []), (1, .lor, []), (2, .lstore 7, []), (2, .lload 7, []), (2, .lload 4, []), (1, .lcmp, []), (3, .ifCond .ne 6, [2]), (3, .goto 13, [3])]),
  (36, [0, 3, 6, 7], [(2, .lload 7, []), (2, .lstore 4, []), (3, .iinc 6 1, [0, 1]), (3, .goto (-37), [1])]),
  (46, [4], [(2, .lload 4, []), (1, .lreturn, [])])]
def bk_Fl_init : List jx_B := [
  (0, [0, 1, 2], [(1, .aload_n 0, []), (3, .invokespecial 3, [2, 201, 95, 96]), (1, .aload_n 0, []), (3, .new 9, [4, 202, 203, 81]), (1, .dup, []), (2, .bipush 6, [0, 6]), (3, .invokespecial 11, [0, 67, 2, 204]), (3, .putfield 14, [2, 2, 4, 299]), (1, .aload_n 0, []), (3, .new 9, [4, 202, 203, 81]), (1, .dup, []), (2, .bipush 10, [0, 10]), (3, .invokespecial 11, [0, 67, 2, 204]), (3, .putfield 20, [2, 2, 5, 301]), (1, .aload_n 0, []), (3, .new 23, [3, 228, 229, 82]), (1, .dup, []), (1, .aload_n 1, []), (1, .aload_n 2, []), (3, .invokespecial 25, [0, 63, 3, 230]), (3, .putfield 28, [2, 2, 6, 303]), (1, .return_, [])])]
def bk_Fl_begin : List jx_B := [
  (0, [0, 1, 2, 3, 4], [(1, .aload_n 0, []), (1, .iload_n 1, []), (3, .putfield 32, [0, 2, 0, 291]), (1, .aload_n 0, []), (1, .iload_n 2, []), (3, .putfield 36, [0, 2, 1, 294]), (1, .aload_n 0, []), (2, .iload 4, []), (3, .putfield 39, [0, 2, 2, 295]), (1, .aload_n 0, []), (1, .iconst 0, [0, 0]), (3, .putfield 42, [0, 2, 3, 297]), (0, .nop, [1])]),
  (21, [0, 1, 3], [(1, .aload_n 0, []), (3, .getfield 14, [2, 2, 4, 299]), (1, .iconst 0, [0, 0]), (3, .putfield 45, [0, 4, 0, 209]), (1, .aload_n 0, []), (3, .getfield 20, [2, 2, 5, 301]), (1, .iconst 0, [0, 0]), (3, .putfield 45, [0, 4, 0, 209]), (1, .aload_n 0, []), (3, .getfield 28, [2, 2, 6, 303]), (1, .iload_n 1, []), (1, .iload_n 3, []), (3, .invokevirtual 48, [0, 3, 64, 3, 0, 583]), (1, .aload_n 0, []), (1, .iconst 0, [0, 0]), (3, .putfield 52, [0, 2, 7, 305]), (1, .aload_n 0, []), (1, .iconst 0, [0, 0]), (3, .putfield 55, [0, 2, 8, 306]), (0, .nop, [2])]),
  (56, [0], [(1, .aload_n 0, []), (1, .iconst 0, [0, 0]), (3, .putfield 58, [0, 2, 9, 307]), (1, .aload_n 0, []), (1, .iconst 0, [0, 0]), (3, .putfield 61, [0, 2, 10, 308]), (1, .aload_n 0, []), (1, .iconst 0, [0, 0]), (3, .putfield 64, [0, 2, 11, 309]), (1, .return_, [])])]
def bk_Fl_chosenByte : List jx_B := [
  (0, [0, 1], [(1, .iload_n 1, []), (1, .aload_n 0, []), (3, .getfield 42, [0, 2, 3, 297]), (3, .if_icmp .ge 6, [1]), (2, .bipush (-9), [1, 9]), (1, .ireturn, [0])]),
  (11, [0, 1], [(1, .aload_n 0, []), (3, .getfield 14, [2, 2, 4, 299]), (1, .aload_n 0, []), (1, .iload_n 1, []), (3, .invokevirtual 91, [0, 2, 62, 2, 1, 597]), (1, .iload_n 1, []), (3, .invokevirtual 94, [0, 4, 68, 3, 1, 609]), (1, .ireturn, [0])])]
def bk_Fl_isDisputed : List jx_B := [
  (0, [0, 1, 2], [(1, .iconst 0, [0, 0]), (1, .istore_n 3, []), (0, .nop, [1])]),
  (2, [0, 1, 2, 3], [(1, .iload_n 3, []), (1, .aload_n 0, []), (3, .getfield 14, [2, 2, 4, 299]), (3, .getfield 45, [0, 4, 0, 209]), (3, .if_icmp .ge 35, [3]), (1, .aload_n 0, []), (3, .getfield 14, [2, 2, 4, 299]), (1, .iload_n 3, []), (1, .iload_n 1, []), (3, .invokevirtual 94, [0, 4, 68, 3, 1, 609]), (2, .istore 4, []), (2, .iload 4, []), (2, .bipush (-9), [1, 9]), (3, .if_icmp .eq 11, [2]), (2, .iload 4, []), (1, .iload_n 2, []), (3, .if_icmp .eq 5, [2]), (1, .iconst 1, [0, 1]), (1, .ireturn, [1])]),
  (39, [0, 1, 2, 3], [(3, .iinc 3 1, [0, 1]), (3, .goto (-40), [1])]),
  (45, [], [(1, .iconst 0, [0, 0]), (1, .ireturn, [1])])]
def bk_R_release : List jx_B := [
  (0, [0, 1], [(1, .aload_n 0, []), (3, .getfield 33, [0, 3, 4, 240]), (1, .istore_n 2, []), (1, .aload_n 0, []), (1, .iconst 0, [0, 0]), (3, .putfield 33, [0, 3, 4, 240]), (1, .iload_n 2, []), (3, .ifCond .le 17, [1]), (1, .aload_n 0, []), (2, .bipush 37, [0, 37]), (1, .iload_n 1, []), (1, .iload_n 2, []), (1, .isub, []), (1, .iload_n 1, []), (1, .iload_n 2, []), (1, .isub, []), (1, .iconst 1, [0, 1]), (1, .iadd, []), (3, .invokevirtual 71, [0, 3, 65, 4, 0, 622]), (0, .nop, [1])]),
  (28, [0, 1, 2], [(1, .iload_n 2, []), (1, .iconst 1, [0, 1]), (3, .if_icmp .le 15, [2]), (1, .aload_n 0, []), (1, .aload_n 0, []), (3, .getfield 62, [0, 3, 5, 242]), (1, .iload_n 1, []), (1, .iconst 1, [0, 1]), (1, .isub, []), (1, .iload_n 1, []), (3, .invokevirtual 71, [0, 3, 65, 4, 0, 622]), (0, .nop, [2])]),
  (45, [], [(1, .return_, [])])]
def bk_Sg_add : List jx_B := [
  (0, [0, 1, 2, 3, 4], [(1, .aload_n 0, []), (3, .invokevirtual 30, [0, 4, 22, 1, 1, 447]), (3, .ifCond .ne 25, [1]), (1, .iload_n 3, []), (3, .ifCond .lt 21, [1]), (1, .iload_n 3, []), (2, .bipush 40, [0, 40]), (3, .if_icmp .gt 15, [1]), (1, .iload_n 2, []), (3, .ifCond .lt 11, [1]), (1, .iload_n 2, []), (1, .aload_n 1, []), (1, .arraylength, [2]), (1, .iload_n 3, []), (1, .isub, []), (3, .if_icmp .le 4, [2]), (0, .nop, [1])]),
  (29, [], [(1, .return_, [])]),
  (30, [0, 1, 2, 3, 4], [(1, .aload_n 0, []), (1, .aload_n 0, []), (3, .getfield 9, [0, 4, 0, 208]), (1, .aload_n 1, []), (1, .iload_n 2, []), (1, .iload_n 3, []), (2, .iload 4, []), (3, .invokevirtual 34, [0, 4, 70, 6, 0, 451]), (1, .aload_n 0, []), (1, .dup, []), (3, .getfield 9, [0, 4, 0, 208]), (1, .iconst 1, [0, 1]), (1, .iadd, []), (3, .putfield 9, [0, 4, 0, 208]), (1, .return_, [])])]
def bk_Sg_coveredFrom : List jx_B := [
  (0, [0, 1], [(1, .iconst 0, [0, 0]), (1, .istore_n 2, []), (1, .iconst 0, [0, 0]), (1, .istore_n 3, []), (0, .nop, [1])]),
  (4, [0, 1, 2, 3], [(1, .iload_n 3, []), (1, .aload_n 0, []), (3, .getfield 9, [0, 4, 0, 208]), (3, .if_icmp .ge 62, [5]), (1, .aload_n 0, []), (3, .getfield 15, [2, 4, 1, 211]), (1, .iload_n 3, []), (1, .iaload, [0]), (1, .aload_n 0, []), (3, .getfield 19, [2, 4, 2, 214]), (1, .iload_n 3, []), (1, .iaload, [0]), (1, .iadd, []), (2, .istore 4, []), (1, .iload_n 1, []), (1, .aload_n 0, []), (3, .getfield 15, [2, 4, 1, 211]), (1, .iload_n 3, []), (1, .iaload, [0]), (3, .invokestatic 48, [5, 669, 670, 85, 671]), (2, .istore 5, []), (0, .nop, [2])]),
  (39, [0, 1, 2, 3, 4, 5], [(2, .iload 5, []), (2, .iload 4, []), (3, .if_icmp .ge 22, [4]), (1, .aload_n 0, []), (1, .iload_n 3, []), (2, .iload 5, []), (3, .invokevirtual 54, [0, 4, 69, 3, 1, 672]), (3, .ifCond .ne 6, [3]), (3, .iinc 2 1, [0, 1]), (0, .nop, [3])]),
  (59, [0, 1, 2, 3, 4, 5], [(3, .iinc 5 1, [0, 1]), (3, .goto (-23), [2])]),
  (65, [0, 1, 2, 3], [(3, .iinc 3 1, [0, 1]), (3, .goto (-64), [1])]),
  (71, [2], [(1, .iload_n 2, []), (1, .ireturn, [0])])]
def bk_Sg_dropBefore : List jx_B := [
  (0, [0, 1], [(1, .iconst 0, [0, 0]), (1, .istore_n 2, []), (1, .iconst 0, [0, 0]), (1, .istore_n 3, []), (0, .nop, [1])]),
  (4, [0, 1, 2, 3], [(1, .iload_n 3, []), (1, .aload_n 0, []), (3, .getfield 9, [0, 4, 0, 208]), (3, .if_icmp .ge 62, [5]), (1, .aload_n 0, []), (3, .getfield 15, [2, 4, 1, 211]), (1, .iload_n 3, []), (1, .iaload, [0]), (1, .aload_n 0, []), (3, .getfield 19, [2, 4, 2, 214]), (1, .iload_n 3, []), (1, .iaload, [0]), (1, .iadd, []), (1, .iload_n 1, []), (3, .if_icmp .gt 6, [2]), (3, .goto 36, [4])]),
  (32, [0, 1, 2, 3], [(1, .iload_n 2, []), (1, .iload_n 3, []), (3, .if_icmp .ge 28, [3]), (1, .aload_n 0, []), (1, .iload_n 2, []), (1, .aload_n 0, []), (3, .getfield 22, [2, 4, 3, 217]), (1, .iload_n 3, []), (2, .bipush 40, [0, 40]), (1, .imul, []), (1, .aload_n 0, []), (3, .getfield 19, [2, 4, 2, 214]), (1, .iload_n 3, []), (1, .iaload, [0]), (1, .aload_n 0, []), (3, .getfield 15, [2, 4, 1, 211]), (1, .iload_n 3, []), (1, .iaload, [0]), (3, .invokevirtual 34, [0, 4, 70, 6, 0, 451]), (0, .nop, [3])]),
  (62, [0, 1, 2, 3], [(3, .iinc 2 1, [0, 1]), (0, .nop, [4])]),
  (65, [0, 1, 2, 3], [(3, .iinc 3 1, [0, 1]), (3, .goto (-64), [1])]),
  (71, [0, 2], [(1, .aload_n 0, []), (1, .iload_n 2, []), (3, .putfield 9, [0, 4, 0, 208]), (1, .return_, [])])]
def bk_M_asked : List jx_B := [
  (0, [0, 1], [(1, .aload_n 0, []), (1, .iload_n 1, []), (3, .invokevirtual 195, [0, 8, 96, 2, 1, 969]), (1, .istore_n 2, []), (1, .iload_n 1, []), (1, .iconst 0, [0, 0]), (2, .bipush 99, [0, 99]), (3, .invokestatic 85, [0, 33, 3, 1, 907]), (3, .ifCond .ne 7, [1]), (1, .iconst (-1), [1, 1]), (3, .goto 15, [3])]),
  (20, [2], [(1, .iload_n 2, []), (2, .bipush (-9), [1, 9]), (3, .if_icmp .ne 8, [2]), (2, .bipush (-2), [1, 2]), (3, .goto 4, [3])]),
  (31, [2], [(1, .iload_n 2, []), (0, .nop, [3])]),
  (32, [], [(1, .ireturn, [0])])]
def bk_M_chosen : List jx_B := [
  (0, [0, 1], [(2, .bipush (-9), [1, 9]), (1, .istore_n 2, []), (1, .iconst 0, [0, 0]), (1, .istore_n 3, []), (0, .nop, [1])]),
  (5, [0, 1, 2, 3], [(1, .iload_n 3, []), (1, .aload_n 0, []), (1, .iconst 5, [0, 5]), (3, .invokevirtual 112, [0, 8, 38, 2, 1, 993]), (3, .if_icmp .ge 35, [4]), (1, .aload_n 0, []), (1, .iload_n 3, []), (1, .iload_n 1, []), (3, .invokevirtual 164, [0, 8, 79, 3, 1, 1021]), (3, .ifCond .eq 20, [3]), (1, .iload_n 2, []), (2, .bipush (-9), [1, 9]), (3, .if_icmp .eq 12, [2]), (1, .aload_n 0, []), (1, .iload_n 3, []), (1, .iload_n 2, []), (3, .invokevirtual 167, [0, 8, 89, 3, 1, 1025]), (3, .ifCond .eq 5, [3]), (0, .nop, [2])]),
  (38, [0, 1, 3], [(1, .iload_n 3, []), (1, .istore_n 2, []), (0, .nop, [3])]),
  (40, [0, 1, 2, 3], [(3, .iinc 3 1, [0, 1]), (3, .goto (-38), [1])]),
  (46, [2], [(1, .iload_n 2, []), (1, .ireturn, [0])])]
def bk_M_isConflict : List jx_B := [
  (0, [0, 1], [(2, .bipush (-9), [1, 9]), (1, .istore_n 2, []), (1, .iconst 0, [0, 0]), (1, .istore_n 3, []), (1, .iconst 0, [0, 0]), (2, .istore 4, []), (0, .nop, [1])]),
  (8, [0, 1, 2, 3, 4], [(2, .iload 4, []), (1, .aload_n 0, []), (1, .iconst 5, [0, 5]), (3, .invokevirtual 112, [0, 8, 38, 2, 1, 993]), (3, .if_icmp .ge 54, [6]), (1, .aload_n 0, []), (2, .iload 4, []), (1, .iload_n 1, []), (3, .invokevirtual 164, [0, 8, 79, 3, 1, 1021]), (3, .ifCond .eq 38, [5]), (1, .iload_n 3, []), (3, .ifCond .ne 25, [2]), (1, .iload_n 2, []), (2, .bipush (-9), [1, 9]), (3, .if_icmp .eq 23, [3]), (1, .aload_n 0, []), (2, .iload 4, []), (1, .iload_n 1, []), (3, .invokevirtual 170, [0, 8, 78, 3, 1, 1029]), (1, .aload_n 0, []), (1, .iload_n 2, []), (1, .iload_n 1, []), (3, .invokevirtual 170, [0, 8, 78, 3, 1, 1029]), (3, .if_icmp .eq 7, [3]), (0, .nop, [2])]),
  (54, [0, 1, 4], [(1, .iconst 1, [0, 1]), (3, .goto 4, [4])]),
  (58, [0, 1, 4], [(1, .iconst 0, [0, 0]), (0, .nop, [4])]),
  (59, [0, 1, 4], [(1, .istore_n 3, []), (2, .iload 4, []), (1, .istore_n 2, []), (0, .nop, [5])]),
  (63, [0, 1, 2, 3, 4], [(3, .iinc 4 1, [0, 1]), (3, .goto (-58), [1])]),
  (69, [3], [(1, .iload_n 3, []), (1, .ireturn, [1])])]
def bk_M_lays : List jx_B := [
  (0, [0], [(1, .aload_n 0, []), (1, .iconst 1, [0, 1]), (3, .putfield 54, [0, 8, 4, 855]), (1, .aload_n 0, []), (3, .getfield 16, [2, 8, 5, 856]), (1, .iconst 0, [0, 0]), (1, .iconst 0, [0, 0]), (1, .iastore, []), (1, .iconst 0, [0, 0]), (1, .istore_n 1, []), (0, .nop, [1])]),
  (14, [0, 1], [(1, .iload_n 1, []), (2, .bipush 6, [0, 6]), (3, .if_icmp .ge 56, [6]), (1, .iconst 1, [0, 1]), (1, .istore_n 2, []), (0, .nop, [2])]),
  (22, [0, 1, 2], [(1, .iload_n 2, []), (1, .aload_n 0, []), (1, .iload_n 1, []), (3, .invokevirtual 64, [0, 8, 44, 2, 1, 819]), (3, .if_icmp .gt 39, [5]), (1, .iconst 0, [0, 0]), (1, .istore_n 3, []), (0, .nop, [3])]),
  (33, [0, 1, 2, 3], [(1, .iload_n 3, []), (1, .iload_n 2, []), (3, .if_icmp .ge 21, [4]), (1, .aload_n 0, []), (3, .getfield 34, [2, 8, 11, 862]), (1, .iload_n 3, []), (1, .aload_n 0, []), (1, .iload_n 1, []), (1, .iload_n 3, []), (3, .invokevirtual 68, [0, 8, 35, 3, 1, 823]), (1, .iastore, []), (3, .iinc 3 1, [0, 1]), (3, .goto (-20), [3])]),
  (56, [0, 1, 2], [(1, .aload_n 0, []), (1, .iload_n 2, []), (3, .invokevirtual 71, [0, 8, 88, 2, 0, 827]), (3, .iinc 2 1, [0, 1]), (3, .goto (-42), [2])]),
  (67, [0, 1], [(3, .iinc 1 1, [0, 1]), (3, .goto (-56), [1])]),
  (73, [0], [(1, .iconst 0, [0, 0]), (1, .istore_n 1, []), (0, .nop, [7])]),
  (75, [0, 1], [(1, .iload_n 1, []), (1, .aload_n 0, []), (3, .getfield 54, [0, 8, 4, 855]), (3, .if_icmp .ge 172, [18]), (1, .aload_n 0, []), (3, .getfield 28, [2, 8, 9, 860]), (1, .iload_n 1, []), (1, .iconst 0, [0, 0]), (1, .iastore, []), (1, .iconst 0, [0, 0]), (1, .istore_n 2, []), (0, .nop, [8])]),
  (92, [0, 1, 2], [(1, .iload_n 2, []), (2, .bipush 6, [0, 6]), (3, .if_icmp .ge 34, [11]), (1, .aload_n 0, []), (3, .getfield 28, [2, 8, 9, 860]), (1, .iload_n 1, []), (1, .dup2, []), (1, .iaload, [0]), (1, .aload_n 0, []), (1, .iload_n 1, []), (1, .iload_n 2, []), (3, .invokevirtual 75, [0, 8, 82, 3, 1, 835]), (3, .ifCond .eq 9, [9]), (1, .iconst 1, [0, 1]), (1, .iload_n 2, []), (1, .ishl, []), (3, .goto 4, [10])]),
  (120, [0, 1, 2], [(1, .iconst 0, [0, 0]), (0, .nop, [10])]),
  (121, [0, 1, 2], [(1, .ior, []), (1, .iastore, []), (3, .iinc 2 1, [0, 1]), (3, .goto (-34), [8])]),
  (129, [0, 1], [(1, .aload_n 0, []), (1, .iload_n 1, []), (3, .invokevirtual 79, [0, 8, 43, 2, 0, 839]), (1, .aload_n 0, []), (3, .getfield 22, [2, 8, 7, 858]), (1, .iload_n 1, []), (1, .iload_n 1, []), (3, .ifCond .ne 8, [12]), (2, .bipush (-9), [1, 9]), (3, .goto 16, [13])]),
  (148, [0, 1], [(1, .aload_n 0, []), (1, .iconst 0, [0, 0]), (1, .aload_n 0, []), (3, .getfield 16, [2, 8, 5, 856]), (1, .iload_n 1, []), (1, .iaload, [0]), (1, .iconst 1, [0, 1]), (1, .isub, []), (3, .invokevirtual 61, [0, 8, 37, 3, 1, 843]), (0, .nop, [13])]),
  (161, [0, 1], [(1, .iastore, []), (1, .aload_n 0, []), (3, .getfield 25, [2, 8, 8, 859]), (1, .iload_n 1, []), (1, .iload_n 1, []), (3, .ifCond .ne 8, [14]), (2, .bipush (-9), [1, 9]), (3, .goto 21, [15])]),
  (176, [0, 1], [(1, .aload_n 0, []), (1, .aload_n 0, []), (3, .getfield 16, [2, 8, 5, 856]), (1, .iload_n 1, []), (1, .iaload, [0]), (1, .aload_n 0, []), (3, .getfield 16, [2, 8, 5, 856]), (1, .iload_n 1, []), (1, .iaload, [0]), (1, .iconst 1, [0, 1]), (1, .isub, []), (3, .invokevirtual 82, [0, 8, 93, 3, 1, 847]), (0, .nop, [15])]),
  (194, [0, 1], [(1, .iastore, []), (1, .iconst 0, [0, 0]), (1, .istore_n 2, []), (0, .nop, [16])]),
  (197, [0, 1, 2], [(1, .iload_n 2, []), (2, .bipush 26, [0, 26]), (3, .if_icmp .ge 46, [17]), (1, .aload_n 0, []), (3, .getfield 34, [2, 8, 11, 862]), (1, .aload_n 0, []), (3, .getfield 16, [2, 8, 5, 856]), (1, .iload_n 1, []), (1, .iaload, [0]), (1, .iload_n 2, []), (1, .iastore, []), (1, .aload_n 0, []), (3, .getfield 31, [2, 8, 10, 861]), (2, .bipush 26, [0, 26]), (1, .iload_n 1, []), (1, .imul, []), (1, .iload_n 2, []), (1, .iadd, []), (1, .aload_n 0, []), (1, .aload_n 0, []), (3, .getfield 16, [2, 8, 5, 856]), (1, .iload_n 1, []), (1, .iaload, [0]), (1, .iconst 1, [0, 1]), (1, .iadd, []), (2, .bipush 8, [0, 8]), (3, .invokevirtual 82, [0, 8, 93, 3, 1, 847]), (1, .iastore, []), (3, .iinc 2 1, [0, 1]), (3, .goto (-46), [16])]),
  (246, [0, 1], [(3, .iinc 1 1, [0, 1]), (3, .goto (-174), [7])]),
  (252, [], [(1, .return_, [])])]
def bk_M_letter : List jx_B := [
  (0, [0, 1, 2], [(1, .iload_n 1, []), (3, .invokestatic 95, [0, 91, 1, 1, 918]), (3, .ifCond .eq 7, [1]), (1, .iload_n 2, []), (3, .ifCond .ge 5, [2]), (0, .nop, [1])]),
  (11, [], [(1, .iconst (-1), [1, 1]), (1, .ireturn, [0])]),
  (13, [0, 1, 2], [(1, .aload_n 0, []), (1, .iload_n 1, []), (3, .invokevirtual 64, [0, 8, 44, 2, 1, 819]), (3, .ifCond .ne 8, [3]), (2, .bipush (-2), [1, 2]), (3, .goto 23, [5])]),
  (26, [0, 1, 2], [(1, .iload_n 2, []), (1, .aload_n 0, []), (1, .iload_n 1, []), (3, .invokevirtual 64, [0, 8, 44, 2, 1, 819]), (3, .if_icmp .ge 12, [4]), (1, .aload_n 0, []), (1, .iload_n 1, []), (1, .iload_n 2, []), (3, .invokevirtual 68, [0, 8, 35, 3, 1, 823]), (3, .goto 5, [5])]),
  (44, [], [(2, .bipush (-9), [1, 9]), (0, .nop, [5])]),
  (46, [], [(1, .ireturn, [0])])]
def bk_M_possibleMany : List jx_B := [
  (0, [0], [(1, .iconst 0, [0, 0]), (1, .istore_n 1, []), (1, .iconst 0, [0, 0]), (1, .istore_n 2, []), (0, .nop, [1])]),
  (4, [0, 1, 2], [(1, .iload_n 2, []), (1, .aload_n 0, []), (3, .getfield 54, [0, 8, 4, 855]), (3, .if_icmp .ge 25, [4]), (1, .iload_n 1, []), (1, .aload_n 0, []), (1, .iload_n 2, []), (3, .invokevirtual 127, [0, 8, 90, 2, 1, 1060]), (3, .ifCond .eq 7, [2]), (1, .iconst 1, [0, 1]), (3, .goto 4, [3])]),
  (25, [0, 2], [(1, .iconst 0, [0, 0]), (0, .nop, [3])]),
  (26, [0, 2], [(1, .iadd, []), (1, .istore_n 1, []), (3, .iinc 2 1, [0, 1]), (3, .goto (-27), [1])]),
  (34, [1], [(1, .iload_n 1, []), (1, .ireturn, [0])])]
def bk_M_set : List jx_B := [
  (0, [0, 1, 2], [(1, .iload_n 1, []), (1, .iconst 0, [0, 0]), (1, .iconst 2, [0, 2]), (3, .invokestatic 85, [0, 33, 3, 1, 907]), (3, .ifCond .eq 40, [6]), (1, .iload_n 2, []), (1, .iload_n 1, []), (1, .iconst 2, [0, 2]), (3, .if_icmp .ne 7, [1]), (1, .iconst 1, [0, 1]), (3, .goto 4, [2])]),
  (19, [0, 1, 2], [(1, .iconst 0, [0, 0]), (0, .nop, [2])]),
  (20, [0, 1, 2], [(1, .iload_n 1, []), (3, .ifCond .ne 7, [3]), (1, .iconst 3, [0, 3]), (3, .goto 15, [5])]),
  (28, [0, 1, 2], [(1, .iload_n 1, []), (1, .iconst 1, [0, 1]), (3, .if_icmp .ne 8, [4]), (2, .bipush 15, [0, 15]), (3, .goto 5, [5])]),
  (38, [0, 1, 2], [(2, .bipush 40, [0, 40]), (0, .nop, [5])]),
  (40, [0, 1, 2], [(3, .invokestatic 85, [0, 33, 3, 1, 907]), (3, .ifCond .ne 5, [7]), (0, .nop, [6])]),
  (46, [], [(1, .iconst (-1), [1, 1]), (1, .ireturn, [0])]),
  (48, [0, 1, 2], [(1, .aload_n 0, []), (3, .invokevirtual 103, [0, 8, 77, 1, 0, 925]), (1, .aload_n 0, []), (3, .getfield 7, [2, 8, 0, 851]), (2, .bipush 54, [0, 54]), (1, .iload_n 1, []), (1, .iadd, []), (1, .iaload, [0]), (1, .istore_n 3, []), (1, .aload_n 0, []), (3, .getfield 7, [2, 8, 0, 851]), (2, .bipush 54, [0, 54]), (1, .iload_n 1, []), (1, .iadd, []), (1, .iload_n 2, []), (1, .iastore, []), (1, .iload_n 3, []), (1, .ireturn, [0])])]
def bk_M_steps : List jx_B := [
  (0, [0, 1], [(1, .iconst 0, [0, 0]), (1, .istore_n 2, []), (1, .iconst 0, [0, 0]), (1, .istore_n 3, []), (1, .iconst 0, [0, 0]), (2, .istore 4, []), (0, .nop, [1])]),
  (7, [0, 1, 2, 3, 4], [(2, .iload 4, []), (1, .aload_n 0, []), (3, .getfield 54, [0, 8, 4, 855]), (3, .if_icmp .ge 54, [3]), (1, .aload_n 0, []), (2, .iload 4, []), (3, .invokevirtual 127, [0, 8, 90, 2, 1, 1060]), (3, .ifCond .eq 39, [2]), (1, .iload_n 2, []), (1, .aload_n 0, []), (3, .getfield 31, [2, 8, 10, 861]), (2, .bipush 26, [0, 26]), (2, .iload 4, []), (1, .imul, []), (1, .iload_n 1, []), (1, .iadd, []), (1, .iaload, [0]), (3, .invokestatic 130, [0, 36, 1, 1, 1064]), (1, .ior, []), (1, .istore_n 2, []), (1, .iload_n 3, []), (1, .aload_n 0, []), (3, .getfield 31, [2, 8, 10, 861]), (2, .bipush 26, [0, 26]), (2, .iload 4, []), (1, .imul, []), (1, .iload_n 1, []), (1, .iadd, []), (1, .iaload, [0]), (3, .invokestatic 133, [0, 32, 1, 1, 1067]), (1, .ior, []), (1, .istore_n 3, []), (0, .nop, [2])]),
  (61, [0, 1, 2, 3, 4], [(3, .iinc 4 1, [0, 1]), (3, .goto (-57), [1])]),
  (67, [0, 1, 2, 3], [(1, .aload_n 0, []), (1, .iload_n 2, []), (1, .iload_n 3, []), (3, .invokevirtual 136, [0, 8, 92, 3, 0, 1070]), (1, .aload_n 0, []), (2, .bipush 6, [0, 6]), (1, .aload_n 0, []), (3, .getfield 31, [2, 8, 10, 861]), (2, .bipush 26, [0, 26]), (1, .aload_n 0, []), (2, .bipush 6, [0, 6]), (3, .invokevirtual 112, [0, 8, 38, 2, 1, 993]), (1, .imul, []), (1, .iload_n 1, []), (1, .iadd, []), (1, .iaload, [0]), (3, .invokevirtual 115, [0, 8, 41, 3, 0, 989]), (1, .return_, [])])]
def bk_M_told : List jx_B := [
  (0, [0, 1], [(1, .iload_n 1, []), (63, .tableswitch 135 0 11 #[63, 68, 73, 73, 73, 85, 93, 101, 109, 117, 125, 130], [11, 1, 2, 3, 3, 3, 4, 5, 6, 7, 8, 9, 10])]),
  (64, [0], [(1, .aload_n 0, []), (3, .invokevirtual 239, [0, 8, 80, 1, 1, 1150]), (1, .ireturn, [0])]),
  (69, [0], [(1, .aload_n 0, []), (3, .getfield 54, [0, 8, 4, 855]), (1, .ireturn, [0])]),
  (74, [0, 1], [(1, .aload_n 0, []), (3, .getfield 7, [2, 8, 0, 851]), (2, .bipush 54, [0, 54]), (1, .iload_n 1, []), (1, .iadd, []), (1, .iconst 2, [0, 2]), (1, .isub, []), (1, .iaload, [0]), (1, .ireturn, [0])]),
  (86, [0], [(1, .aload_n 0, []), (3, .getfield 7, [2, 8, 0, 851]), (2, .bipush 57, [0, 57]), (1, .iaload, [0]), (1, .ireturn, [0])]),
  (94, [0], [(1, .aload_n 0, []), (3, .getfield 7, [2, 8, 0, 851]), (2, .bipush 62, [0, 62]), (1, .iaload, [0]), (1, .ireturn, [0])]),
  (102, [0], [(1, .aload_n 0, []), (3, .getfield 7, [2, 8, 0, 851]), (2, .bipush 63, [0, 63]), (1, .iaload, [0]), (1, .ireturn, [0])]),
  (110, [0], [(1, .aload_n 0, []), (3, .getfield 7, [2, 8, 0, 851]), (2, .bipush 64, [0, 64]), (1, .iaload, [0]), (1, .ireturn, [0])]),
  (118, [0], [(1, .aload_n 0, []), (3, .getfield 7, [2, 8, 0, 851]), (2, .bipush 65, [0, 65]), (1, .iaload, [0]), (1, .ireturn, [0])]),
  (126, [0], [(1, .aload_n 0, []), (3, .getfield 46, [0, 8, 1, 852]), (1, .ireturn, [0])]),
  (131, [0], [(1, .aload_n 0, []), (3, .getfield 89, [0, 8, 3, 854]), (1, .ireturn, [0])]),
  (136, [], [(1, .iconst (-1), [1, 1]), (1, .ireturn, [0])])]
def bk_M_wrong : List jx_B := [
  (0, [0, 1, 2], [(1, .iload_n 1, []), (1, .iconst 0, [0, 0]), (2, .bipush 99, [0, 99]), (3, .invokestatic 85, [0, 33, 3, 1, 907]), (3, .ifCond .eq 14, [1]), (1, .iload_n 2, []), (1, .iconst 0, [0, 0]), (3, .sipush 999, [0, 999]), (3, .invokestatic 85, [0, 33, 3, 1, 907]), (3, .ifCond .ne 5, [2]), (0, .nop, [1])]),
  (21, [], [(1, .iconst (-1), [1, 1]), (1, .ireturn, [0])]),
  (23, [0, 1], [(1, .aload_n 0, []), (3, .getfield 89, [0, 8, 3, 854]), (3, .ifCond .ne 6, [3]), (2, .bipush (-2), [1, 2]), (1, .ireturn, [0])]),
  (33, [0, 1], [(1, .aload_n 0, []), (1, .iload_n 1, []), (3, .invokevirtual 195, [0, 8, 96, 2, 1, 969]), (1, .istore_n 3, []), (1, .iload_n 3, []), (2, .bipush (-9), [1, 9]), (3, .if_icmp .eq 25, [4]), (1, .aload_n 0, []), (3, .getfield 7, [2, 8, 0, 851]), (1, .aload_n 0, []), (1, .iload_n 3, []), (3, .invokevirtual 92, [0, 8, 42, 2, 1, 937]), (1, .iconst 5, [0, 5]), (1, .iadd, []), (1, .iaload, [0]), (2, .bipush 6, [0, 6]), (3, .if_icmp .ne 8, [4]), (2, .bipush (-3), [1, 3]), (3, .goto 4, [5])]),
  (67, [], [(1, .iconst 0, [0, 0]), (0, .nop, [5])]),
  (68, [], [(1, .ireturn, [0])])]
def bk_T_byteAt : List jx_B := [
  (0, [0, 1, 2], [(1, .iload_n 1, []), (3, .invokestatic 129, [0, 3, 1, 1, 550]), (3, .ifCond .eq 14, [1]), (1, .iload_n 2, []), (3, .ifCond .lt 10, [1]), (1, .iload_n 2, []), (3, .sipush 1101, [0, 1101]), (3, .if_icmp .lt 5, [2]), (0, .nop, [1])]),
  (18, [], [(1, .iconst (-1), [1, 1]), (1, .ireturn, [0])]),
  (20, [0, 1, 2], [(1, .aload_n 0, []), (3, .getfield 32, [2, 7, 3, 366]), (1, .iload_n 1, []), (3, .invokevirtual 132, [0, 5, 24, 2, 1, 553]), (1, .istore_n 3, []), (1, .iload_n 3, []), (1, .iconst (-1), [1, 1]), (3, .if_icmp .ne 8, [3]), (2, .bipush (-2), [1, 2]), (3, .goto 16, [4])]),
  (39, [0, 2, 3], [(1, .aload_n 0, []), (3, .getfield 32, [2, 7, 3, 366]), (3, .getfield 143, [2, 5, 3, 342]), (1, .iload_n 3, []), (1, .aaload, [2]), (1, .iload_n 2, []), (3, .invokevirtual 160, [0, 2, 108, 2, 1, 730]), (0, .nop, [4])]),
  (52, [], [(1, .ireturn, [0])])]
def bk_T_nearest : List jx_B := [
  (0, [0, 1], [(1, .iload_n 1, []), (3, .invokestatic 129, [0, 3, 1, 1, 550]), (3, .ifCond .ne 5, [1]), (1, .iconst (-1), [1, 1]), (1, .ireturn, [0])]),
  (9, [0, 1], [(1, .aload_n 0, []), (3, .getfield 32, [2, 7, 3, 366]), (1, .iload_n 1, []), (3, .invokevirtual 132, [0, 5, 24, 2, 1, 553]), (1, .istore_n 2, []), (1, .iload_n 2, []), (1, .iconst (-1), [1, 1]), (3, .if_icmp .ne 8, [2]), (2, .bipush (-2), [1, 2]), (3, .goto 25, [3])]),
  (28, [0, 2], [(1, .aload_n 0, []), (3, .getfield 20, [2, 7, 2, 365]), (1, .aload_n 0, []), (3, .getfield 32, [2, 7, 3, 366]), (3, .getfield 143, [2, 5, 3, 342]), (1, .iload_n 2, []), (1, .aaload, [2]), (3, .getfield 167, [2, 2, 6, 304]), (3, .getfield 205, [0, 3, 7, 246]), (3, .invokevirtual 208, [0, 0, 104, 2, 1, 786]), (0, .nop, [3])]),
  (50, [], [(1, .ireturn, [0])])]
def bk_A_build : List jx_B := [
  (0, [0, 1], [(1, .aload_n 0, []), (1, .iconst 1, [0, 1]), (3, .putfield 9, [0, 0, 0, 103]), (1, .aload_n 0, []), (3, .getfield 34, [2, 0, 7, 118]), (1, .iconst 0, [0, 0]), (3, .invokestatic 40, [0, 47, 2, 0, 476]), (1, .iconst 0, [0, 0]), (1, .istore_n 2, []), (0, .nop, [1])]),
  (15, [0, 1, 2], [(1, .iload_n 2, []), (2, .bipush 6, [0, 6]), (3, .if_icmp .ge 28, [2]), (1, .aload_n 0, []), (3, .getfield 37, [2, 0, 8, 119]), (1, .iload_n 2, []), (1, .iconst 0, [0, 0]), (1, .iastore, []), (1, .aload_n 0, []), (3, .getfield 31, [2, 0, 6, 116]), (1, .iload_n 2, []), (1, .aload_n 1, []), (3, .getfield 46, [2, 6, 0, 188]), (1, .iload_n 2, []), (1, .iaload, [0]), (1, .iastore, []), (3, .iinc 2 1, [0, 1]), (3, .goto (-28), [1])]),
  (46, [0, 1], [(1, .iconst 0, [0, 0]), (1, .istore_n 2, []), (1, .iconst 1, [0, 1]), (1, .istore_n 3, []), (0, .nop, [3])]),
  (50, [0, 1, 2, 3], [(1, .iload_n 3, []), (2, .bipush 8, [0, 8]), (3, .if_icmp .gt 42, [6]), (1, .aload_n 0, []), (3, .getfield 9, [0, 0, 0, 103]), (2, .istore 4, []), (1, .iload_n 2, []), (2, .istore 5, []), (0, .nop, [4])]),
  (65, [0, 1, 3, 4, 5], [(2, .iload 5, []), (2, .iload 4, []), (3, .if_icmp .ge 17, [5]), (1, .aload_n 0, []), (1, .aload_n 1, []), (2, .iload 5, []), (1, .iload_n 3, []), (3, .invokevirtual 49, [0, 0, 103, 4, 0, 479]), (3, .iinc 5 1, [0, 1]), (3, .goto (-18), [4])]),
  (86, [0, 1, 3, 4], [(2, .iload 4, []), (1, .istore_n 2, []), (3, .iinc 3 1, [0, 1]), (3, .goto (-42), [3])]),
  (95, [0], [(1, .iconst 1, [0, 1]), (1, .istore_n 3, []), (0, .nop, [7])]),
  (97, [0, 3], [(1, .iload_n 3, []), (1, .aload_n 0, []), (3, .getfield 9, [0, 0, 0, 103]), (3, .if_icmp .ge 14, [8]), (1, .aload_n 0, []), (1, .iload_n 3, []), (3, .invokevirtual 53, [0, 0, 58, 2, 0, 492]), (3, .iinc 3 1, [0, 1]), (3, .goto (-16), [7])]),
  (116, [], [(1, .return_, [])])]
def bk_Fl_end : List jx_B := [
  (0, [0], [(1, .aload_n 0, []), (3, .getfield 28, [2, 2, 6, 303]), (1, .aload_n 0, []), (3, .getfield 42, [0, 2, 3, 297]), (3, .invokevirtual 88, [0, 3, 110, 2, 0, 706]), (1, .return_, [])])]
def bk_Fl_tell : List jx_B := [
  (0, [0, 1], [(1, .iload_n 1, []), (83, .tableswitch 202 0 16 #[83, 88, 96, 108, 113, 121, 126, 134, 145, 153, 158, 163, 168, 173, 178, 186, 194], [18, 1, 2, 3, 4, 5, 6, 7, 8, 9, 10, 11, 12, 13, 14, 15, 16, 17])]),
  (84, [0], [(1, .aload_n 0, []), (3, .getfield 42, [0, 2, 3, 297]), (1, .ireturn, [0])]),
  (89, [0], [(1, .aload_n 0, []), (3, .getfield 14, [2, 2, 4, 299]), (3, .getfield 45, [0, 4, 0, 209]), (1, .ireturn, [0])]),
  (97, [0], [(1, .aload_n 0, []), (3, .getfield 14, [2, 2, 4, 299]), (1, .aload_n 0, []), (3, .getfield 42, [0, 2, 3, 297]), (3, .invokevirtual 81, [0, 4, 112, 2, 1, 665]), (1, .ireturn, [0])]),
  (109, [0], [(1, .aload_n 0, []), (3, .getfield 36, [0, 2, 1, 294]), (1, .ireturn, [0])]),
  (114, [0], [(1, .aload_n 0, []), (3, .getfield 28, [2, 2, 6, 303]), (3, .getfield 128, [0, 3, 3, 238]), (1, .ireturn, [0])]),
  (122, [0], [(1, .aload_n 0, []), (3, .getfield 39, [0, 2, 2, 295]), (1, .ireturn, [0])]),
  (127, [0], [(1, .aload_n 0, []), (3, .getfield 28, [2, 2, 6, 303]), (3, .getfield 131, [0, 3, 7, 245]), (1, .ireturn, [0])]),
  (135, [0], [(1, .aload_n 0, []), (3, .getfield 28, [2, 2, 6, 303]), (3, .getfield 134, [1, 3, 8, 248]), (3, .invokestatic 138, [0, 46, 1, 1, 720]), (1, .ireturn, [0])]),
  (146, [0], [(1, .aload_n 0, []), (3, .getfield 28, [2, 2, 6, 303]), (3, .getfield 144, [0, 3, 4, 241]), (1, .ireturn, [0])]),
  (154, [0], [(1, .aload_n 0, []), (3, .getfield 52, [0, 2, 7, 305]), (1, .ireturn, [0])]),
  (159, [0], [(1, .aload_n 0, []), (3, .getfield 55, [0, 2, 8, 306]), (1, .ireturn, [0])]),
  (164, [0], [(1, .aload_n 0, []), (3, .getfield 58, [0, 2, 9, 307]), (1, .ireturn, [0])]),
  (169, [0], [(1, .aload_n 0, []), (3, .getfield 61, [0, 2, 10, 308]), (1, .ireturn, [0])]),
  (174, [0], [(1, .aload_n 0, []), (3, .getfield 64, [0, 2, 11, 309]), (1, .ireturn, [0])]),
  (179, [0], [(1, .aload_n 0, []), (3, .getfield 28, [2, 2, 6, 303]), (3, .getfield 147, [0, 3, 11, 253]), (1, .ireturn, [0])]),
  (187, [0], [(1, .aload_n 0, []), (3, .getfield 28, [2, 2, 6, 303]), (3, .getfield 150, [0, 3, 12, 255]), (1, .ireturn, [0])]),
  (195, [0], [(1, .aload_n 0, []), (3, .getfield 28, [2, 2, 6, 303]), (3, .getfield 153, [0, 3, 13, 257]), (1, .ireturn, [0])]),
  (203, [0], [(1, .aload_n 0, []), (3, .getfield 20, [2, 2, 5, 301]), (3, .getfield 45, [0, 4, 0, 209]), (1, .ireturn, [0])])]
def bk_R_skip : List jx_B := [
  (0, [0, 1, 2], [(1, .aload_n 0, []), (1, .iload_n 1, []), (3, .invokevirtual 79, [0, 3, 110, 2, 0, 657]), (1, .aload_n 0, []), (1, .iconst 0, [0, 0]), (3, .putfield 36, [3, 3, 6, 243]), (1, .aload_n 0, []), (1, .iconst 0, [0, 0]), (3, .putfield 55, [0, 3, 7, 244]), (1, .aload_n 0, []), (1, .aload_n 0, []), (3, .getfield 18, [2, 3, 0, 234]), (1, .aload_n 0, []), (3, .getfield 58, [1, 3, 8, 247]), (1, .iload_n 2, []), (3, .invokevirtual 83, [0, 0, 105, 3, 2, 689]), (3, .putfield 58, [1, 3, 8, 247]), (1, .return_, [])])]
def bk_R_take : List jx_B := [
  (0, [0, 1, 2], [(1, .aload_n 0, []), (3, .getfield 30, [0, 3, 3, 237]), (1, .iconst 2, [0, 2]), (1, .iand, []), (3, .ifCond .ne 13, [1]), (1, .aload_n 0, []), (1, .iload_n 1, []), (1, .iload_n 2, []), (1, .iload_n 2, []), (1, .iconst 1, [0, 1]), (1, .iadd, []), (3, .invokevirtual 71, [0, 3, 65, 4, 0, 622]), (1, .return_, [])]),
  (19, [0, 1, 2], [(1, .iload_n 1, []), (3, .invokestatic 75, [0, 17, 1, 1, 654]), (1, .istore_n 3, []), (1, .aload_n 0, []), (3, .getfield 33, [0, 3, 4, 240]), (1, .iconst 2, [0, 2]), (3, .if_icmp .ne 40, [2]), (1, .iload_n 3, []), (3, .ifCond .lt 36, [2]), (1, .aload_n 0, []), (1, .iconst 0, [0, 0]), (3, .putfield 33, [0, 3, 4, 240]), (1, .aload_n 0, []), (1, .aload_n 0, []), (3, .getfield 62, [0, 3, 5, 242]), (3, .invokestatic 75, [0, 17, 1, 1, 654]), (2, .bipush 16, [0, 16]), (1, .imul, []), (1, .iload_n 3, []), (1, .iadd, []), (2, .bipush 127, [0, 127]), (1, .iand, []), (1, .iload_n 2, []), (1, .iconst 2, [0, 2]), (1, .isub, []), (1, .iload_n 2, []), (1, .iconst 1, [0, 1]), (1, .iadd, []), (3, .invokevirtual 71, [0, 3, 65, 4, 0, 622]), (3, .goto 56, [5])]),
  (69, [0, 1, 2, 3], [(1, .aload_n 0, []), (3, .getfield 33, [0, 3, 4, 240]), (1, .iconst 1, [0, 1]), (3, .if_icmp .ne 20, [3]), (1, .iload_n 3, []), (3, .ifCond .lt 16, [3]), (1, .aload_n 0, []), (1, .iconst 2, [0, 2]), (3, .putfield 33, [0, 3, 4, 240]), (1, .aload_n 0, []), (1, .iload_n 1, []), (3, .putfield 62, [0, 3, 5, 242]), (3, .goto 31, [5])]),
  (94, [0, 1, 2], [(1, .aload_n 0, []), (1, .iload_n 2, []), (3, .invokevirtual 79, [0, 3, 110, 2, 0, 657]), (1, .iload_n 1, []), (2, .bipush 37, [0, 37]), (3, .if_icmp .ne 11, [4]), (1, .aload_n 0, []), (1, .iconst 1, [0, 1]), (3, .putfield 33, [0, 3, 4, 240]), (3, .goto 12, [5])]),
  (113, [0, 1, 2], [(1, .aload_n 0, []), (1, .iload_n 1, []), (1, .iload_n 2, []), (1, .iload_n 2, []), (1, .iconst 1, [0, 1]), (1, .iadd, []), (3, .invokevirtual 71, [0, 3, 65, 4, 0, 622]), (0, .nop, [5])]),
  (122, [], [(1, .return_, [])])]
def bk_Sg_copyFrom : List jx_B := [
  (0, [0, 1], [(1, .aload_n 0, []), (1, .iconst 0, [0, 0]), (3, .putfield 9, [0, 4, 0, 208]), (1, .iconst 0, [0, 0]), (1, .istore_n 2, []), (0, .nop, [1])]),
  (7, [0, 1, 2], [(1, .iload_n 2, []), (1, .aload_n 1, []), (3, .getfield 9, [0, 4, 0, 208]), (3, .if_icmp .ge 33, [2]), (1, .aload_n 0, []), (1, .aload_n 1, []), (3, .getfield 22, [2, 4, 3, 217]), (1, .iload_n 2, []), (2, .bipush 40, [0, 40]), (1, .imul, []), (1, .aload_n 1, []), (3, .getfield 19, [2, 4, 2, 214]), (1, .iload_n 2, []), (1, .iaload, [0]), (1, .aload_n 1, []), (3, .getfield 15, [2, 4, 1, 211]), (1, .iload_n 2, []), (1, .iaload, [0]), (3, .invokevirtual 26, [0, 4, 111, 5, 0, 443]), (3, .iinc 2 1, [0, 1]), (3, .goto (-35), [1])]),
  (45, [], [(1, .return_, [])])]
def bk_St_init : List jx_B := [
  (0, [0, 1, 2], [(1, .aload_n 0, []), (3, .invokespecial 3, [2, 180, 95, 96]), (1, .aload_n 0, []), (3, .new 9, [6, 181, 182, 79]), (1, .dup, []), (3, .invokespecial 11, [1, 73, 1, 2]), (3, .putfield 12, [2, 5, 0, 335]), (0, .nop, [1])]),
  (15, [0, 1, 2], [(1, .aload_n 0, []), (1, .iconst 3, [0, 3]), (2, .newarray .int, [140]), (3, .putfield 18, [2, 5, 1, 337]), (0, .nop, [2])]),
  (22, [0, 1, 2], [(1, .aload_n 0, []), (1, .iconst 4, [0, 4]), (3, .anewarray 22, [2, 195]), (3, .putfield 24, [2, 5, 3, 341]), (0, .nop, [3])]),
  (30, [0, 1, 2], [(1, .aload_n 0, []), (1, .iconst 0, [0, 0]), (3, .putfield 28, [0, 5, 4, 343]), (0, .nop, [4])]),
  (35, [0, 1, 2], [(1, .aload_n 0, []), (1, .iconst 0, [0, 0]), (3, .putfield 32, [0, 5, 5, 345]), (0, .nop, [5])]),
  (40, [0, 1, 2], [(1, .aload_n 0, []), (1, .aload_n 2, []), (3, .putfield 35, [2, 5, 2, 339]), (0, .nop, [6])]),
  (45, [0, 1, 2], [(1, .aload_n 0, []), (3, .getfield 18, [2, 5, 1, 337]), (1, .iconst 2, [0, 2]), (2, .bipush 10, [0, 10]), (1, .iastore, []), (0, .nop, [7])]),
  (53, [0, 1, 2], [(1, .iconst 0, [0, 0]), (1, .istore_n 3, []), (0, .nop, [8])]),
  (55, [0, 1, 2, 3], [(1, .iload_n 3, []), (1, .iconst 4, [0, 4]), (3, .if_icmp .ge 24, [10]), (1, .aload_n 0, []), (3, .getfield 24, [2, 5, 3, 341]), (1, .iload_n 3, []), (3, .new 22, [2, 195, 197, 80]), (1, .dup, []), (1, .aload_n 1, []), (1, .aload_n 2, []), (3, .invokespecial 39, [0, 106, 3, 198]), (1, .aastore, [2]), (0, .nop, [9])]),
  (75, [0, 1, 2, 3], [(3, .iinc 3 1, [0, 1]), (3, .goto (-23), [8])]),
  (81, [], [(1, .return_, [])])]
def bk_St_flowOfSegment : List jx_B := [
  (0, [0, 1], [(1, .aload_n 0, []), (1, .iload_n 1, []), (3, .invokevirtual 63, [0, 5, 24, 2, 1, 570]), (1, .istore_n 2, []), (1, .iload_n 2, []), (1, .iconst (-1), [1, 1]), (3, .if_icmp .ne 69, [2]), (1, .aload_n 0, []), (3, .getfield 28, [0, 5, 4, 343]), (1, .iconst 4, [0, 4]), (3, .if_icmp .lt 18, [1]), (1, .aload_n 0, []), (1, .iconst 0, [0, 0]), (3, .invokevirtual 67, [0, 5, 72, 2, 0, 571]), (1, .aload_n 0, []), (1, .dup, []), (3, .getfield 32, [0, 5, 5, 345]), (1, .iconst 1, [0, 1]), (1, .iadd, []), (3, .putfield 32, [0, 5, 5, 345]), (0, .nop, [1])]),
  (34, [0, 1], [(1, .aload_n 0, []), (3, .getfield 28, [0, 5, 4, 343]), (1, .istore_n 2, []), (1, .aload_n 0, []), (3, .getfield 24, [2, 5, 3, 341]), (1, .iload_n 2, []), (1, .aaload, [2]), (1, .iload_n 1, []), (1, .aload_n 0, []), (3, .getfield 18, [2, 5, 1, 337]), (1, .iconst 0, [0, 0]), (1, .iaload, [0]), (1, .aload_n 0, []), (3, .getfield 18, [2, 5, 1, 337]), (1, .iconst 1, [0, 1]), (1, .iaload, [0]), (1, .aload_n 0, []), (3, .getfield 18, [2, 5, 1, 337]), (1, .iconst 2, [0, 2]), (1, .iaload, [0]), (3, .invokevirtual 71, [0, 2, 107, 5, 0, 579]), (1, .aload_n 0, []), (1, .dup, []), (3, .getfield 28, [0, 5, 4, 343]), (1, .iconst 1, [0, 1]), (1, .iadd, []), (3, .putfield 28, [0, 5, 4, 343]), (0, .nop, [2])]),
  (77, [0, 2], [(1, .aload_n 0, []), (1, .iload_n 2, []), (3, .invokevirtual 75, [0, 5, 23, 2, 3, 575]), (1, .areturn, [])])]
def bk_M_init : List jx_B := [
  (0, [0], [(1, .aload_n 0, []), (3, .invokespecial 1, [2, 814, 95, 96]), (1, .aload_n 0, []), (3, .sipush 22416, [0, 22416]), (2, .newarray .int, [140]), (3, .putfield 7, [2, 8, 0, 851]), (0, .nop, [1])]),
  (13, [0], [(1, .aload_n 0, []), (2, .bipush 40, [0, 40]), (2, .newarray .int, [140]), (3, .putfield 13, [2, 8, 2, 853]), (0, .nop, [2])]),
  (21, [0], [(1, .aload_n 0, []), (2, .bipush 49, [0, 49]), (2, .newarray .int, [140]), (3, .putfield 16, [2, 8, 5, 856]), (0, .nop, [3])]),
  (29, [0], [(1, .aload_n 0, []), (3, .sipush 392, [0, 392]), (2, .newarray .int, [140]), (3, .putfield 19, [2, 8, 6, 857]), (0, .nop, [4])]),
  (38, [0], [(1, .aload_n 0, []), (2, .bipush 49, [0, 49]), (2, .newarray .int, [140]), (3, .putfield 22, [2, 8, 7, 858]), (0, .nop, [5])]),
  (46, [0], [(1, .aload_n 0, []), (2, .bipush 49, [0, 49]), (2, .newarray .int, [140]), (3, .putfield 25, [2, 8, 8, 859]), (0, .nop, [6])]),
  (54, [0], [(1, .aload_n 0, []), (2, .bipush 49, [0, 49]), (2, .newarray .int, [140]), (3, .putfield 28, [2, 8, 9, 860]), (0, .nop, [7])]),
  (62, [0], [(1, .aload_n 0, []), (3, .sipush 1274, [0, 1274]), (2, .newarray .int, [140]), (3, .putfield 31, [2, 8, 10, 861]), (0, .nop, [8])]),
  (71, [0], [(1, .aload_n 0, []), (2, .bipush 9, [0, 9]), (2, .newarray .int, [140]), (3, .putfield 34, [2, 8, 11, 862]), (0, .nop, [9])]),
  (79, [0], [(1, .aload_n 0, []), (2, .bipush 49, [0, 49]), (2, .newarray .int, [140]), (3, .putfield 37, [2, 8, 15, 866]), (0, .nop, [10])]),
  (87, [0], [(1, .aload_n 0, []), (2, .bipush 49, [0, 49]), (2, .newarray .int, [140]), (3, .putfield 40, [2, 8, 16, 867]), (0, .nop, [11])]),
  (95, [0], [(1, .aload_n 0, []), (3, .getfield 7, [2, 8, 0, 851]), (2, .bipush 56, [0, 56]), (2, .bipush 10, [0, 10]), (1, .iastore, []), (0, .nop, [12])]),
  (104, [0], [(1, .aload_n 0, []), (3, .invokevirtual 43, [0, 8, 117, 1, 0, 815]), (1, .return_, [])])]
def bk_M_byteNow : List jx_B := [
  (0, [0, 1], [(1, .aload_n 0, []), (1, .iload_n 1, []), (3, .invokevirtual 173, [0, 8, 115, 2, 1, 1017]), (1, .istore_n 2, []), (1, .iload_n 2, []), (2, .bipush (-9), [1, 9]), (3, .if_icmp .ne 8, [1]), (2, .bipush (-9), [1, 9]), (3, .goto 9, [2])]),
  (17, [0, 1, 2], [(1, .aload_n 0, []), (1, .iload_n 2, []), (1, .iload_n 1, []), (3, .invokevirtual 170, [0, 8, 78, 3, 1, 1029]), (0, .nop, [2])]),
  (23, [], [(1, .ireturn, [0])])]
def bk_M_covered : List jx_B := [
  (0, [0, 1], [(1, .iconst 0, [0, 0]), (1, .istore_n 2, []), (1, .aload_n 0, []), (1, .iconst 4, [0, 4]), (3, .invokevirtual 112, [0, 8, 38, 2, 1, 993]), (1, .istore_n 3, []), (1, .iconst 0, [0, 0]), (2, .istore 4, []), (0, .nop, [1])]),
  (11, [0, 1, 2, 3, 4], [(2, .iload 4, []), (1, .aload_n 0, []), (1, .iconst 5, [0, 5]), (3, .invokevirtual 112, [0, 8, 38, 2, 1, 993]), (3, .if_icmp .ge 49, [4]), (1, .aload_n 0, []), (3, .getfield 7, [2, 8, 0, 851]), (1, .aload_n 0, []), (2, .iload 4, []), (3, .invokevirtual 161, [0, 8, 40, 2, 1, 1009]), (1, .iaload, [0]), (1, .aload_n 0, []), (3, .getfield 7, [2, 8, 0, 851]), (1, .aload_n 0, []), (2, .iload 4, []), (3, .invokevirtual 161, [0, 8, 40, 2, 1, 1009]), (1, .iconst 1, [0, 1]), (1, .iadd, []), (1, .iaload, [0]), (1, .iadd, []), (2, .istore 5, []), (2, .iload 5, []), (1, .iload_n 3, []), (3, .if_icmp .le 8, [2]), (2, .iload 5, []), (3, .goto 4, [3])]),
  (59, [0, 1, 2, 3, 4], [(1, .iload_n 3, []), (0, .nop, [3])]),
  (60, [0, 1, 2, 4], [(1, .istore_n 3, []), (3, .iinc 4 1, [0, 1]), (3, .goto (-53), [1])]),
  (67, [0, 1, 2, 3], [(1, .aload_n 0, []), (1, .iconst 4, [0, 4]), (3, .invokevirtual 112, [0, 8, 38, 2, 1, 993]), (2, .istore 4, []), (0, .nop, [5])]),
  (74, [0, 1, 2, 3, 4], [(2, .iload 4, []), (1, .iload_n 3, []), (3, .if_icmp .ge 30, [8]), (1, .aload_n 0, []), (2, .iload 4, []), (3, .invokevirtual 173, [0, 8, 115, 2, 1, 1017]), (2, .bipush (-9), [1, 9]), (3, .if_icmp .eq 13, [7]), (1, .iload_n 1, []), (3, .ifCond .eq 6, [6]), (2, .iload 4, []), (1, .ireturn, [0])]),
  (98, [0, 1, 2, 3, 4], [(3, .iinc 2 1, [0, 1]), (0, .nop, [7])]),
  (101, [0, 1, 2, 3, 4], [(3, .iinc 4 1, [0, 1]), (3, .goto (-30), [5])]),
  (107, [1, 2], [(1, .iload_n 1, []), (3, .ifCond .eq 8, [9]), (2, .bipush (-9), [1, 9]), (3, .goto 4, [10])]),
  (116, [2], [(1, .iload_n 2, []), (0, .nop, [10])]),
  (117, [], [(1, .ireturn, [0])])]
def bk_M_nearest : List jx_B := [
  (0, [0, 1], [(1, .aload_n 0, []), (1, .iload_n 1, []), (3, .invokevirtual 220, [0, 8, 114, 2, 1, 1098]), (1, .istore_n 2, []), (1, .iload_n 2, []), (3, .ifCond .ge 5, [1]), (1, .iload_n 2, []), (1, .ireturn, [0])]),
  (12, [0, 2], [(1, .iconst 0, [0, 0]), (1, .istore_n 3, []), (0, .nop, [2])]),
  (14, [0, 2, 3], [(1, .iload_n 3, []), (1, .aload_n 0, []), (3, .getfield 54, [0, 8, 4, 855]), (3, .if_icmp .ge 16, [3]), (1, .aload_n 0, []), (3, .getfield 37, [2, 8, 15, 866]), (1, .iload_n 3, []), (1, .iconst 0, [0, 0]), (1, .iastore, []), (3, .iinc 3 1, [0, 1]), (3, .goto (-18), [2])]),
  (35, [0, 2], [(1, .iconst 1, [0, 1]), (1, .istore_n 3, []), (1, .aload_n 0, []), (3, .getfield 40, [2, 8, 16, 867]), (1, .iconst 0, [0, 0]), (1, .aload_n 0, []), (3, .getfield 7, [2, 8, 0, 851]), (1, .aload_n 0, []), (1, .iload_n 2, []), (3, .invokevirtual 92, [0, 8, 42, 2, 1, 937]), (2, .bipush 6, [0, 6]), (1, .iadd, []), (1, .iaload, [0]), (1, .iastore, []), (1, .iconst 1, [0, 1]), (2, .istore 4, []), (1, .iconst 0, [0, 0]), (2, .istore 5, []), (0, .nop, [4])]),
  (62, [0, 3, 4, 5], [(2, .iload 5, []), (1, .iload_n 3, []), (3, .if_icmp .ge 128, [11]), (1, .aload_n 0, []), (3, .getfield 40, [2, 8, 16, 867]), (2, .iload 5, []), (1, .iaload, [0]), (2, .istore 6, []), (2, .iload 4, []), (3, .ifCond .eq 7, [5]), (1, .iconst 0, [0, 0]), (3, .goto 10, [6])]),
  (86, [0, 3, 5, 6], [(1, .aload_n 0, []), (3, .getfield 37, [2, 8, 15, 866]), (2, .iload 6, []), (1, .iaload, [0]), (0, .nop, [6])]),
  (93, [0, 3, 5, 6], [(2, .istore 7, []), (1, .iconst 0, [0, 0]), (2, .istore 4, []), (1, .iconst 0, [0, 0]), (2, .istore 8, []), (0, .nop, [7])]),
  (101, [0, 3, 4, 5, 6, 7, 8], [(2, .iload 8, []), (2, .bipush 26, [0, 26]), (3, .if_icmp .ge 82, [10]), (1, .aload_n 0, []), (3, .getfield 31, [2, 8, 10, 861]), (2, .bipush 26, [0, 26]), (2, .iload 6, []), (1, .imul, []), (2, .iload 8, []), (1, .iadd, []), (1, .iaload, [0]), (2, .istore 9, []), (1, .aload_n 0, []), (3, .getfield 28, [2, 8, 9, 860]), (2, .iload 9, []), (1, .iaload, [0]), (3, .ifCond .eq 8, [8]), (2, .iload 7, []), (1, .iconst 1, [0, 1]), (1, .iadd, []), (1, .ireturn, [0])]),
  (138, [0, 3, 4, 5, 6, 7, 8, 9], [(1, .aload_n 0, []), (3, .getfield 37, [2, 8, 15, 866]), (2, .iload 9, []), (1, .iaload, [0]), (3, .ifCond .ne 36, [9]), (2, .iload 9, []), (1, .aload_n 0, []), (3, .getfield 40, [2, 8, 16, 867]), (1, .iconst 0, [0, 0]), (1, .iaload, [0]), (3, .if_icmp .eq 25, [9]), (1, .aload_n 0, []), (3, .getfield 37, [2, 8, 15, 866]), (2, .iload 9, []), (2, .iload 7, []), (1, .iconst 1, [0, 1]), (1, .iadd, []), (1, .iastore, []), (1, .aload_n 0, []), (3, .getfield 40, [2, 8, 16, 867]), (1, .iload_n 3, []), (2, .iload 9, []), (1, .iastore, []), (3, .iinc 3 1, [0, 1]), (0, .nop, [9])]),
  (181, [0, 3, 4, 5, 6, 7, 8], [(3, .iinc 8 1, [0, 1]), (3, .goto (-83), [7])]),
  (187, [0, 3, 4, 5], [(3, .iinc 5 1, [0, 1]), (3, .goto (-128), [4])]),
  (193, [], [(2, .bipush (-9), [1, 9]), (1, .ireturn, [0])])]
def bk_M_others : List jx_B := [
  (0, [0], [(1, .aload_n 0, []), (3, .invokevirtual 43, [0, 8, 117, 1, 0, 815]), (1, .iconst 0, [0, 0]), (1, .istore_n 1, []), (0, .nop, [1])]),
  (6, [0, 1], [(1, .iload_n 1, []), (1, .aload_n 0, []), (3, .getfield 7, [2, 8, 0, 851]), (2, .bipush 57, [0, 57]), (1, .iaload, [0]), (3, .if_icmp .ge 51, [2]), (1, .aload_n 0, []), (3, .getfield 7, [2, 8, 0, 851]), (1, .aload_n 0, []), (1, .iload_n 1, []), (3, .invokevirtual 92, [0, 8, 42, 2, 1, 937]), (2, .bipush 6, [0, 6]), (1, .iadd, []), (1, .iconst 0, [0, 0]), (1, .iastore, []), (1, .aload_n 0, []), (3, .getfield 7, [2, 8, 0, 851]), (1, .aload_n 0, []), (1, .iload_n 1, []), (3, .invokevirtual 92, [0, 8, 42, 2, 1, 937]), (2, .bipush 7, [0, 7]), (1, .iadd, []), (1, .iconst 1, [0, 1]), (1, .iastore, []), (1, .aload_n 0, []), (3, .getfield 7, [2, 8, 0, 851]), (1, .aload_n 0, []), (1, .iload_n 1, []), (3, .invokevirtual 92, [0, 8, 42, 2, 1, 937]), (2, .bipush 8, [0, 8]), (1, .iadd, []), (1, .iconst 0, [0, 0]), (1, .iastore, []), (3, .iinc 1 1, [0, 1]), (3, .goto (-56), [1])]),
  (65, [0], [(1, .aload_n 0, []), (3, .getfield 54, [0, 8, 4, 855]), (1, .ireturn, [0])])]
def bk_M_possible : List jx_B := [
  (0, [0, 1], [(1, .aload_n 0, []), (1, .iload_n 1, []), (3, .invokevirtual 220, [0, 8, 114, 2, 1, 1098]), (1, .istore_n 2, []), (1, .iload_n 2, []), (3, .ifCond .ge 6, [1]), (1, .iload_n 2, []), (1, .i2l, []), (1, .lreturn, [])]),
  (13, [0, 2], [(1, .aload_n 0, []), (1, .aload_n 0, []), (1, .iload_n 2, []), (3, .invokevirtual 92, [0, 8, 42, 2, 1, 937]), (3, .putfield 109, [0, 8, 12, 863]), (1, .aload_n 0, []), (3, .invokevirtual 232, [0, 8, 97, 1, 2, 1130]), (1, .lreturn, [])])]
def bk_M_read : List jx_B := [
  (0, [0, 1, 2], [(1, .iload_n 2, []), (1, .iconst 0, [0, 0]), (2, .bipush 7, [0, 7]), (3, .invokestatic 85, [0, 33, 3, 1, 907]), (3, .ifCond .eq 11, [1]), (1, .aload_n 0, []), (1, .iload_n 1, []), (3, .invokevirtual 220, [0, 8, 114, 2, 1, 1098]), (3, .goto 4, [2])]),
  (18, [0, 2], [(1, .iconst (-1), [1, 1]), (0, .nop, [2])]),
  (19, [0, 2], [(1, .istore_n 3, []), (1, .iload_n 3, []), (3, .ifCond .ge 5, [3]), (1, .iload_n 3, []), (1, .ireturn, [0])]),
  (26, [0, 2, 3], [(1, .aload_n 0, []), (1, .aload_n 0, []), (1, .iload_n 3, []), (3, .invokevirtual 92, [0, 8, 42, 2, 1, 937]), (3, .putfield 109, [0, 8, 12, 863]), (1, .aload_n 0, []), (1, .iload_n 2, []), (3, .invokevirtual 236, [0, 8, 98, 2, 1, 1138]), (1, .ireturn, [0])])]
def bk_M_reads : List jx_B := [
  (0, [0, 1, 2, 3], [(1, .aload_n 0, []), (2, .bipush 18, [0, 18]), (1, .iconst 1, [0, 1]), (3, .invokevirtual 121, [0, 8, 28, 3, 0, 997]), (2, .bipush 7, [0, 7]), (2, .istore 4, []), (0, .nop, [1])]),
  (11, [0, 1, 2, 3, 4], [(2, .iload 4, []), (3, .ifCond .le 49, [2]), (1, .aload_n 0, []), (2, .bipush 22, [0, 22]), (2, .iload 4, []), (1, .iadd, []), (1, .aload_n 0, []), (2, .bipush 22, [0, 22]), (2, .iload 4, []), (1, .iadd, []), (1, .iconst 1, [0, 1]), (1, .isub, []), (3, .invokevirtual 112, [0, 8, 38, 2, 1, 993]), (3, .invokevirtual 115, [0, 8, 41, 3, 0, 989]), (1, .aload_n 0, []), (2, .bipush 30, [0, 30]), (2, .iload 4, []), (1, .iadd, []), (1, .aload_n 0, []), (2, .bipush 30, [0, 30]), (2, .iload 4, []), (1, .iadd, []), (1, .iconst 1, [0, 1]), (1, .isub, []), (3, .invokevirtual 112, [0, 8, 38, 2, 1, 993]), (3, .invokevirtual 115, [0, 8, 41, 3, 0, 989]), (3, .iinc 4 (-1), [1, 1]), (3, .goto (-48), [1])]),
  (62, [0, 1, 2, 3], [(1, .aload_n 0, []), (2, .bipush 22, [0, 22]), (1, .iload_n 1, []), (3, .invokevirtual 115, [0, 8, 41, 3, 0, 989]), (1, .aload_n 0, []), (2, .bipush 30, [0, 30]), (1, .iload_n 2, []), (3, .invokevirtual 115, [0, 8, 41, 3, 0, 989]), (1, .iload_n 1, []), (2, .bipush 97, [0, 97]), (2, .bipush 122, [0, 122]), (3, .invokestatic 85, [0, 33, 3, 1, 907]), (3, .ifCond .eq 14, [3]), (1, .aload_n 0, []), (1, .iload_n 1, []), (2, .bipush 97, [0, 97]), (1, .isub, []), (3, .invokevirtual 139, [0, 8, 121, 2, 0, 1056]), (3, .goto 16, [4])]),
  (98, [0, 3], [(1, .aload_n 0, []), (2, .bipush 6, [0, 6]), (1, .iconst 0, [0, 0]), (3, .invokevirtual 115, [0, 8, 41, 3, 0, 989]), (1, .aload_n 0, []), (1, .iconst 1, [0, 1]), (1, .iconst 0, [0, 0]), (3, .invokevirtual 136, [0, 8, 92, 3, 0, 1070]), (0, .nop, [4])]),
  (111, [0, 3], [(1, .aload_n 0, []), (3, .getfield 28, [2, 8, 9, 860]), (1, .aload_n 0, []), (2, .bipush 6, [0, 6]), (3, .invokevirtual 112, [0, 8, 38, 2, 1, 993]), (1, .iaload, [0]), (2, .istore 4, []), (1, .iconst 0, [0, 0]), (2, .istore 5, []), (1, .iconst 0, [0, 0]), (2, .istore 6, []), (0, .nop, [5])]),
  (130, [0, 3, 4, 5, 6], [(2, .iload 6, []), (1, .aload_n 0, []), (3, .getfield 54, [0, 8, 4, 855]), (3, .if_icmp .ge 34, [8]), (2, .iload 5, []), (1, .aload_n 0, []), (2, .iload 6, []), (3, .invokevirtual 127, [0, 8, 90, 2, 1, 1060]), (3, .ifCond .eq 13, [6]), (1, .aload_n 0, []), (3, .getfield 28, [2, 8, 9, 860]), (2, .iload 6, []), (1, .iaload, [0]), (3, .goto 4, [7])]),
  (160, [0, 3, 4, 6], [(1, .iconst 0, [0, 0]), (0, .nop, [7])]),
  (161, [0, 3, 4, 6], [(1, .ior, []), (2, .istore 5, []), (3, .iinc 6 1, [0, 1]), (3, .goto (-37), [5])]),
  (170, [0, 3, 4, 5], [(1, .iconst 0, [0, 0]), (2, .istore 6, []), (0, .nop, [9])]),
  (173, [0, 3, 4, 5, 6], [(2, .iload 6, []), (2, .bipush 6, [0, 6]), (3, .if_icmp .ge 42, [11]), (2, .iload 4, []), (2, .iload 6, []), (1, .ishr, []), (1, .iconst 1, [0, 1]), (1, .iand, []), (1, .iconst 1, [0, 1]), (3, .if_icmp .ne 25, [10]), (1, .aload_n 0, []), (2, .iload 6, []), (1, .aload_n 0, []), (2, .bipush 30, [0, 30]), (1, .aload_n 0, []), (2, .iload 6, []), (3, .invokevirtual 64, [0, 8, 44, 2, 1, 819]), (1, .iadd, []), (1, .iconst 1, [0, 1]), (1, .isub, []), (3, .invokevirtual 112, [0, 8, 38, 2, 1, 993]), (1, .iload_n 3, []), (3, .invokevirtual 142, [0, 8, 99, 4, 0, 1074]), (0, .nop, [10])]),
  (213, [0, 3, 4, 5, 6], [(3, .iinc 6 1, [0, 1]), (3, .goto (-43), [9])]),
  (219, [0, 3, 4, 5], [(1, .iconst 0, [0, 0]), (2, .istore 6, []), (0, .nop, [12])]),
  (222, [0, 3, 4, 5, 6], [(2, .iload 6, []), (2, .bipush 6, [0, 6]), (3, .if_icmp .ge 48, [15]), (2, .iload 5, []), (2, .iload 4, []), (1, .iconst (-1), [1, 1]), (1, .ixor, []), (1, .iand, []), (2, .iload 6, []), (1, .ishr, []), (3, .ifCond .ne 4, [13]), (1, .return_, [])]),
  (243, [0, 3, 4, 5, 6], [(2, .iload 5, []), (2, .iload 4, []), (1, .iconst (-1), [1, 1]), (1, .ixor, []), (1, .iand, []), (2, .iload 6, []), (1, .ishr, []), (1, .iconst 1, [0, 1]), (1, .iand, []), (1, .iconst 1, [0, 1]), (3, .if_icmp .ne 12, [14]), (1, .aload_n 0, []), (2, .iload 6, []), (2, .bipush (-9), [1, 9]), (1, .iload_n 3, []), (3, .invokevirtual 142, [0, 8, 99, 4, 0, 1074]), (0, .nop, [14])]),
  (268, [0, 3, 4, 5, 6], [(3, .iinc 6 1, [0, 1]), (3, .goto (-49), [12])]),
  (274, [], [(1, .return_, [])])]
def bk_M_undo : List jx_B := [
  (0, [0], [(1, .aload_n 0, []), (3, .getfield 46, [0, 8, 1, 852]), (3, .ifCond .ne 6, [1]), (2, .bipush (-2), [1, 2]), (1, .ireturn, [0])]),
  (10, [0], [(1, .aload_n 0, []), (1, .aload_n 0, []), (3, .getfield 46, [0, 8, 1, 852]), (1, .iconst 0, [0, 0]), (3, .invokevirtual 50, [0, 8, 30, 3, 0, 929]), (1, .aload_n 0, []), (1, .dup, []), (3, .getfield 46, [0, 8, 1, 852]), (1, .iconst 1, [0, 1]), (1, .isub, []), (3, .putfield 46, [0, 8, 1, 852]), (1, .aload_n 0, []), (3, .invokevirtual 43, [0, 8, 117, 1, 0, 815]), (1, .aload_n 0, []), (3, .getfield 46, [0, 8, 1, 852]), (1, .ireturn, [0])])]
def bk_T_init : List jx_B := [
  (0, [0], [(1, .aload_n 0, []), (3, .invokespecial 3, [2, 94, 95, 96]), (1, .aload_n 0, []), (2, .bipush 40, [0, 40]), (2, .newarray .byte, [139]), (3, .putfield 9, [2, 7, 0, 363]), (0, .nop, [1])]),
  (12, [0], [(1, .aload_n 0, []), (1, .iconst 0, [0, 0]), (3, .putfield 13, [0, 7, 1, 364]), (0, .nop, [2])]),
  (17, [0], [(1, .aload_n 0, []), (3, .new 17, [0, 97, 98, 76]), (1, .dup, []), (3, .invokespecial 19, [1, 56, 1, 0]), (3, .putfield 20, [2, 7, 2, 365]), (0, .nop, [3])]),
  (28, [0], [(1, .aload_n 0, []), (3, .new 24, [5, 141, 142, 77]), (1, .dup, []), (1, .aload_n 0, []), (3, .getfield 20, [2, 7, 2, 365]), (3, .new 26, [1, 143, 144, 78]), (1, .dup, []), (3, .invokespecial 28, [1, 60, 1, 1]), (3, .invokespecial 29, [0, 132, 3, 177]), (3, .putfield 32, [2, 7, 3, 366]), (0, .nop, [4])]),
  (50, [0], [(1, .aload_n 0, []), (3, .new 24, [5, 141, 142, 77]), (1, .dup, []), (1, .aload_n 0, []), (3, .getfield 20, [2, 7, 2, 365]), (3, .new 26, [1, 143, 144, 78]), (1, .dup, []), (3, .invokespecial 28, [1, 60, 1, 1]), (3, .invokespecial 29, [0, 132, 3, 177]), (3, .putfield 36, [2, 7, 4, 367]), (0, .nop, [5])]),
  (72, [0], [(1, .aload_n 0, []), (3, .new 39, [2, 360, 197, 80]), (1, .dup, []), (1, .aload_n 0, []), (3, .getfield 20, [2, 7, 2, 365]), (3, .new 26, [1, 143, 144, 78]), (1, .dup, []), (3, .invokespecial 28, [1, 60, 1, 1]), (3, .invokespecial 41, [0, 106, 3, 361]), (3, .putfield 42, [2, 7, 5, 368]), (0, .nop, [6])]),
  (94, [0], [(1, .aload_n 0, []), (1, .iconst 4, [0, 4]), (3, .anewarray 24, [5, 141]), (3, .putfield 46, [2, 7, 6, 369]), (0, .nop, [7])]),
  (102, [0], [(1, .aload_n 0, []), (1, .iconst 0, [0, 0]), (3, .putfield 50, [0, 7, 7, 370]), (0, .nop, [8])]),
  (107, [0], [(1, .iconst 0, [0, 0]), (1, .istore_n 1, []), (0, .nop, [9])]),
  (109, [0, 1], [(1, .iload_n 1, []), (1, .iconst 4, [0, 4]), (3, .if_icmp .ge 33, [11]), (1, .aload_n 0, []), (3, .getfield 46, [2, 7, 6, 369]), (1, .iload_n 1, []), (3, .new 24, [5, 141, 142, 77]), (1, .dup, []), (1, .aload_n 0, []), (3, .getfield 20, [2, 7, 2, 365]), (3, .new 26, [1, 143, 144, 78]), (1, .dup, []), (3, .invokespecial 28, [1, 60, 1, 1]), (3, .invokespecial 29, [0, 132, 3, 177]), (1, .aastore, [5]), (0, .nop, [10])]),
  (138, [0, 1], [(3, .iinc 1 1, [0, 1]), (3, .goto (-32), [9])]),
  (144, [], [(1, .return_, [])])]
def bk_T_mixedWithFlow : List jx_B := [
  (0, [0, 2], [(1, .lload_n 0, []), (1, .aload_n 2, []), (3, .getfield 154, [0, 2, 0, 293]), (1, .i2l, []), (3, .invokestatic 220, [0, 6, 2, 2, 801]), (1, .lstore_n 3, []), (1, .iconst 0, [0, 0]), (2, .istore 5, []), (0, .nop, [1])]),
  (13, [2, 3, 5], [(2, .iload 5, []), (2, .bipush 18, [0, 18]), (3, .if_icmp .ge 21, [2]), (1, .lload_n 3, []), (1, .aload_n 2, []), (2, .iload 5, []), (3, .invokevirtual 157, [0, 2, 128, 2, 1, 716]), (1, .i2l, []), (3, .invokestatic 220, [0, 6, 2, 2, 801]), (1, .lstore_n 3, []), (3, .iinc 5 1, [0, 1]), (3, .goto (-22), [1])]),
  (38, [2, 3], [(1, .lload_n 3, []), (1, .aload_n 2, []), (3, .getfield 167, [2, 2, 6, 304]), (3, .getfield 171, [1, 3, 8, 249]), (3, .invokestatic 220, [0, 6, 2, 2, 801]), (1, .lstore_n 3, []), (1, .iconst 0, [0, 0]), (2, .istore 5, []), (0, .nop, [3])]),
  (53, [2, 3, 5], [(2, .iload 5, []), (2, .bipush 8, [0, 8]), (3, .if_icmp .ge 24, [4]), (1, .lload_n 3, []), (1, .aload_n 2, []), (3, .getfield 167, [2, 2, 6, 304]), (2, .iload 5, []), (3, .invokevirtual 177, [0, 3, 19, 2, 1, 744]), (1, .i2l, []), (3, .invokestatic 220, [0, 6, 2, 2, 801]), (1, .lstore_n 3, []), (3, .iinc 5 1, [0, 1]), (3, .goto (-25), [3])]),
  (81, [2, 3], [(1, .iconst 0, [0, 0]), (2, .istore 5, []), (0, .nop, [5])]),
  (84, [2, 3, 5], [(2, .iload 5, []), (2, .bipush 50, [0, 50]), (3, .if_icmp .ge 26, [6]), (1, .lload_n 3, []), (1, .aload_n 2, []), (1, .aload_n 2, []), (3, .getfield 230, [0, 2, 3, 298]), (2, .iload 5, []), (1, .iadd, []), (3, .invokevirtual 160, [0, 2, 108, 2, 1, 730]), (1, .i2l, []), (3, .invokestatic 220, [0, 6, 2, 2, 801]), (1, .lstore_n 3, []), (3, .iinc 5 1, [0, 1]), (3, .goto (-27), [5])]),
  (114, [3], [(1, .lload_n 3, []), (1, .lreturn, [])])]
def bk_T_property : List jx_B := [
  (0, [0, 1, 2], [(1, .iload_n 1, []), (3, .invokestatic 129, [0, 3, 1, 1, 550]), (3, .ifCond .eq 13, [1]), (1, .iload_n 2, []), (3, .ifCond .lt 9, [1]), (1, .iload_n 2, []), (2, .bipush 18, [0, 18]), (3, .if_icmp .lt 5, [2]), (0, .nop, [1])]),
  (17, [], [(1, .iconst (-1), [1, 1]), (1, .ireturn, [0])]),
  (19, [0, 1, 2], [(1, .aload_n 0, []), (3, .getfield 32, [2, 7, 3, 366]), (1, .iload_n 1, []), (3, .invokevirtual 132, [0, 5, 24, 2, 1, 553]), (1, .istore_n 3, []), (1, .iload_n 3, []), (1, .iconst (-1), [1, 1]), (3, .if_icmp .ne 8, [3]), (2, .bipush (-2), [1, 2]), (3, .goto 16, [4])]),
  (38, [0, 2, 3], [(1, .aload_n 0, []), (3, .getfield 32, [2, 7, 3, 366]), (3, .getfield 143, [2, 5, 3, 342]), (1, .iload_n 3, []), (1, .aaload, [2]), (1, .iload_n 2, []), (3, .invokevirtual 157, [0, 2, 128, 2, 1, 716]), (0, .nop, [4])]),
  (51, [], [(1, .ireturn, [0])])]
def bk_T_undo : List jx_B := [
  (0, [0], [(1, .aload_n 0, []), (3, .getfield 50, [0, 7, 7, 370]), (3, .ifCond .le 11, [1]), (1, .aload_n 0, []), (3, .getfield 50, [0, 7, 7, 370]), (1, .iconst 4, [0, 4]), (3, .if_icmp .le 6, [2]), (0, .nop, [1])]),
  (15, [], [(2, .bipush (-2), [1, 2]), (1, .ireturn, [0])]),
  (18, [0], [(1, .aload_n 0, []), (1, .dup, []), (3, .getfield 50, [0, 7, 7, 370]), (1, .iconst 1, [0, 1]), (1, .isub, []), (3, .putfield 50, [0, 7, 7, 370]), (1, .aload_n 0, []), (3, .getfield 46, [2, 7, 6, 369]), (1, .aload_n 0, []), (3, .getfield 50, [0, 7, 7, 370]), (1, .aaload, [5]), (1, .astore_n 1, []), (1, .aload_n 0, []), (3, .getfield 46, [2, 7, 6, 369]), (1, .aload_n 0, []), (3, .getfield 50, [0, 7, 7, 370]), (1, .aload_n 0, []), (3, .getfield 32, [2, 7, 3, 366]), (1, .aastore, [5]), (1, .aload_n 0, []), (1, .aload_n 1, []), (3, .putfield 32, [2, 7, 3, 366]), (1, .aload_n 0, []), (3, .getfield 20, [2, 7, 2, 365]), (1, .aload_n 0, []), (3, .getfield 32, [2, 7, 3, 366]), (3, .getfield 64, [2, 5, 0, 336]), (3, .invokevirtual 211, [0, 0, 126, 2, 0, 472]), (1, .aload_n 0, []), (3, .getfield 50, [0, 7, 7, 370]), (1, .ireturn, [0])])]
def bk_T_wordsChanged : List jx_B := [
  (0, [0], [(1, .aload_n 0, []), (3, .getfield 20, [2, 7, 2, 365]), (1, .aload_n 0, []), (3, .getfield 32, [2, 7, 3, 366]), (3, .getfield 64, [2, 5, 0, 336]), (3, .invokevirtual 211, [0, 0, 126, 2, 0, 472]), (1, .iconst 0, [0, 0]), (1, .istore_n 1, []), (0, .nop, [1])]),
  (16, [0, 1], [(1, .iload_n 1, []), (1, .aload_n 0, []), (3, .getfield 32, [2, 7, 3, 366]), (3, .getfield 151, [0, 5, 4, 344]), (3, .if_icmp .ge 29, [2]), (1, .iload_n 1, []), (1, .iconst 4, [0, 4]), (3, .if_icmp .ge 24, [2]), (1, .aload_n 0, []), (3, .getfield 32, [2, 7, 3, 366]), (3, .getfield 143, [2, 5, 3, 342]), (1, .iload_n 1, []), (1, .aaload, [2]), (3, .getfield 167, [2, 2, 6, 304]), (3, .invokevirtual 238, [0, 3, 20, 1, 0, 500]), (3, .iinc 1 1, [0, 1]), (3, .goto (-34), [1])]),
  (53, [], [(1, .return_, [])])]
def bk_Fl_copyFrom : List jx_B := [
  (0, [0, 1], [(1, .aload_n 0, []), (1, .aload_n 1, []), (3, .getfield 32, [0, 2, 0, 291]), (3, .putfield 32, [0, 2, 0, 291]), (1, .aload_n 0, []), (1, .aload_n 1, []), (3, .getfield 36, [0, 2, 1, 294]), (3, .putfield 36, [0, 2, 1, 294]), (1, .aload_n 0, []), (1, .aload_n 1, []), (3, .getfield 39, [0, 2, 2, 295]), (3, .putfield 39, [0, 2, 2, 295]), (1, .aload_n 0, []), (1, .aload_n 1, []), (3, .getfield 42, [0, 2, 3, 297]), (3, .putfield 42, [0, 2, 3, 297]), (0, .nop, [1])]),
  (32, [0, 1], [(1, .aload_n 0, []), (3, .getfield 14, [2, 2, 4, 299]), (1, .aload_n 1, []), (3, .getfield 14, [2, 2, 4, 299]), (3, .invokevirtual 67, [0, 4, 131, 2, 0, 439]), (1, .aload_n 0, []), (3, .getfield 20, [2, 2, 5, 301]), (1, .aload_n 1, []), (3, .getfield 20, [2, 2, 5, 301]), (3, .invokevirtual 67, [0, 4, 131, 2, 0, 439]), (1, .aload_n 0, []), (3, .getfield 28, [2, 2, 6, 303]), (1, .aload_n 1, []), (3, .getfield 28, [2, 2, 6, 303]), (3, .invokevirtual 71, [0, 3, 66, 2, 0, 456]), (1, .aload_n 0, []), (1, .aload_n 1, []), (3, .getfield 52, [0, 2, 7, 305]), (3, .putfield 52, [0, 2, 7, 305]), (1, .aload_n 0, []), (1, .aload_n 1, []), (3, .getfield 55, [0, 2, 8, 306]), (3, .putfield 55, [0, 2, 8, 306]), (1, .aload_n 0, []), (1, .aload_n 1, []), (3, .getfield 58, [0, 2, 9, 307]), (3, .putfield 58, [0, 2, 9, 307]), (1, .aload_n 0, []), (1, .aload_n 1, []), (3, .getfield 61, [0, 2, 10, 308]), (3, .putfield 61, [0, 2, 10, 308]), (0, .nop, [2])]),
  (97, [0, 1], [(1, .aload_n 0, []), (1, .aload_n 1, []), (3, .getfield 64, [0, 2, 11, 309]), (3, .putfield 64, [0, 2, 11, 309]), (1, .return_, [])])]
def bk_Fl_deliver : List jx_B := [
  (0, [0], [(1, .aload_n 0, []), (3, .getfield 42, [0, 2, 3, 297]), (3, .sipush 1040, [0, 1040]), (3, .if_icmp .ge 80, [3]), (1, .aload_n 0, []), (1, .aload_n 0, []), (3, .getfield 42, [0, 2, 3, 297]), (3, .invokevirtual 91, [0, 2, 62, 2, 1, 597]), (1, .istore_n 1, []), (1, .iload_n 1, []), (1, .iconst (-1), [1, 1]), (3, .if_icmp .ne 6, [1]), (3, .goto 63, [3])]),
  (27, [0, 1], [(1, .aload_n 0, []), (3, .getfield 14, [2, 2, 4, 299]), (1, .iload_n 1, []), (1, .aload_n 0, []), (3, .getfield 42, [0, 2, 3, 297]), (3, .invokevirtual 94, [0, 4, 68, 3, 1, 609]), (1, .istore_n 2, []), (1, .aload_n 0, []), (1, .aload_n 0, []), (3, .getfield 42, [0, 2, 3, 297]), (1, .iload_n 2, []), (3, .invokevirtual 98, [0, 2, 109, 3, 1, 614]), (3, .ifCond .eq 13, [2]), (1, .aload_n 0, []), (1, .dup, []), (3, .getfield 58, [0, 2, 9, 307]), (1, .iconst 1, [0, 1]), (1, .iadd, []), (3, .putfield 58, [0, 2, 9, 307]), (0, .nop, [2])]),
  (62, [0, 2], [(1, .aload_n 0, []), (3, .getfield 28, [2, 2, 6, 303]), (1, .iload_n 2, []), (1, .aload_n 0, []), (3, .getfield 42, [0, 2, 3, 297]), (3, .invokevirtual 102, [0, 3, 130, 3, 0, 618]), (1, .aload_n 0, []), (1, .dup, []), (3, .getfield 42, [0, 2, 3, 297]), (1, .iconst 1, [0, 1]), (1, .iadd, []), (3, .putfield 42, [0, 2, 3, 297]), (3, .goto (-84), [0])]),
  (87, [0], [(1, .aload_n 0, []), (3, .getfield 14, [2, 2, 4, 299]), (1, .aload_n 0, []), (3, .getfield 42, [0, 2, 3, 297]), (3, .invokevirtual 105, [0, 4, 113, 2, 0, 661]), (1, .return_, [])])]
def bk_Fl_skipGap : List jx_B := [
  (0, [0], [(1, .aload_n 0, []), (3, .getfield 14, [2, 2, 4, 299]), (3, .invokevirtual 108, [0, 4, 71, 1, 1, 680]), (1, .istore_n 1, []), (1, .aload_n 0, []), (1, .dup, []), (3, .getfield 61, [0, 2, 10, 308]), (1, .iconst 1, [0, 1]), (1, .iadd, []), (3, .putfield 61, [0, 2, 10, 308]), (1, .aload_n 0, []), (1, .dup, []), (3, .getfield 64, [0, 2, 11, 309]), (1, .iload_n 1, []), (1, .aload_n 0, []), (3, .getfield 42, [0, 2, 3, 297]), (1, .isub, []), (1, .iadd, []), (3, .putfield 64, [0, 2, 11, 309]), (1, .aload_n 0, []), (3, .getfield 28, [2, 2, 6, 303]), (1, .aload_n 0, []), (3, .getfield 42, [0, 2, 3, 297]), (1, .iload_n 1, []), (1, .aload_n 0, []), (3, .getfield 42, [0, 2, 3, 297]), (1, .isub, []), (3, .invokevirtual 112, [0, 3, 129, 3, 0, 685]), (1, .aload_n 0, []), (1, .iload_n 1, []), (3, .putfield 42, [0, 2, 3, 297]), (1, .return_, [])])]
def bk_M_byteAt : List jx_B := [
  (0, [0, 1, 2], [(1, .iload_n 2, []), (1, .iconst 0, [0, 0]), (3, .sipush 1100, [0, 1100]), (3, .invokestatic 85, [0, 33, 3, 1, 907]), (3, .ifCond .eq 11, [1]), (1, .aload_n 0, []), (1, .iload_n 1, []), (3, .invokevirtual 220, [0, 8, 114, 2, 1, 1098]), (3, .goto 4, [2])]),
  (19, [0, 2], [(1, .iconst (-1), [1, 1]), (0, .nop, [2])]),
  (20, [0, 2], [(1, .istore_n 3, []), (1, .iload_n 3, []), (3, .ifCond .ge 5, [3]), (1, .iload_n 3, []), (1, .ireturn, [0])]),
  (27, [0, 2, 3], [(1, .aload_n 0, []), (1, .aload_n 0, []), (1, .iload_n 3, []), (3, .invokevirtual 92, [0, 8, 42, 2, 1, 937]), (3, .putfield 109, [0, 8, 12, 863]), (1, .aload_n 0, []), (1, .iload_n 2, []), (3, .invokevirtual 229, [0, 8, 135, 2, 1, 1122]), (1, .ireturn, [0])])]
def bk_M_character : List jx_B := [
  (0, [0, 1, 2, 3], [(1, .aload_n 0, []), (1, .iconst 1, [0, 1]), (3, .invokevirtual 146, [0, 8, 86, 2, 1, 1048]), (3, .ifCond .eq 21, [1]), (1, .iload_n 1, []), (2, .bipush 65, [0, 65]), (2, .bipush 90, [0, 90]), (3, .invokestatic 85, [0, 33, 3, 1, 907]), (3, .ifCond .eq 10, [1]), (1, .iload_n 1, []), (2, .bipush 32, [0, 32]), (1, .iadd, []), (3, .goto 4, [2])]),
  (26, [0, 1, 2, 3], [(1, .iload_n 1, []), (0, .nop, [2])]),
  (27, [0, 2, 3], [(2, .istore 4, []), (1, .aload_n 0, []), (2, .bipush 8, [0, 8]), (3, .invokevirtual 146, [0, 8, 86, 2, 1, 1048]), (3, .ifCond .eq 18, [4]), (2, .iload 4, []), (2, .bipush 45, [0, 45]), (3, .if_icmp .eq 10, [3]), (2, .iload 4, []), (2, .bipush 46, [0, 46]), (3, .if_icmp .ne 4, [4]), (0, .nop, [3])]),
  (52, [], [(1, .return_, [])]),
  (53, [0, 2, 3, 4], [(1, .aload_n 0, []), (1, .iconst 4, [0, 4]), (3, .invokevirtual 146, [0, 8, 86, 2, 1, 1048]), (3, .ifCond .eq 21, [5]), (2, .iload 4, []), (2, .bipush 32, [0, 32]), (3, .if_icmp .ne 14, [5]), (1, .aload_n 0, []), (2, .bipush 12, [0, 12]), (3, .invokevirtual 112, [0, 8, 38, 2, 1, 993]), (1, .iconst 1, [0, 1]), (3, .if_icmp .ne 4, [5]), (1, .return_, [])]),
  (79, [0, 2, 3, 4], [(1, .aload_n 0, []), (2, .bipush 12, [0, 12]), (2, .iload 4, []), (2, .bipush 32, [0, 32]), (3, .if_icmp .ne 7, [6]), (1, .iconst 1, [0, 1]), (3, .goto 4, [7])]),
  (93, [0, 2, 3, 4], [(1, .iconst 0, [0, 0]), (0, .nop, [7])]),
  (94, [0, 2, 3, 4], [(3, .invokevirtual 115, [0, 8, 41, 3, 0, 989]), (1, .aload_n 0, []), (2, .iload 4, []), (1, .iload_n 2, []), (1, .iload_n 3, []), (3, .invokevirtual 149, [0, 8, 141, 4, 0, 1052]), (1, .return_, [])])]
def bk_M_define : List jx_B := [
  (0, [0, 1], [(1, .iload_n 1, []), (3, .invokestatic 95, [0, 91, 1, 1, 918]), (3, .ifCond .ne 5, [1]), (1, .iconst (-1), [1, 1]), (1, .ireturn, [0])]),
  (9, [0, 1], [(1, .aload_n 0, []), (3, .invokevirtual 99, [0, 8, 83, 1, 1, 921]), (1, .istore_n 2, []), (1, .iload_n 2, []), (2, .bipush (-9), [1, 9]), (3, .if_icmp .eq 8, [2]), (2, .bipush (-10), [1, 10]), (1, .iload_n 2, []), (1, .isub, []), (1, .ireturn, [0])]),
  (25, [0, 1], [(1, .aload_n 0, []), (3, .invokevirtual 103, [0, 8, 77, 1, 0, 925]), (1, .aload_n 0, []), (3, .getfield 7, [2, 8, 0, 851]), (2, .bipush 9, [0, 9]), (1, .iload_n 1, []), (1, .imul, []), (1, .aload_n 0, []), (3, .getfield 89, [0, 8, 3, 854]), (1, .iastore, []), (1, .iconst 0, [0, 0]), (1, .istore_n 3, []), (0, .nop, [3])]),
  (44, [0, 1, 3], [(1, .iload_n 3, []), (1, .aload_n 0, []), (3, .getfield 89, [0, 8, 3, 854]), (3, .if_icmp .ge 31, [4]), (1, .aload_n 0, []), (3, .getfield 7, [2, 8, 0, 851]), (2, .bipush 9, [0, 9]), (1, .iload_n 1, []), (1, .imul, []), (1, .iconst 1, [0, 1]), (1, .iadd, []), (1, .iload_n 3, []), (1, .iadd, []), (1, .aload_n 0, []), (3, .getfield 13, [2, 8, 2, 853]), (1, .iload_n 3, []), (1, .iaload, [0]), (2, .bipush 97, [0, 97]), (1, .isub, []), (1, .iastore, []), (3, .iinc 3 1, [0, 1]), (3, .goto (-33), [3])]),
  (80, [0], [(1, .aload_n 0, []), (3, .invokevirtual 106, [0, 8, 138, 1, 1, 933]), (1, .ireturn, [0])])]
def bk_M_forget : List jx_B := [
  (0, [0, 1], [(1, .iload_n 1, []), (3, .invokestatic 95, [0, 91, 1, 1, 918]), (3, .ifCond .ne 5, [1]), (1, .iconst (-1), [1, 1]), (1, .ireturn, [0])]),
  (9, [0, 1], [(1, .aload_n 0, []), (1, .iload_n 1, []), (3, .invokevirtual 64, [0, 8, 44, 2, 1, 819]), (3, .ifCond .ne 6, [2]), (2, .bipush (-2), [1, 2]), (1, .ireturn, [0])]),
  (20, [0, 1], [(1, .aload_n 0, []), (3, .invokevirtual 103, [0, 8, 77, 1, 0, 925]), (1, .aload_n 0, []), (3, .getfield 7, [2, 8, 0, 851]), (2, .bipush 9, [0, 9]), (1, .iload_n 1, []), (1, .imul, []), (1, .iconst 0, [0, 0]), (1, .iastore, []), (1, .aload_n 0, []), (3, .invokevirtual 106, [0, 8, 138, 1, 1, 933]), (1, .ireturn, [0])])]
def bk_M_propertyNow : List jx_B := [
  (0, [0, 1], [(1, .iload_n 1, []), (51, .tableswitch 106 0 8 #[51, 57, 63, 69, 75, 81, 87, 94, 99], [10, 1, 2, 3, 4, 5, 6, 7, 8, 9])]),
  (52, [0], [(1, .aload_n 0, []), (1, .iconst 4, [0, 4]), (3, .invokevirtual 112, [0, 8, 38, 2, 1, 993]), (1, .ireturn, [0])]),
  (58, [0], [(1, .aload_n 0, []), (1, .iconst 5, [0, 5]), (3, .invokevirtual 112, [0, 8, 38, 2, 1, 993]), (1, .ireturn, [0])]),
  (64, [0], [(1, .aload_n 0, []), (1, .iconst 0, [0, 0]), (3, .invokevirtual 188, [0, 8, 136, 2, 1, 1086]), (1, .ireturn, [0])]),
  (70, [0], [(1, .aload_n 0, []), (1, .iconst 1, [0, 1]), (3, .invokevirtual 112, [0, 8, 38, 2, 1, 993]), (1, .ireturn, [0])]),
  (76, [0], [(1, .aload_n 0, []), (1, .iconst 2, [0, 2]), (3, .invokevirtual 112, [0, 8, 38, 2, 1, 993]), (1, .ireturn, [0])]),
  (82, [0], [(1, .aload_n 0, []), (1, .iconst 3, [0, 3]), (3, .invokevirtual 112, [0, 8, 38, 2, 1, 993]), (1, .ireturn, [0])]),
  (88, [0], [(1, .aload_n 0, []), (2, .bipush 6, [0, 6]), (3, .invokevirtual 112, [0, 8, 38, 2, 1, 993]), (1, .ireturn, [0])]),
  (95, [0], [(1, .aload_n 0, []), (3, .invokevirtual 223, [0, 8, 119, 1, 1, 1114]), (1, .ireturn, [0])]),
  (100, [0], [(1, .aload_n 0, []), (2, .bipush 9, [0, 9]), (3, .invokevirtual 112, [0, 8, 38, 2, 1, 993]), (1, .ireturn, [0])]),
  (107, [0, 1], [(1, .aload_n 0, []), (2, .bipush 13, [0, 13]), (1, .iload_n 1, []), (1, .iadd, []), (2, .bipush 9, [0, 9]), (1, .isub, []), (3, .invokevirtual 112, [0, 8, 38, 2, 1, 993]), (1, .ireturn, [0])])]
def bk_T_digest : List jx_B := [
  (0, [0], [(3, .ldc2_w 215, [0, 12572, 799]), (1, .lstore_n 1, []), (1, .iconst 0, [0, 0]), (1, .istore_n 3, []), (0, .nop, [1])]),
  (6, [0, 1, 3], [(1, .iload_n 3, []), (2, .bipush 12, [0, 12]), (3, .if_icmp .ge 20, [2]), (1, .lload_n 1, []), (1, .aload_n 0, []), (1, .iload_n 3, []), (3, .invokevirtual 217, [0, 7, 102, 2, 1, 800]), (1, .i2l, []), (3, .invokestatic 220, [0, 6, 2, 2, 801]), (1, .lstore_n 1, []), (3, .iinc 3 1, [0, 1]), (3, .goto (-20), [1])]),
  (29, [0, 1], [(1, .iconst 0, [0, 0]), (1, .istore_n 3, []), (0, .nop, [3])]),
  (31, [0, 1, 3], [(1, .iload_n 3, []), (1, .aload_n 0, []), (3, .getfield 20, [2, 7, 2, 365]), (3, .getfield 77, [0, 0, 0, 104]), (3, .if_icmp .ge 37, [6]), (1, .iconst 0, [0, 0]), (2, .istore 4, []), (0, .nop, [4])]),
  (45, [0, 1, 3, 4], [(2, .iload 4, []), (1, .iconst 5, [0, 5]), (3, .if_icmp .ge 22, [5]), (1, .lload_n 1, []), (1, .aload_n 0, []), (1, .iload_n 3, []), (2, .iload 4, []), (3, .invokevirtual 224, [0, 7, 52, 3, 1, 805]), (1, .i2l, []), (3, .invokestatic 220, [0, 6, 2, 2, 801]), (1, .lstore_n 1, []), (3, .iinc 4 1, [0, 1]), (3, .goto (-22), [4])]),
  (70, [0, 1, 3], [(3, .iinc 3 1, [0, 1]), (3, .goto (-42), [3])]),
  (76, [0, 1], [(1, .iconst 0, [0, 0]), (1, .istore_n 3, []), (0, .nop, [7])]),
  (78, [0, 1, 3], [(1, .iload_n 3, []), (1, .aload_n 0, []), (3, .getfield 32, [2, 7, 3, 366]), (3, .getfield 151, [0, 5, 4, 344]), (3, .if_icmp .ge 28, [8]), (1, .iload_n 3, []), (1, .iconst 4, [0, 4]), (3, .if_icmp .ge 23, [8]), (1, .lload_n 1, []), (1, .aload_n 0, []), (3, .getfield 32, [2, 7, 3, 366]), (3, .getfield 143, [2, 5, 3, 342]), (1, .iload_n 3, []), (1, .aaload, [2]), (3, .invokestatic 226, [0, 144, 2, 2, 806]), (1, .lstore_n 1, []), (3, .iinc 3 1, [0, 1]), (3, .goto (-33), [7])]),
  (114, [0, 1], [(1, .iconst 0, [0, 0]), (1, .istore_n 3, []), (0, .nop, [9])]),
  (116, [0, 1, 3], [(1, .iload_n 3, []), (1, .aload_n 0, []), (3, .getfield 32, [2, 7, 3, 366]), (3, .getfield 136, [2, 5, 2, 340]), (3, .getfield 185, [0, 1, 2, 154]), (3, .if_icmp .ge 43, [12]), (1, .iconst 0, [0, 0]), (2, .istore 4, []), (0, .nop, [10])]),
  (133, [0, 1, 3, 4], [(2, .iload 4, []), (1, .iconst 4, [0, 4]), (3, .if_icmp .ge 28, [11]), (1, .lload_n 1, []), (1, .aload_n 0, []), (3, .getfield 32, [2, 7, 3, 366]), (3, .getfield 136, [2, 5, 2, 340]), (1, .iload_n 3, []), (2, .iload 4, []), (3, .invokevirtual 180, [0, 1, 14, 3, 1, 752]), (1, .i2l, []), (3, .invokestatic 220, [0, 6, 2, 2, 801]), (1, .lstore_n 1, []), (3, .iinc 4 1, [0, 1]), (3, .goto (-28), [10])]),
  (164, [0, 1, 3], [(3, .iinc 3 1, [0, 1]), (3, .goto (-51), [9])]),
  (170, [1], [(1, .lload_n 1, []), (1, .lreturn, [])])]
def bk_Fl_accept : List jx_B := [
  (0, [0, 1, 2, 3, 4], [(1, .aload_n 0, []), (1, .dup, []), (3, .getfield 52, [0, 2, 7, 305]), (1, .iconst 1, [0, 1]), (1, .iadd, []), (3, .putfield 52, [0, 2, 7, 305]), (1, .aload_n 0, []), (3, .getfield 20, [2, 2, 5, 301]), (1, .aload_n 1, []), (1, .iload_n 2, []), (1, .iload_n 3, []), (2, .iload 4, []), (3, .invokevirtual 74, [0, 4, 111, 5, 0, 592]), (2, .iload 4, []), (1, .iload_n 3, []), (1, .iadd, []), (1, .aload_n 0, []), (3, .getfield 42, [0, 2, 3, 297]), (3, .if_icmp .gt 14, [1]), (1, .aload_n 0, []), (1, .dup, []), (3, .getfield 55, [0, 2, 8, 306]), (1, .iconst 1, [0, 1]), (1, .iadd, []), (3, .putfield 55, [0, 2, 8, 306]), (1, .return_, [])]),
  (44, [0, 1, 2, 3, 4], [(1, .aload_n 0, []), (3, .getfield 14, [2, 2, 4, 299]), (1, .aload_n 1, []), (1, .iload_n 2, []), (1, .iload_n 3, []), (2, .iload 4, []), (3, .invokevirtual 74, [0, 4, 111, 5, 0, 592]), (1, .aload_n 0, []), (3, .invokevirtual 78, [0, 2, 149, 1, 0, 593]), (1, .iconst 0, [0, 0]), (2, .istore 5, []), (0, .nop, [2])]),
  (63, [0, 5], [(2, .iload 5, []), (2, .bipush 6, [0, 6]), (3, .if_icmp .ge 35, [3]), (1, .aload_n 0, []), (3, .getfield 14, [2, 2, 4, 299]), (1, .aload_n 0, []), (3, .getfield 42, [0, 2, 3, 297]), (3, .invokevirtual 81, [0, 4, 112, 2, 1, 665]), (1, .aload_n 0, []), (3, .getfield 39, [0, 2, 2, 295]), (3, .if_icmp .le 17, [3]), (1, .aload_n 0, []), (3, .invokevirtual 85, [0, 2, 150, 1, 0, 676]), (1, .aload_n 0, []), (3, .invokevirtual 78, [0, 2, 149, 1, 0, 593]), (3, .iinc 5 1, [0, 1]), (3, .goto (-36), [2])]),
  (102, [], [(1, .return_, [])])]
def bk_St_copyFrom : List jx_B := [
  (0, [0, 1], [(1, .aload_n 0, []), (3, .getfield 12, [2, 5, 0, 335]), (1, .aload_n 1, []), (3, .getfield 12, [2, 5, 0, 335]), (3, .invokevirtual 42, [0, 6, 74, 2, 0, 422]), (1, .aload_n 1, []), (3, .getfield 18, [2, 5, 1, 337]), (1, .iconst 0, [0, 0]), (1, .aload_n 0, []), (3, .getfield 18, [2, 5, 1, 337]), (1, .iconst 0, [0, 0]), (1, .iconst 3, [0, 3]), (3, .invokestatic 46, [2, 429, 428, 427, 84]), (1, .aload_n 0, []), (3, .getfield 35, [2, 5, 2, 339]), (1, .aload_n 1, []), (3, .getfield 35, [2, 5, 2, 339]), (3, .invokevirtual 52, [0, 1, 61, 2, 0, 430]), (1, .aload_n 0, []), (1, .aload_n 1, []), (3, .getfield 28, [0, 5, 4, 343]), (3, .putfield 28, [0, 5, 4, 343]), (1, .iconst 0, [0, 0]), (1, .istore_n 2, []), (0, .nop, [1])]),
  (46, [0, 1, 2], [(1, .iload_n 2, []), (1, .aload_n 0, []), (3, .getfield 28, [0, 5, 4, 343]), (3, .if_icmp .ge 29, [2]), (1, .iload_n 2, []), (1, .iconst 4, [0, 4]), (3, .if_icmp .ge 24, [2]), (1, .aload_n 0, []), (3, .getfield 24, [2, 5, 3, 341]), (1, .iload_n 2, []), (1, .aaload, [2]), (1, .aload_n 1, []), (3, .getfield 24, [2, 5, 3, 341]), (1, .iload_n 2, []), (1, .aaload, [2]), (3, .invokevirtual 57, [0, 2, 148, 2, 0, 435]), (3, .iinc 2 1, [0, 1]), (3, .goto (-31), [1])]),
  (80, [0, 1], [(1, .aload_n 0, []), (1, .aload_n 1, []), (3, .getfield 32, [0, 5, 5, 345]), (3, .putfield 32, [0, 5, 5, 345]), (1, .return_, [])])]
def bk_M_lets : List jx_B := [
  (0, [0], [(1, .aload_n 0, []), (2, .bipush 9, [0, 9]), (3, .invokevirtual 112, [0, 8, 38, 2, 1, 993]), (1, .istore_n 1, []), (1, .aload_n 0, []), (2, .bipush 9, [0, 9]), (1, .iconst 0, [0, 0]), (3, .invokevirtual 115, [0, 8, 41, 3, 0, 989]), (1, .iload_n 1, []), (3, .ifCond .le 23, [1]), (1, .aload_n 0, []), (2, .bipush 37, [0, 37]), (1, .aload_n 0, []), (2, .bipush 10, [0, 10]), (3, .invokevirtual 112, [0, 8, 38, 2, 1, 993]), (1, .aload_n 0, []), (2, .bipush 10, [0, 10]), (3, .invokevirtual 112, [0, 8, 38, 2, 1, 993]), (1, .iconst 1, [0, 1]), (1, .iadd, []), (3, .invokevirtual 152, [0, 8, 152, 4, 0, 1044]), (0, .nop, [1])]),
  (38, [0, 1], [(1, .iload_n 1, []), (1, .iconst 1, [0, 1]), (3, .if_icmp .le 29, [2]), (1, .aload_n 0, []), (1, .aload_n 0, []), (2, .bipush 11, [0, 11]), (3, .invokevirtual 112, [0, 8, 38, 2, 1, 993]), (1, .aload_n 0, []), (2, .bipush 10, [0, 10]), (3, .invokevirtual 112, [0, 8, 38, 2, 1, 993]), (1, .iconst 1, [0, 1]), (1, .iadd, []), (1, .aload_n 0, []), (2, .bipush 10, [0, 10]), (3, .invokevirtual 112, [0, 8, 38, 2, 1, 993]), (1, .iconst 2, [0, 2]), (1, .iadd, []), (3, .invokevirtual 152, [0, 8, 152, 4, 0, 1044]), (0, .nop, [2])]),
  (69, [], [(1, .return_, [])])]
def bk_M_mixedFlow : List jx_B := [
  (0, [0, 1, 3], [(1, .aload_n 0, []), (1, .aload_n 0, []), (1, .iload_n 3, []), (3, .invokevirtual 92, [0, 8, 42, 2, 1, 937]), (3, .putfield 109, [0, 8, 12, 863]), (3, .ldc2_w 245, [0, 31, 1183]), (1, .lload_n 1, []), (1, .lmul, []), (1, .aload_n 0, []), (1, .iconst 0, [0, 0]), (3, .invokevirtual 112, [0, 8, 38, 2, 1, 993]), (1, .i2l, []), (1, .ladd, []), (2, .lstore 4, []), (1, .iconst 0, [0, 0]), (2, .istore 6, []), (0, .nop, [1])]),
  (26, [0, 4, 6], [(2, .iload 6, []), (2, .bipush 17, [0, 17]), (3, .if_icmp .gt 25, [2]), (3, .ldc2_w 245, [0, 31, 1183]), (2, .lload 4, []), (1, .lmul, []), (1, .aload_n 0, []), (2, .iload 6, []), (3, .invokevirtual 226, [0, 8, 155, 2, 1, 1110]), (1, .i2l, []), (1, .ladd, []), (2, .lstore 4, []), (3, .iinc 6 1, [0, 1]), (3, .goto (-26), [1])]),
  (55, [0, 4], [(3, .ldc2_w 245, [0, 31, 1183]), (2, .lload 4, []), (1, .lmul, []), (1, .aload_n 0, []), (3, .invokevirtual 232, [0, 8, 97, 1, 2, 1130]), (1, .ladd, []), (2, .lstore 4, []), (1, .iconst 0, [0, 0]), (2, .istore 6, []), (0, .nop, [3])]),
  (71, [0, 4, 6], [(2, .iload 6, []), (2, .bipush 7, [0, 7]), (3, .if_icmp .gt 25, [4]), (3, .ldc2_w 245, [0, 31, 1183]), (2, .lload 4, []), (1, .lmul, []), (1, .aload_n 0, []), (2, .iload 6, []), (3, .invokevirtual 236, [0, 8, 98, 2, 1, 1138]), (1, .i2l, []), (1, .ladd, []), (2, .lstore 4, []), (3, .iinc 6 1, [0, 1]), (3, .goto (-26), [3])]),
  (100, [0, 4], [(1, .iconst 0, [0, 0]), (2, .istore 6, []), (0, .nop, [5])]),
  (103, [0, 4, 6], [(2, .iload 6, []), (2, .bipush 50, [0, 50]), (3, .if_icmp .ge 31, [6]), (3, .ldc2_w 245, [0, 31, 1183]), (2, .lload 4, []), (1, .lmul, []), (1, .aload_n 0, []), (1, .aload_n 0, []), (1, .iconst 4, [0, 4]), (3, .invokevirtual 112, [0, 8, 38, 2, 1, 993]), (2, .iload 6, []), (1, .iadd, []), (3, .invokevirtual 229, [0, 8, 135, 2, 1, 1122]), (1, .i2l, []), (1, .ladd, []), (2, .lstore 4, []), (3, .iinc 6 1, [0, 1]), (3, .goto (-32), [5])]),
  (138, [4], [(2, .lload 4, []), (1, .lreturn, [])])]
def bk_M_property : List jx_B := [
  (0, [0, 1, 2], [(1, .iload_n 2, []), (1, .iconst 0, [0, 0]), (2, .bipush 17, [0, 17]), (3, .invokestatic 85, [0, 33, 3, 1, 907]), (3, .ifCond .eq 11, [1]), (1, .aload_n 0, []), (1, .iload_n 1, []), (3, .invokevirtual 220, [0, 8, 114, 2, 1, 1098]), (3, .goto 4, [2])]),
  (18, [0, 2], [(1, .iconst (-1), [1, 1]), (0, .nop, [2])]),
  (19, [0, 2], [(1, .istore_n 3, []), (1, .iload_n 3, []), (3, .ifCond .ge 5, [3]), (1, .iload_n 3, []), (1, .ireturn, [0])]),
  (26, [0, 2, 3], [(1, .aload_n 0, []), (1, .aload_n 0, []), (1, .iload_n 3, []), (3, .invokevirtual 92, [0, 8, 42, 2, 1, 937]), (3, .putfield 109, [0, 8, 12, 863]), (1, .aload_n 0, []), (1, .iload_n 2, []), (3, .invokevirtual 226, [0, 8, 155, 2, 1, 1110]), (1, .ireturn, [0])])]
def bk_T_handled : List jx_B := [
  (0, [0, 1, 2, 3], [(1, .aload_n 1, []), (3, .getfield 136, [2, 5, 2, 340]), (3, .invokevirtual 140, [0, 1, 13, 1, 1, 562]), (2, .istore 4, []), (1, .aload_n 1, []), (1, .iload_n 2, []), (3, .invokevirtual 251, [0, 5, 133, 2, 3, 566]), (1, .aload_n 0, []), (3, .getfield 9, [2, 7, 0, 363]), (1, .iconst 0, [0, 0]), (1, .aload_n 0, []), (3, .getfield 13, [0, 7, 1, 364]), (1, .iload_n 3, []), (3, .invokevirtual 255, [0, 2, 157, 5, 0, 588]), (1, .aload_n 1, []), (3, .getfield 136, [2, 5, 2, 340]), (3, .invokevirtual 140, [0, 1, 13, 1, 1, 562]), (2, .iload 4, []), (1, .isub, []), (1, .ireturn, [0])])]
def bk_T_record : List jx_B := [
  (0, [0], [(1, .aload_n 0, []), (3, .getfield 50, [0, 7, 7, 370]), (1, .iconst 4, [0, 4]), (3, .if_icmp .lt 7, [1]), (1, .aload_n 0, []), (3, .invokevirtual 285, [0, 7, 1, 1, 0, 414]), (0, .nop, [1])]),
  (12, [0], [(1, .aload_n 0, []), (3, .getfield 46, [2, 7, 6, 369]), (1, .aload_n 0, []), (3, .getfield 50, [0, 7, 7, 370]), (1, .aaload, [5]), (1, .aload_n 0, []), (3, .getfield 32, [2, 7, 3, 366]), (3, .invokevirtual 197, [0, 5, 158, 2, 0, 418]), (1, .aload_n 0, []), (1, .dup, []), (3, .getfield 50, [0, 7, 7, 370]), (1, .iconst 1, [0, 1]), (1, .iadd, []), (3, .putfield 50, [0, 7, 7, 370]), (1, .return_, [])])]
def bk_T_wordsBy : List jx_B := [
  (0, [0, 1, 2], [(1, .aload_n 0, []), (3, .getfield 42, [2, 7, 5, 368]), (1, .aload_n 1, []), (3, .getfield 154, [0, 2, 0, 293]), (1, .iload_n 2, []), (1, .aload_n 1, []), (3, .getfield 167, [2, 2, 6, 304]), (3, .getfield 259, [0, 3, 3, 239]), (1, .aload_n 1, []), (3, .getfield 262, [0, 2, 2, 296]), (3, .invokevirtual 265, [0, 2, 107, 5, 0, 777]), (1, .aload_n 1, []), (3, .getfield 269, [2, 2, 5, 302]), (1, .astore_n 3, []), (1, .iconst 0, [0, 0]), (2, .istore 4, []), (0, .nop, [1])]),
  (31, [0, 3, 4], [(2, .iload 4, []), (1, .aload_n 3, []), (3, .getfield 272, [0, 4, 0, 210]), (3, .if_icmp .ge 46, [2]), (2, .iload 4, []), (2, .bipush 10, [0, 10]), (3, .if_icmp .ge 39, [2]), (1, .aload_n 0, []), (3, .getfield 42, [2, 7, 5, 368]), (1, .aload_n 3, []), (3, .getfield 275, [2, 4, 3, 218]), (2, .iload 4, []), (2, .bipush 40, [0, 40]), (1, .imul, []), (1, .aload_n 3, []), (3, .getfield 278, [2, 4, 2, 216]), (2, .iload 4, []), (1, .iaload, [0]), (1, .aload_n 3, []), (3, .getfield 279, [2, 4, 1, 213]), (2, .iload 4, []), (1, .iaload, [0]), (3, .invokevirtual 255, [0, 2, 157, 5, 0, 588]), (3, .iinc 4 1, [0, 1]), (3, .goto (-49), [1])]),
  (83, [0], [(1, .aload_n 0, []), (3, .getfield 42, [2, 7, 5, 368]), (3, .getfield 167, [2, 2, 6, 304]), (3, .getfield 282, [0, 3, 14, 259]), (1, .ireturn, [0])])]
def bk_M_delivers : List jx_B := [
  (0, [0, 1, 2], [(1, .iload_n 1, []), (3, .invokestatic 155, [0, 87, 1, 1, 1041]), (1, .istore_n 3, []), (1, .aload_n 0, []), (2, .bipush 9, [0, 9]), (3, .invokevirtual 112, [0, 8, 38, 2, 1, 993]), (1, .iconst 2, [0, 2]), (3, .if_icmp .ne 47, [1]), (1, .iload_n 3, []), (2, .bipush (-9), [1, 9]), (3, .if_icmp .eq 41, [1]), (1, .aload_n 0, []), (2, .bipush 9, [0, 9]), (1, .iconst 0, [0, 0]), (3, .invokevirtual 115, [0, 8, 41, 3, 0, 989]), (1, .aload_n 0, []), (2, .bipush 16, [0, 16]), (1, .aload_n 0, []), (2, .bipush 11, [0, 11]), (3, .invokevirtual 112, [0, 8, 38, 2, 1, 993]), (3, .invokestatic 155, [0, 87, 1, 1, 1041]), (1, .imul, []), (1, .iload_n 3, []), (1, .iadd, []), (2, .bipush 127, [0, 127]), (1, .iand, []), (1, .aload_n 0, []), (2, .bipush 10, [0, 10]), (3, .invokevirtual 112, [0, 8, 38, 2, 1, 993]), (1, .iload_n 2, []), (1, .iconst 1, [0, 1]), (1, .iadd, []), (3, .invokevirtual 152, [0, 8, 152, 4, 0, 1044]), (1, .return_, [])]),
  (59, [0, 1, 2, 3], [(1, .aload_n 0, []), (2, .bipush 9, [0, 9]), (3, .invokevirtual 112, [0, 8, 38, 2, 1, 993]), (1, .iconst 1, [0, 1]), (3, .if_icmp .ne 24, [2]), (1, .iload_n 3, []), (2, .bipush (-9), [1, 9]), (3, .if_icmp .eq 18, [2]), (1, .aload_n 0, []), (2, .bipush 9, [0, 9]), (1, .iconst 2, [0, 2]), (3, .invokevirtual 115, [0, 8, 41, 3, 0, 989]), (1, .aload_n 0, []), (2, .bipush 11, [0, 11]), (1, .iload_n 1, []), (3, .invokevirtual 115, [0, 8, 41, 3, 0, 989]), (1, .return_, [])]),
  (90, [0, 1, 2], [(1, .aload_n 0, []), (3, .invokevirtual 158, [0, 8, 159, 1, 0, 1078]), (1, .aload_n 0, []), (1, .iconst 2, [0, 2]), (3, .invokevirtual 146, [0, 8, 86, 2, 1, 1048]), (3, .ifCond .eq 26, [3]), (1, .iload_n 1, []), (2, .bipush 37, [0, 37]), (3, .if_icmp .ne 20, [3]), (1, .aload_n 0, []), (2, .bipush 9, [0, 9]), (1, .iconst 1, [0, 1]), (3, .invokevirtual 115, [0, 8, 41, 3, 0, 989]), (1, .aload_n 0, []), (2, .bipush 10, [0, 10]), (1, .iload_n 2, []), (3, .invokevirtual 115, [0, 8, 41, 3, 0, 989]), (3, .goto 12, [4])]),
  (125, [0, 1, 2], [(1, .aload_n 0, []), (1, .iload_n 1, []), (1, .iload_n 2, []), (1, .iload_n 2, []), (1, .iconst 1, [0, 1]), (1, .iadd, []), (3, .invokevirtual 152, [0, 8, 152, 4, 0, 1044]), (0, .nop, [4])]),
  (134, [], [(1, .return_, [])])]
def bk_M_digest : List jx_B := [
  (0, [0], [(3, .ldc2_w 247, [0, 12572, 1182]), (1, .lstore_n 1, []), (1, .iconst 0, [0, 0]), (1, .istore_n 3, []), (0, .nop, [1])]),
  (6, [0, 1, 3], [(1, .iload_n 3, []), (2, .bipush 11, [0, 11]), (3, .if_icmp .gt 22, [2]), (3, .ldc2_w 245, [0, 31, 1183]), (1, .lload_n 1, []), (1, .lmul, []), (1, .aload_n 0, []), (1, .iload_n 3, []), (3, .invokevirtual 249, [0, 8, 122, 2, 1, 1184]), (1, .i2l, []), (1, .ladd, []), (1, .lstore_n 1, []), (3, .iinc 3 1, [0, 1]), (3, .goto (-22), [1])]),
  (31, [0, 1], [(1, .iconst 0, [0, 0]), (1, .istore_n 3, []), (0, .nop, [3])]),
  (33, [0, 1, 3], [(1, .iload_n 3, []), (1, .aload_n 0, []), (3, .getfield 54, [0, 8, 4, 855]), (3, .if_icmp .ge 39, [6]), (1, .iconst 0, [0, 0]), (2, .istore 4, []), (0, .nop, [4])]),
  (44, [0, 1, 3, 4], [(2, .iload 4, []), (1, .iconst 4, [0, 4]), (3, .if_icmp .gt 24, [5]), (3, .ldc2_w 245, [0, 31, 1183]), (1, .lload_n 1, []), (1, .lmul, []), (1, .aload_n 0, []), (1, .iload_n 3, []), (2, .iload 4, []), (3, .invokevirtual 252, [0, 8, 95, 3, 1, 1185]), (1, .i2l, []), (1, .ladd, []), (1, .lstore_n 1, []), (3, .iinc 4 1, [0, 1]), (3, .goto (-24), [4])]),
  (71, [0, 1, 3], [(3, .iinc 3 1, [0, 1]), (3, .goto (-41), [3])]),
  (77, [0, 1], [(1, .iconst 0, [0, 0]), (1, .istore_n 3, []), (0, .nop, [7])]),
  (79, [0, 1, 3], [(1, .iload_n 3, []), (1, .aload_n 0, []), (3, .getfield 7, [2, 8, 0, 851]), (2, .bipush 57, [0, 57]), (1, .iaload, [0]), (3, .if_icmp .ge 16, [8]), (1, .aload_n 0, []), (1, .lload_n 1, []), (1, .iload_n 3, []), (3, .invokevirtual 255, [0, 8, 160, 3, 2, 1186]), (1, .lstore_n 1, []), (3, .iinc 3 1, [0, 1]), (3, .goto (-21), [7])]),
  (103, [0, 1], [(1, .iconst 0, [0, 0]), (1, .istore_n 3, []), (0, .nop, [9])]),
  (105, [0, 1, 3], [(1, .iload_n 3, []), (1, .aload_n 0, []), (3, .getfield 7, [2, 8, 0, 851]), (2, .bipush 62, [0, 62]), (1, .iaload, [0]), (3, .if_icmp .ge 39, [12]), (1, .iconst 0, [0, 0]), (2, .istore 4, []), (0, .nop, [10])]),
  (119, [0, 1, 3, 4], [(2, .iload 4, []), (1, .iconst 3, [0, 3]), (3, .if_icmp .gt 24, [11]), (3, .ldc2_w 245, [0, 31, 1183]), (1, .lload_n 1, []), (1, .lmul, []), (1, .aload_n 0, []), (1, .iload_n 3, []), (2, .iload 4, []), (3, .invokevirtual 259, [0, 8, 84, 3, 1, 1190]), (1, .i2l, []), (1, .ladd, []), (1, .lstore_n 1, []), (3, .iinc 4 1, [0, 1]), (3, .goto (-24), [10])]),
  (146, [0, 1, 3], [(3, .iinc 3 1, [0, 1]), (3, .goto (-44), [9])]),
  (152, [1], [(1, .lload_n 1, []), (1, .lreturn, [])])]
def bk_M_finish : List jx_B := [
  (0, [0, 1], [(1, .aload_n 0, []), (1, .iload_n 1, []), (3, .invokevirtual 220, [0, 8, 114, 2, 1, 1098]), (1, .istore_n 2, []), (1, .iload_n 2, []), (3, .ifCond .ge 5, [1]), (1, .iload_n 2, []), (1, .ireturn, [0])]),
  (12, [0, 2], [(1, .aload_n 0, []), (3, .invokevirtual 103, [0, 8, 77, 1, 0, 925]), (1, .aload_n 0, []), (1, .aload_n 0, []), (1, .iload_n 2, []), (3, .invokevirtual 92, [0, 8, 42, 2, 1, 937]), (3, .putfield 109, [0, 8, 12, 863]), (1, .aload_n 0, []), (1, .iconst 0, [0, 0]), (3, .putfield 118, [0, 8, 13, 864]), (1, .aload_n 0, []), (3, .invokevirtual 158, [0, 8, 159, 1, 0, 1078]), (1, .aload_n 0, []), (1, .iload_n 2, []), (3, .invokevirtual 198, [0, 8, 34, 2, 0, 977]), (1, .aload_n 0, []), (3, .getfield 118, [0, 8, 13, 864]), (1, .ireturn, [0])])]
def bk_M_gap : List jx_B := [
  (0, [0, 1], [(1, .iload_n 1, []), (1, .aload_n 0, []), (1, .iconst 4, [0, 4]), (3, .invokevirtual 112, [0, 8, 38, 2, 1, 993]), (1, .isub, []), (1, .istore_n 2, []), (1, .aload_n 0, []), (2, .bipush 16, [0, 16]), (1, .iconst 1, [0, 1]), (3, .invokevirtual 121, [0, 8, 28, 3, 0, 997]), (1, .aload_n 0, []), (2, .bipush 17, [0, 17]), (1, .iload_n 2, []), (3, .invokevirtual 121, [0, 8, 28, 3, 0, 997]), (1, .aload_n 0, []), (3, .invokevirtual 158, [0, 8, 159, 1, 0, 1078]), (1, .aload_n 0, []), (2, .bipush 12, [0, 12]), (1, .iconst 0, [0, 0]), (3, .invokevirtual 115, [0, 8, 41, 3, 0, 989]), (1, .aload_n 0, []), (2, .bipush 6, [0, 6]), (1, .iconst 0, [0, 0]), (3, .invokevirtual 115, [0, 8, 41, 3, 0, 989]), (1, .aload_n 0, []), (1, .iconst 4, [0, 4]), (1, .iload_n 1, []), (3, .invokevirtual 115, [0, 8, 41, 3, 0, 989]), (1, .iconst 1, [0, 1]), (1, .istore_n 3, []), (1, .iconst 0, [0, 0]), (2, .istore 4, []), (0, .nop, [1])]),
  (51, [0, 2, 3, 4], [(2, .iload 4, []), (1, .iload_n 2, []), (3, .if_icmp .ge 152, [9]), (1, .iload_n 3, []), (3, .ifCond .eq 148, [9]), (1, .aload_n 0, []), (2, .bipush 7, [0, 7]), (3, .invokevirtual 112, [0, 8, 38, 2, 1, 993]), (1, .iconst 1, [0, 1]), (1, .ior, []), (2, .istore 5, []), (1, .aload_n 0, []), (2, .bipush 8, [0, 8]), (3, .invokevirtual 112, [0, 8, 38, 2, 1, 993]), (2, .istore 6, []), (1, .iconst 0, [0, 0]), (2, .istore 7, []), (0, .nop, [2])]),
  (82, [0, 2, 4, 5, 6, 7], [(2, .iload 7, []), (1, .aload_n 0, []), (3, .getfield 54, [0, 8, 4, 855]), (3, .if_icmp .ge 76, [5]), (1, .iconst 0, [0, 0]), (2, .istore 8, []), (0, .nop, [3])]),
  (94, [0, 2, 4, 5, 6, 7, 8], [(2, .iload 8, []), (2, .bipush 26, [0, 26]), (3, .if_icmp .ge 60, [4]), (1, .aload_n 0, []), (2, .iload 7, []), (3, .invokevirtual 127, [0, 8, 90, 2, 1, 1060]), (3, .ifCond .eq 51, [4]), (2, .iload 5, []), (1, .aload_n 0, []), (3, .getfield 31, [2, 8, 10, 861]), (2, .bipush 26, [0, 26]), (2, .iload 7, []), (1, .imul, []), (2, .iload 8, []), (1, .iadd, []), (1, .iaload, [0]), (3, .invokestatic 130, [0, 36, 1, 1, 1064]), (1, .ior, []), (2, .istore 5, []), (2, .iload 6, []), (1, .aload_n 0, []), (3, .getfield 31, [2, 8, 10, 861]), (2, .bipush 26, [0, 26]), (2, .iload 7, []), (1, .imul, []), (2, .iload 8, []), (1, .iadd, []), (1, .iaload, [0]), (3, .invokestatic 133, [0, 32, 1, 1, 1067]), (1, .ior, []), (2, .istore 6, []), (3, .iinc 8 1, [0, 1]), (3, .goto (-61), [3])]),
  (158, [0, 2, 4, 5, 6, 7], [(3, .iinc 7 1, [0, 1]), (3, .goto (-79), [2])]),
  (164, [0, 2, 4, 5, 6], [(2, .iload 5, []), (1, .aload_n 0, []), (2, .bipush 7, [0, 7]), (3, .invokevirtual 112, [0, 8, 38, 2, 1, 993]), (3, .if_icmp .ne 14, [6]), (2, .iload 6, []), (1, .aload_n 0, []), (2, .bipush 8, [0, 8]), (3, .invokevirtual 112, [0, 8, 38, 2, 1, 993]), (3, .if_icmp .eq 7, [7]), (0, .nop, [6])]),
  (186, [0, 2, 4, 5, 6], [(1, .iconst 1, [0, 1]), (3, .goto 4, [8])]),
  (190, [0, 2, 4, 5, 6], [(1, .iconst 0, [0, 0]), (0, .nop, [8])]),
  (191, [0, 2, 4, 5, 6], [(1, .istore_n 3, []), (1, .aload_n 0, []), (2, .iload 5, []), (2, .iload 6, []), (3, .invokevirtual 136, [0, 8, 92, 3, 0, 1070]), (3, .iinc 4 1, [0, 1]), (3, .goto (-152), [1])]),
  (206, [], [(1, .return_, [])])]
def bk_T_define : List jx_B := [
  (0, [0, 1], [(1, .iload_n 1, []), (3, .invokestatic 53, [0, 5, 1, 1, 400]), (3, .ifCond .ne 5, [1]), (1, .iconst (-1), [1, 1]), (1, .ireturn, [0])]),
  (9, [0, 1], [(1, .aload_n 0, []), (3, .invokevirtual 57, [0, 7, 49, 1, 1, 403]), (1, .istore_n 2, []), (1, .iload_n 2, []), (1, .iconst (-1), [1, 1]), (3, .if_icmp .eq 8, [2]), (2, .bipush (-10), [1, 10]), (1, .iload_n 2, []), (1, .isub, []), (1, .ireturn, [0])]),
  (24, [0, 1], [(1, .aload_n 0, []), (3, .invokevirtual 61, [0, 7, 163, 1, 0, 410]), (1, .aload_n 0, []), (3, .getfield 32, [2, 7, 3, 366]), (3, .getfield 64, [2, 5, 0, 336]), (1, .iload_n 1, []), (1, .aload_n 0, []), (3, .getfield 9, [2, 7, 0, 363]), (1, .aload_n 0, []), (3, .getfield 13, [0, 7, 1, 364]), (3, .invokevirtual 68, [0, 6, 76, 4, 0, 461]), (1, .aload_n 0, []), (3, .invokevirtual 74, [0, 7, 147, 1, 0, 468]), (1, .aload_n 0, []), (3, .getfield 20, [2, 7, 2, 365]), (3, .getfield 77, [0, 0, 0, 104]), (1, .ireturn, [0])])]
def bk_T_evasions : List jx_B := [
  (0, [0, 1], [(1, .iload_n 1, []), (3, .invokestatic 129, [0, 3, 1, 1, 550]), (3, .ifCond .ne 5, [1]), (1, .iconst (-1), [1, 1]), (1, .ireturn, [0])]),
  (9, [0, 1], [(1, .aload_n 0, []), (3, .getfield 32, [2, 7, 3, 366]), (1, .iload_n 1, []), (3, .invokevirtual 132, [0, 5, 24, 2, 1, 553]), (1, .istore_n 2, []), (1, .iload_n 2, []), (1, .iconst (-1), [1, 1]), (3, .if_icmp .ne 6, [2]), (2, .bipush (-2), [1, 2]), (1, .ireturn, [0])]),
  (26, [0, 2], [(1, .iconst 0, [0, 0]), (1, .istore_n 3, []), (2, .bipush 63, [0, 63]), (2, .istore 4, []), (1, .iconst 0, [0, 0]), (2, .istore 5, []), (0, .nop, [3])]),
  (35, [0, 2, 3, 4, 5], [(2, .iload 5, []), (1, .iconst 4, [0, 4]), (3, .if_icmp .ge 38, [4]), (1, .aload_n 0, []), (1, .aload_n 0, []), (3, .getfield 32, [2, 7, 3, 366]), (3, .getfield 143, [2, 5, 3, 342]), (1, .iload_n 2, []), (1, .aaload, [2]), (2, .iload 5, []), (3, .invokevirtual 201, [0, 7, 164, 3, 1, 773]), (2, .istore 6, []), (1, .iload_n 3, []), (2, .iload 6, []), (1, .ior, []), (1, .istore_n 3, []), (2, .iload 4, []), (2, .iload 6, []), (1, .iand, []), (2, .istore 4, []), (3, .iinc 5 1, [0, 1]), (3, .goto (-38), [3])]),
  (76, [3, 4], [(1, .iload_n 3, []), (2, .iload 4, []), (1, .iconst (-1), [1, 1]), (1, .ixor, []), (1, .iand, []), (1, .ireturn, [0])])]
def bk_T_finish : List jx_B := [
  (0, [0, 1], [(1, .iload_n 1, []), (3, .invokestatic 129, [0, 3, 1, 1, 550]), (3, .ifCond .ne 5, [1]), (1, .iconst (-1), [1, 1]), (1, .ireturn, [0])]),
  (9, [0, 1], [(1, .aload_n 0, []), (3, .getfield 32, [2, 7, 3, 366]), (1, .iload_n 1, []), (3, .invokevirtual 132, [0, 5, 24, 2, 1, 553]), (1, .istore_n 2, []), (1, .iload_n 2, []), (1, .iconst (-1), [1, 1]), (3, .if_icmp .ne 6, [2]), (2, .bipush (-2), [1, 2]), (1, .ireturn, [0])]),
  (26, [0, 2], [(1, .aload_n 0, []), (3, .invokevirtual 61, [0, 7, 163, 1, 0, 410]), (1, .aload_n 0, []), (3, .getfield 32, [2, 7, 3, 366]), (3, .getfield 136, [2, 5, 2, 340]), (3, .invokevirtual 140, [0, 1, 13, 1, 1, 562]), (1, .istore_n 3, []), (1, .aload_n 0, []), (3, .getfield 32, [2, 7, 3, 366]), (3, .getfield 143, [2, 5, 3, 342]), (1, .iload_n 2, []), (1, .aaload, [2]), (3, .invokevirtual 147, [0, 2, 127, 1, 0, 702]), (1, .aload_n 0, []), (3, .getfield 32, [2, 7, 3, 366]), (1, .iload_n 2, []), (3, .invokevirtual 150, [0, 5, 72, 2, 0, 707]), (1, .aload_n 0, []), (3, .getfield 32, [2, 7, 3, 366]), (3, .getfield 136, [2, 5, 2, 340]), (3, .invokevirtual 140, [0, 1, 13, 1, 1, 562]), (1, .iload_n 3, []), (1, .isub, []), (1, .ireturn, [0])])]
def bk_T_forget : List jx_B := [
  (0, [0, 1], [(1, .iload_n 1, []), (3, .invokestatic 53, [0, 5, 1, 1, 400]), (3, .ifCond .ne 5, [1]), (1, .iconst (-1), [1, 1]), (1, .ireturn, [0])]),
  (9, [0, 1], [(1, .aload_n 0, []), (3, .getfield 32, [2, 7, 3, 366]), (3, .getfield 64, [2, 5, 0, 336]), (1, .iload_n 1, []), (3, .invokevirtual 80, [0, 6, 25, 2, 1, 508]), (3, .ifCond .ne 6, [2]), (2, .bipush (-2), [1, 2]), (1, .ireturn, [0])]),
  (26, [0, 1], [(1, .aload_n 0, []), (3, .invokevirtual 61, [0, 7, 163, 1, 0, 410]), (1, .aload_n 0, []), (3, .getfield 32, [2, 7, 3, 366]), (3, .getfield 64, [2, 5, 0, 336]), (1, .iload_n 1, []), (3, .invokevirtual 83, [0, 6, 27, 2, 0, 512]), (1, .aload_n 0, []), (3, .invokevirtual 74, [0, 7, 147, 1, 0, 468]), (1, .aload_n 0, []), (3, .getfield 20, [2, 7, 2, 365]), (3, .getfield 77, [0, 0, 0, 104]), (1, .ireturn, [0])])]
def bk_T_ifSegment : List jx_B := [
  (0, [0, 1, 2], [(1, .aload_n 0, []), (1, .iload_n 1, []), (1, .iload_n 2, []), (3, .invokevirtual 122, [0, 7, 55, 3, 1, 546]), (1, .istore_n 3, []), (1, .iload_n 3, []), (3, .ifCond .eq 5, [1]), (1, .iload_n 3, []), (1, .ireturn, [0])]),
  (13, [0, 1, 2], [(1, .aload_n 0, []), (3, .getfield 36, [2, 7, 4, 367]), (1, .aload_n 0, []), (3, .getfield 32, [2, 7, 3, 366]), (3, .invokevirtual 197, [0, 5, 158, 2, 0, 418]), (1, .aload_n 0, []), (1, .aload_n 0, []), (3, .getfield 36, [2, 7, 4, 367]), (1, .iload_n 1, []), (1, .iload_n 2, []), (3, .invokevirtual 125, [0, 7, 162, 4, 1, 558]), (1, .ireturn, [0])])]
def bk_T_replay : List jx_B := [
  (0, [0, 1, 2], [(1, .iload_n 1, []), (3, .invokestatic 129, [0, 3, 1, 1, 550]), (3, .ifCond .eq 12, [1]), (1, .iload_n 2, []), (3, .ifCond .lt 8, [1]), (1, .iload_n 2, []), (1, .iconst 4, [0, 4]), (3, .if_icmp .lt 5, [2]), (0, .nop, [1])]),
  (16, [], [(1, .iconst (-1), [1, 1]), (1, .ireturn, [0])]),
  (18, [0, 1, 2], [(1, .aload_n 0, []), (3, .getfield 32, [2, 7, 3, 366]), (1, .iload_n 1, []), (3, .invokevirtual 132, [0, 5, 24, 2, 1, 553]), (1, .istore_n 3, []), (1, .iload_n 3, []), (1, .iconst (-1), [1, 1]), (3, .if_icmp .ne 8, [3]), (2, .bipush (-2), [1, 2]), (3, .goto 17, [4])]),
  (37, [0, 2, 3], [(1, .aload_n 0, []), (1, .aload_n 0, []), (3, .getfield 32, [2, 7, 3, 366]), (3, .getfield 143, [2, 5, 3, 342]), (1, .iload_n 3, []), (1, .aaload, [2]), (1, .iload_n 2, []), (3, .invokevirtual 201, [0, 7, 164, 3, 1, 773]), (0, .nop, [4])]),
  (51, [], [(1, .ireturn, [0])])]
def bk_T_segment : List jx_B := [
  (0, [0, 1, 2], [(1, .aload_n 0, []), (1, .iload_n 1, []), (1, .iload_n 2, []), (3, .invokevirtual 122, [0, 7, 55, 3, 1, 546]), (1, .istore_n 3, []), (1, .iload_n 3, []), (3, .ifCond .eq 5, [1]), (1, .iload_n 3, []), (1, .ireturn, [0])]),
  (13, [0, 1, 2], [(1, .aload_n 0, []), (3, .invokevirtual 61, [0, 7, 163, 1, 0, 410]), (1, .aload_n 0, []), (1, .aload_n 0, []), (3, .getfield 32, [2, 7, 3, 366]), (1, .iload_n 1, []), (1, .iload_n 2, []), (3, .invokevirtual 125, [0, 7, 162, 4, 1, 558]), (1, .ireturn, [0])])]
def bk_T_set : List jx_B := [
  (0, [0, 1, 2], [(1, .iload_n 1, []), (3, .ifCond .lt 26, [1]), (1, .iload_n 1, []), (1, .iconst 2, [0, 2]), (3, .if_icmp .gt 21, [1]), (1, .iload_n 2, []), (3, .getstatic 113, [0, 538]), (1, .iload_n 1, []), (1, .iaload, [1]), (3, .if_icmp .lt 12, [1]), (1, .iload_n 2, []), (3, .getstatic 116, [1, 540]), (1, .iload_n 1, []), (1, .iaload, [1]), (3, .if_icmp .le 5, [2]), (0, .nop, [1])]),
  (27, [], [(1, .iconst (-1), [1, 1]), (1, .ireturn, [0])]),
  (29, [0, 1, 2], [(1, .aload_n 0, []), (3, .invokevirtual 61, [0, 7, 163, 1, 0, 410]), (1, .aload_n 0, []), (3, .getfield 32, [2, 7, 3, 366]), (3, .getfield 119, [2, 5, 1, 338]), (1, .iload_n 1, []), (1, .iaload, [0]), (1, .istore_n 3, []), (1, .aload_n 0, []), (3, .getfield 32, [2, 7, 3, 366]), (3, .getfield 119, [2, 5, 1, 338]), (1, .iload_n 1, []), (1, .iload_n 2, []), (1, .iastore, []), (1, .iload_n 3, []), (1, .ireturn, [0])])]
def bk_M_deliversAll : List jx_B := [
  (0, [0], [(1, .aload_n 0, []), (1, .aload_n 0, []), (1, .iconst 4, [0, 4]), (3, .invokevirtual 112, [0, 8, 38, 2, 1, 993]), (3, .invokevirtual 173, [0, 8, 115, 2, 1, 1017]), (1, .istore_n 1, []), (0, .nop, [1])]),
  (10, [0, 1], [(1, .iload_n 1, []), (2, .bipush (-9), [1, 9]), (3, .if_icmp .eq 68, [4]), (1, .aload_n 0, []), (1, .iload_n 1, []), (1, .aload_n 0, []), (1, .iconst 4, [0, 4]), (3, .invokevirtual 112, [0, 8, 38, 2, 1, 993]), (3, .invokevirtual 170, [0, 8, 78, 3, 1, 1029]), (1, .istore_n 2, []), (1, .aload_n 0, []), (2, .bipush 15, [0, 15]), (1, .aload_n 0, []), (1, .aload_n 0, []), (1, .iconst 4, [0, 4]), (3, .invokevirtual 112, [0, 8, 38, 2, 1, 993]), (3, .invokevirtual 176, [0, 8, 116, 2, 1, 1033]), (3, .ifCond .eq 7, [2]), (1, .iconst 1, [0, 1]), (3, .goto 4, [3])]),
  (46, [0, 2], [(1, .iconst 0, [0, 0]), (0, .nop, [3])]),
  (47, [0, 2], [(3, .invokevirtual 121, [0, 8, 28, 3, 0, 997]), (1, .aload_n 0, []), (1, .iconst 4, [0, 4]), (3, .invokevirtual 112, [0, 8, 38, 2, 1, 993]), (1, .istore_n 3, []), (1, .aload_n 0, []), (1, .iconst 4, [0, 4]), (1, .iconst 1, [0, 1]), (3, .invokevirtual 121, [0, 8, 28, 3, 0, 997]), (1, .aload_n 0, []), (1, .iload_n 2, []), (1, .iload_n 3, []), (3, .invokevirtual 179, [0, 8, 165, 3, 0, 1037]), (1, .aload_n 0, []), (1, .aload_n 0, []), (1, .iconst 4, [0, 4]), (3, .invokevirtual 112, [0, 8, 38, 2, 1, 993]), (3, .invokevirtual 173, [0, 8, 115, 2, 1, 1017]), (1, .istore_n 1, []), (3, .goto (-68), [1])]),
  (81, [0], [(1, .aload_n 0, []), (3, .invokevirtual 182, [0, 8, 81, 1, 0, 1082]), (1, .return_, [])])]
def bk_M_handles : List jx_B := [
  (0, [0, 1, 2, 3], [(1, .aload_n 0, []), (2, .bipush 13, [0, 13]), (1, .iconst 1, [0, 1]), (3, .invokevirtual 121, [0, 8, 28, 3, 0, 997]), (1, .iload_n 1, []), (1, .iload_n 2, []), (1, .iadd, []), (1, .aload_n 0, []), (1, .iconst 4, [0, 4]), (3, .invokevirtual 112, [0, 8, 38, 2, 1, 993]), (3, .if_icmp .gt 11, [1]), (1, .aload_n 0, []), (2, .bipush 14, [0, 14]), (1, .iconst 1, [0, 1]), (3, .invokevirtual 121, [0, 8, 28, 3, 0, 997]), (1, .return_, [])]),
  (26, [0, 1, 2, 3], [(1, .aload_n 0, []), (1, .aload_n 0, []), (1, .iconst 5, [0, 5]), (3, .invokevirtual 112, [0, 8, 38, 2, 1, 993]), (3, .invokevirtual 161, [0, 8, 40, 2, 1, 1009]), (2, .istore 4, []), (1, .aload_n 0, []), (3, .getfield 7, [2, 8, 0, 851]), (2, .iload 4, []), (1, .iload_n 1, []), (1, .iastore, []), (1, .aload_n 0, []), (3, .getfield 7, [2, 8, 0, 851]), (2, .iload 4, []), (1, .iconst 1, [0, 1]), (1, .iadd, []), (1, .iload_n 2, []), (1, .iastore, []), (1, .iconst 0, [0, 0]), (2, .istore 5, []), (0, .nop, [2])]),
  (58, [0, 2, 3, 4, 5], [(2, .iload 5, []), (1, .iload_n 2, []), (3, .if_icmp .ge 30, [3]), (1, .aload_n 0, []), (3, .getfield 7, [2, 8, 0, 851]), (2, .iload 4, []), (1, .iconst 2, [0, 2]), (1, .iadd, []), (2, .iload 5, []), (1, .iadd, []), (1, .aload_n 0, []), (3, .getfield 7, [2, 8, 0, 851]), (1, .iload_n 3, []), (2, .iload 5, []), (1, .iadd, []), (1, .iaload, [0]), (1, .iastore, []), (3, .iinc 5 1, [0, 1]), (3, .goto (-30), [2])]),
  (91, [0], [(1, .aload_n 0, []), (1, .iconst 5, [0, 5]), (1, .iconst 1, [0, 1]), (3, .invokevirtual 121, [0, 8, 28, 3, 0, 997]), (1, .aload_n 0, []), (3, .invokevirtual 185, [0, 8, 177, 1, 0, 1013]), (0, .nop, [4])]),
  (101, [0], [(1, .aload_n 0, []), (1, .iconst 0, [0, 0]), (3, .invokevirtual 188, [0, 8, 136, 2, 1, 1086]), (1, .aload_n 0, []), (1, .iconst 3, [0, 3]), (3, .invokevirtual 112, [0, 8, 38, 2, 1, 993]), (3, .if_icmp .le 19, [5]), (1, .aload_n 0, []), (1, .aload_n 0, []), (1, .iconst 1, [0, 1]), (3, .invokevirtual 188, [0, 8, 136, 2, 1, 1086]), (3, .invokevirtual 192, [0, 8, 168, 2, 0, 1090]), (1, .aload_n 0, []), (3, .invokevirtual 185, [0, 8, 177, 1, 0, 1013]), (3, .goto (-26), [4])]),
  (130, [], [(1, .return_, [])])]
def bk_M_handlesText : List jx_B := [
  (0, [0, 1], [(1, .iconst 0, [0, 0]), (1, .istore_n 2, []), (0, .nop, [1])]),
  (2, [0, 1, 2], [(1, .iload_n 2, []), (1, .aload_n 0, []), (3, .getfield 89, [0, 8, 3, 854]), (3, .if_icmp .ge 25, [2]), (1, .aload_n 0, []), (3, .getfield 7, [2, 8, 0, 851]), (3, .sipush 3026, [0, 3026]), (1, .iload_n 2, []), (1, .iadd, []), (1, .aload_n 0, []), (3, .getfield 13, [2, 8, 2, 853]), (1, .iload_n 2, []), (1, .iaload, [0]), (1, .iastore, []), (3, .iinc 2 1, [0, 1]), (3, .goto (-27), [1])]),
  (32, [0, 1], [(1, .aload_n 0, []), (1, .iload_n 1, []), (1, .aload_n 0, []), (3, .getfield 89, [0, 8, 3, 854]), (3, .sipush 3026, [0, 3026]), (3, .invokevirtual 211, [0, 8, 178, 4, 0, 1005]), (1, .return_, [])])]
def bk_M_replays : List jx_B := [
  (0, [0, 1, 2], [(1, .aload_n 0, []), (1, .iconst 0, [0, 0]), (1, .iconst 5, [0, 5]), (3, .invokevirtual 50, [0, 8, 30, 3, 0, 929]), (1, .aload_n 0, []), (1, .iload_n 1, []), (3, .invokevirtual 92, [0, 8, 42, 2, 1, 937]), (1, .istore_n 3, []), (1, .aload_n 0, []), (3, .sipush 3026, [0, 3026]), (3, .putfield 109, [0, 8, 12, 863]), (1, .aload_n 0, []), (1, .aload_n 0, []), (3, .getfield 7, [2, 8, 0, 851]), (1, .iload_n 3, []), (1, .iconst 0, [0, 0]), (1, .iadd, []), (1, .iaload, [0]), (1, .iload_n 2, []), (1, .aload_n 0, []), (3, .getfield 7, [2, 8, 0, 851]), (1, .iload_n 3, []), (1, .iconst 2, [0, 2]), (1, .iadd, []), (1, .iaload, [0]), (1, .aload_n 0, []), (3, .getfield 7, [2, 8, 0, 851]), (1, .iload_n 3, []), (1, .iconst 3, [0, 3]), (1, .iadd, []), (1, .iaload, [0]), (3, .invokevirtual 204, [0, 8, 100, 5, 0, 985]), (1, .aload_n 0, []), (1, .iconst 0, [0, 0]), (3, .putfield 124, [0, 8, 14, 865]), (1, .iconst 0, [0, 0]), (2, .istore 4, []), (0, .nop, [1])]),
  (56, [0, 3, 4], [(2, .iload 4, []), (1, .aload_n 0, []), (3, .getfield 7, [2, 8, 0, 851]), (1, .iload_n 3, []), (2, .bipush 21, [0, 21]), (1, .iadd, []), (1, .iaload, [0]), (3, .if_icmp .ge 46, [2]), (1, .iload_n 3, []), (3, .sipush 290, [0, 290]), (1, .iadd, []), (2, .bipush 42, [0, 42]), (2, .iload 4, []), (1, .imul, []), (1, .iadd, []), (2, .istore 5, []), (1, .aload_n 0, []), (1, .aload_n 0, []), (3, .getfield 7, [2, 8, 0, 851]), (2, .iload 5, []), (1, .iaload, [0]), (1, .aload_n 0, []), (3, .getfield 7, [2, 8, 0, 851]), (2, .iload 5, []), (1, .iconst 1, [0, 1]), (1, .iadd, []), (1, .iaload, [0]), (2, .iload 5, []), (1, .iconst 2, [0, 2]), (1, .iadd, []), (3, .invokevirtual 211, [0, 8, 178, 4, 0, 1005]), (3, .iinc 4 1, [0, 1]), (3, .goto (-54), [1])]),
  (113, [0], [(1, .aload_n 0, []), (1, .iconst 5, [0, 5]), (1, .iconst 0, [0, 0]), (3, .invokevirtual 50, [0, 8, 30, 3, 0, 929]), (1, .aload_n 0, []), (3, .getfield 124, [0, 8, 14, 865]), (1, .ireturn, [0])])]
def bk_M_evasions : List jx_B := [
  (0, [0, 1], [(1, .aload_n 0, []), (1, .iload_n 1, []), (3, .invokevirtual 220, [0, 8, 114, 2, 1, 1098]), (1, .istore_n 2, []), (1, .iload_n 2, []), (3, .ifCond .ge 5, [1]), (1, .iload_n 2, []), (1, .ireturn, [0])]),
  (12, [0, 2], [(1, .iconst 0, [0, 0]), (1, .istore_n 3, []), (1, .iconst (-1), [1, 1]), (2, .istore 4, []), (1, .iconst 0, [0, 0]), (2, .istore 5, []), (0, .nop, [2])]),
  (20, [0, 2, 3, 4, 5], [(2, .iload 5, []), (1, .iconst 3, [0, 3]), (3, .if_icmp .gt 30, [3]), (1, .aload_n 0, []), (1, .iload_n 2, []), (2, .iload 5, []), (3, .invokevirtual 242, [0, 8, 180, 3, 1, 1162]), (2, .istore 6, []), (1, .iload_n 3, []), (2, .iload 6, []), (1, .ior, []), (1, .istore_n 3, []), (2, .iload 4, []), (2, .iload 6, []), (1, .iand, []), (2, .istore 4, []), (3, .iinc 5 1, [0, 1]), (3, .goto (-30), [2])]),
  (53, [3, 4], [(1, .iload_n 3, []), (2, .iload 4, []), (1, .iconst (-1), [1, 1]), (1, .ixor, []), (1, .iand, []), (1, .ireturn, [0])])]
def bk_M_replay : List jx_B := [
  (0, [0, 1, 2], [(1, .iload_n 2, []), (1, .iconst 0, [0, 0]), (1, .iconst 3, [0, 3]), (3, .invokestatic 85, [0, 33, 3, 1, 907]), (3, .ifCond .eq 11, [1]), (1, .aload_n 0, []), (1, .iload_n 1, []), (3, .invokevirtual 220, [0, 8, 114, 2, 1, 1098]), (3, .goto 4, [2])]),
  (17, [0, 2], [(1, .iconst (-1), [1, 1]), (0, .nop, [2])]),
  (18, [0, 2], [(1, .istore_n 3, []), (1, .iload_n 3, []), (3, .ifCond .ge 7, [3]), (1, .iload_n 3, []), (3, .goto 9, [4])]),
  (27, [0, 2, 3], [(1, .aload_n 0, []), (1, .iload_n 3, []), (1, .iload_n 2, []), (3, .invokevirtual 242, [0, 8, 180, 3, 1, 1162]), (0, .nop, [4])]),
  (33, [], [(1, .ireturn, [0])])]
def bk_M_segments : List jx_B := [
  (0, [0, 1, 2], [(1, .aload_n 0, []), (1, .iload_n 1, []), (3, .invokevirtual 195, [0, 8, 96, 2, 1, 969]), (1, .istore_n 3, []), (1, .iload_n 3, []), (2, .bipush (-9), [1, 9]), (3, .if_icmp .ne 79, [2]), (1, .aload_n 0, []), (3, .getfield 7, [2, 8, 0, 851]), (2, .bipush 57, [0, 57]), (1, .iaload, [0]), (1, .iconst 4, [0, 4]), (3, .if_icmp .ne 19, [1]), (1, .aload_n 0, []), (1, .iconst 0, [0, 0]), (3, .invokevirtual 198, [0, 8, 34, 2, 0, 977]), (1, .aload_n 0, []), (3, .getfield 7, [2, 8, 0, 851]), (2, .bipush 65, [0, 65]), (1, .dup2, []), (1, .iaload, [0]), (1, .iconst 1, [0, 1]), (1, .iadd, []), (1, .iastore, []), (0, .nop, [1])]),
  (39, [0, 1, 2], [(1, .aload_n 0, []), (3, .invokevirtual 201, [0, 8, 31, 1, 1, 981]), (2, .istore 4, []), (1, .aload_n 0, []), (3, .sipush 186, [0, 186]), (3, .sipush 710, [0, 710]), (2, .iload 4, []), (1, .imul, []), (1, .iadd, []), (3, .putfield 109, [0, 8, 12, 863]), (1, .aload_n 0, []), (1, .iload_n 1, []), (1, .aload_n 0, []), (3, .getfield 7, [2, 8, 0, 851]), (2, .bipush 54, [0, 54]), (1, .iaload, [0]), (1, .aload_n 0, []), (3, .getfield 7, [2, 8, 0, 851]), (2, .bipush 55, [0, 55]), (1, .iaload, [0]), (1, .aload_n 0, []), (3, .getfield 7, [2, 8, 0, 851]), (2, .bipush 56, [0, 56]), (1, .iaload, [0]), (3, .invokevirtual 204, [0, 8, 100, 5, 0, 985]), (3, .goto 33, [3])]),
  (88, [0, 2, 3], [(1, .aload_n 0, []), (3, .getfield 7, [2, 8, 0, 851]), (2, .bipush 58, [0, 58]), (1, .iload_n 3, []), (1, .iadd, []), (1, .iaload, [0]), (2, .istore 4, []), (1, .aload_n 0, []), (1, .iload_n 3, []), (3, .invokevirtual 198, [0, 8, 34, 2, 0, 977]), (1, .aload_n 0, []), (3, .sipush 186, [0, 186]), (3, .sipush 710, [0, 710]), (2, .iload 4, []), (1, .imul, []), (1, .iadd, []), (3, .putfield 109, [0, 8, 12, 863]), (0, .nop, [3])]),
  (118, [0, 2, 4], [(1, .aload_n 0, []), (3, .getfield 7, [2, 8, 0, 851]), (2, .bipush 58, [0, 58]), (1, .aload_n 0, []), (3, .getfield 7, [2, 8, 0, 851]), (2, .bipush 57, [0, 57]), (1, .iaload, [0]), (1, .iadd, []), (2, .iload 4, []), (1, .iastore, []), (1, .aload_n 0, []), (3, .getfield 7, [2, 8, 0, 851]), (2, .bipush 57, [0, 57]), (1, .dup2, []), (1, .iaload, [0]), (1, .iconst 1, [0, 1]), (1, .iadd, []), (1, .iastore, []), (1, .aload_n 0, []), (3, .getfield 109, [0, 8, 12, 863]), (3, .sipush 290, [0, 290]), (1, .iadd, []), (2, .bipush 42, [0, 42]), (1, .aload_n 0, []), (2, .bipush 21, [0, 21]), (3, .invokevirtual 112, [0, 8, 38, 2, 1, 993]), (2, .bipush 10, [0, 10]), (3, .if_icmp .ge 12, [4]), (1, .aload_n 0, []), (2, .bipush 21, [0, 21]), (3, .invokevirtual 112, [0, 8, 38, 2, 1, 993]), (3, .goto 5, [5])]),
  (176, [0, 2], [(2, .bipush 9, [0, 9]), (0, .nop, [5])]),
  (178, [0, 2], [(1, .imul, []), (1, .iadd, []), (2, .istore 5, []), (1, .aload_n 0, []), (2, .bipush 21, [0, 21]), (3, .invokevirtual 112, [0, 8, 38, 2, 1, 993]), (2, .bipush 10, [0, 10]), (3, .if_icmp .ge 68, [8]), (1, .aload_n 0, []), (3, .getfield 7, [2, 8, 0, 851]), (2, .iload 5, []), (1, .iload_n 2, []), (1, .iastore, []), (1, .aload_n 0, []), (3, .getfield 7, [2, 8, 0, 851]), (2, .iload 5, []), (1, .iconst 1, [0, 1]), (1, .iadd, []), (1, .aload_n 0, []), (3, .getfield 89, [0, 8, 3, 854]), (1, .iastore, []), (1, .iconst 0, [0, 0]), (2, .istore 6, []), (0, .nop, [6])]),
  (217, [0, 2, 5, 6], [(2, .iload 6, []), (1, .aload_n 0, []), (3, .getfield 89, [0, 8, 3, 854]), (3, .if_icmp .ge 28, [7]), (1, .aload_n 0, []), (3, .getfield 7, [2, 8, 0, 851]), (2, .iload 5, []), (1, .iconst 2, [0, 2]), (1, .iadd, []), (2, .iload 6, []), (1, .iadd, []), (1, .aload_n 0, []), (3, .getfield 13, [2, 8, 2, 853]), (2, .iload 6, []), (1, .iaload, [0]), (1, .iastore, []), (3, .iinc 6 1, [0, 1]), (3, .goto (-31), [6])]),
  (251, [0, 2], [(1, .aload_n 0, []), (2, .bipush 21, [0, 21]), (1, .iconst 1, [0, 1]), (3, .invokevirtual 121, [0, 8, 28, 3, 0, 997]), (0, .nop, [8])]),
  (258, [0, 2], [(1, .aload_n 0, []), (1, .iconst 0, [0, 0]), (3, .putfield 118, [0, 8, 13, 864]), (1, .aload_n 0, []), (1, .iload_n 2, []), (3, .invokevirtual 208, [0, 8, 179, 2, 0, 1001]), (1, .return_, [])])]
def bk_M_ifSegment : List jx_B := [
  (0, [0, 1, 2], [(1, .aload_n 0, []), (1, .iload_n 1, []), (1, .iload_n 2, []), (3, .invokevirtual 214, [0, 8, 123, 3, 1, 965]), (1, .istore_n 3, []), (1, .iload_n 3, []), (3, .ifCond .eq 5, [1]), (1, .iload_n 3, []), (1, .ireturn, [0])]),
  (13, [0, 1, 2], [(1, .aload_n 0, []), (1, .iconst 0, [0, 0]), (1, .iconst 5, [0, 5]), (3, .invokevirtual 50, [0, 8, 30, 3, 0, 929]), (1, .aload_n 0, []), (1, .iload_n 1, []), (1, .iload_n 2, []), (3, .invokevirtual 217, [0, 8, 183, 3, 0, 973]), (1, .aload_n 0, []), (1, .iconst 5, [0, 5]), (1, .iconst 0, [0, 0]), (3, .invokevirtual 50, [0, 8, 30, 3, 0, 929]), (1, .aload_n 0, []), (3, .getfield 118, [0, 8, 13, 864]), (1, .ireturn, [0])])]
def bk_M_segment : List jx_B := [
  (0, [0, 1, 2], [(1, .aload_n 0, []), (1, .iload_n 1, []), (1, .iload_n 2, []), (3, .invokevirtual 214, [0, 8, 123, 3, 1, 965]), (1, .istore_n 3, []), (1, .iload_n 3, []), (3, .ifCond .eq 5, [1]), (1, .iload_n 3, []), (1, .ireturn, [0])]),
  (13, [0, 1, 2], [(1, .aload_n 0, []), (3, .invokevirtual 103, [0, 8, 77, 1, 0, 925]), (1, .aload_n 0, []), (1, .iload_n 1, []), (1, .iload_n 2, []), (3, .invokevirtual 217, [0, 8, 183, 3, 0, 973]), (1, .aload_n 0, []), (3, .getfield 118, [0, 8, 13, 864]), (1, .ireturn, [0])])]
def bk_L_law : List jx_B := [
  (0, [0], [(3, .new 7, [7, 89, 90, 75]), (1, .dup, []), (3, .invokespecial 9, [0, 143, 1, 91]), (1, .astore_n 1, []), (3, .new 10, [8, 809, 810, 83]), (1, .dup, []), (3, .invokespecial 12, [0, 134, 1, 811]), (1, .astore_n 2, []), (1, .iconst 0, [0, 0]), (1, .istore_n 3, []), (0, .nop, [1])]),
  (18, [0, 1, 2, 3], [(1, .iload_n 3, []), (1, .aload_n 0, []), (1, .arraylength, [1]), (1, .iconst 3, [0, 3]), (1, .isub, []), (3, .if_icmp .gt 734, [26]), (1, .aload_n 0, []), (1, .iload_n 3, []), (1, .iaload, [1]), (2, .bipush 31, [0, 31]), (1, .iand, []), (108, .tableswitch 719 0 22 #[108, 131, 144, 167, 190, 223, 256, 289, 322, 355, 378, 401, 434, 467, 491, 524, 557, 580, 613, 646, 669, 692, 705], [25, 2, 3, 4, 5, 6, 7, 8, 9, 10, 11, 12, 13, 14, 15, 16, 17, 18, 19, 20, 21, 22, 23, 24])]),
  (140, [0, 1, 2, 3], [(1, .aload_n 1, []), (1, .aload_n 0, []), (1, .iload_n 3, []), (1, .iconst 1, [0, 1]), (1, .iadd, []), (1, .iaload, [1]), (3, .invokevirtual 13, [0, 7, 7, 2, 1, 388]), (1, .aload_n 2, []), (1, .aload_n 0, []), (1, .iload_n 3, []), (1, .iconst 1, [0, 1]), (1, .iadd, []), (1, .iaload, [1]), (3, .invokevirtual 17, [0, 8, 101, 2, 1, 903]), (3, .if_icmp .eq 593, [25]), (1, .iconst 0, [0, 0]), (1, .ireturn, [1])]),
  (163, [0, 1, 2, 3], [(1, .aload_n 1, []), (3, .invokevirtual 18, [0, 7, 0, 1, 1, 392]), (1, .aload_n 2, []), (3, .invokevirtual 22, [0, 8, 29, 1, 1, 910]), (3, .if_icmp .eq 580, [25]), (1, .iconst 0, [0, 0]), (1, .ireturn, [1])]),
  (176, [0, 1, 2, 3], [(1, .aload_n 1, []), (1, .aload_n 0, []), (1, .iload_n 3, []), (1, .iconst 1, [0, 1]), (1, .iadd, []), (1, .iaload, [1]), (3, .invokevirtual 23, [0, 7, 169, 2, 1, 396]), (1, .aload_n 2, []), (1, .aload_n 0, []), (1, .iload_n 3, []), (1, .iconst 1, [0, 1]), (1, .iadd, []), (1, .iaload, [1]), (3, .invokevirtual 26, [0, 8, 153, 2, 1, 914]), (3, .if_icmp .eq 557, [25]), (1, .iconst 0, [0, 0]), (1, .ireturn, [1])]),
  (199, [0, 1, 2, 3], [(1, .aload_n 1, []), (1, .aload_n 0, []), (1, .iload_n 3, []), (1, .iconst 1, [0, 1]), (1, .iadd, []), (1, .iaload, [1]), (3, .invokevirtual 27, [0, 7, 172, 2, 1, 504]), (1, .aload_n 2, []), (1, .aload_n 0, []), (1, .iload_n 3, []), (1, .iconst 1, [0, 1]), (1, .iadd, []), (1, .iaload, [1]), (3, .invokevirtual 30, [0, 8, 154, 2, 1, 941]), (3, .if_icmp .eq 534, [25]), (1, .iconst 0, [0, 0]), (1, .ireturn, [1])]),
  (222, [0, 1, 2, 3], [(1, .aload_n 1, []), (1, .aload_n 0, []), (1, .iload_n 3, []), (1, .iconst 1, [0, 1]), (1, .iadd, []), (1, .iaload, [1]), (1, .aload_n 0, []), (1, .iload_n 3, []), (1, .iconst 2, [0, 2]), (1, .iadd, []), (1, .iaload, [1]), (3, .invokevirtual 31, [0, 7, 50, 3, 1, 516]), (1, .aload_n 2, []), (1, .aload_n 0, []), (1, .iload_n 3, []), (1, .iconst 1, [0, 1]), (1, .iadd, []), (1, .iaload, [1]), (1, .aload_n 0, []), (1, .iload_n 3, []), (1, .iconst 2, [0, 2]), (1, .iadd, []), (1, .iaload, [1]), (3, .invokevirtual 35, [0, 8, 118, 3, 1, 945]), (3, .if_icmp .eq 501, [25]), (1, .iconst 0, [0, 0]), (1, .ireturn, [1])]),
  (255, [0, 1, 2, 3], [(1, .aload_n 1, []), (1, .aload_n 0, []), (1, .iload_n 3, []), (1, .iconst 1, [0, 1]), (1, .iadd, []), (1, .iaload, [1]), (1, .aload_n 0, []), (1, .iload_n 3, []), (1, .iconst 2, [0, 2]), (1, .iadd, []), (1, .iaload, [1]), (3, .invokevirtual 36, [0, 7, 52, 3, 1, 521]), (1, .aload_n 2, []), (1, .aload_n 0, []), (1, .iload_n 3, []), (1, .iconst 1, [0, 1]), (1, .iadd, []), (1, .iaload, [1]), (1, .aload_n 0, []), (1, .iload_n 3, []), (1, .iconst 2, [0, 2]), (1, .iadd, []), (1, .iaload, [1]), (3, .invokevirtual 39, [0, 8, 95, 3, 1, 949]), (3, .if_icmp .eq 468, [25]), (1, .iconst 0, [0, 0]), (1, .ireturn, [1])]),
  (288, [0, 1, 2, 3], [(1, .aload_n 1, []), (1, .aload_n 0, []), (1, .iload_n 3, []), (1, .iconst 1, [0, 1]), (1, .iadd, []), (1, .iaload, [1]), (1, .aload_n 0, []), (1, .iload_n 3, []), (1, .iconst 2, [0, 2]), (1, .iadd, []), (1, .iaload, [1]), (3, .invokevirtual 40, [0, 7, 51, 3, 1, 529]), (1, .aload_n 2, []), (1, .aload_n 0, []), (1, .iload_n 3, []), (1, .iconst 1, [0, 1]), (1, .iadd, []), (1, .iaload, [1]), (1, .aload_n 0, []), (1, .iload_n 3, []), (1, .iconst 2, [0, 2]), (1, .iadd, []), (1, .iaload, [1]), (3, .invokevirtual 43, [0, 8, 94, 3, 1, 953]), (3, .if_icmp .eq 435, [25]), (1, .iconst 0, [0, 0]), (1, .ireturn, [1])]),
  (321, [0, 1, 2, 3], [(1, .aload_n 1, []), (1, .aload_n 0, []), (1, .iload_n 3, []), (1, .iconst 1, [0, 1]), (1, .iadd, []), (1, .iaload, [1]), (1, .aload_n 0, []), (1, .iload_n 3, []), (1, .iconst 2, [0, 2]), (1, .iadd, []), (1, .iaload, [1]), (3, .invokevirtual 44, [0, 7, 176, 3, 1, 534]), (1, .aload_n 2, []), (1, .aload_n 0, []), (1, .iload_n 3, []), (1, .iconst 1, [0, 1]), (1, .iadd, []), (1, .iaload, [1]), (1, .aload_n 0, []), (1, .iload_n 3, []), (1, .iconst 2, [0, 2]), (1, .iadd, []), (1, .iaload, [1]), (3, .invokevirtual 47, [0, 8, 120, 3, 1, 957]), (3, .if_icmp .eq 402, [25]), (1, .iconst 0, [0, 0]), (1, .ireturn, [1])]),
  (354, [0, 1, 2, 3], [(1, .aload_n 1, []), (1, .aload_n 0, []), (1, .iload_n 3, []), (1, .iconst 1, [0, 1]), (1, .iadd, []), (1, .iaload, [1]), (1, .aload_n 0, []), (1, .iload_n 3, []), (1, .iconst 2, [0, 2]), (1, .iadd, []), (1, .iaload, [1]), (3, .invokevirtual 48, [0, 7, 175, 3, 1, 542]), (1, .aload_n 2, []), (1, .aload_n 0, []), (1, .iload_n 3, []), (1, .iconst 1, [0, 1]), (1, .iadd, []), (1, .iaload, [1]), (1, .aload_n 0, []), (1, .iload_n 3, []), (1, .iconst 2, [0, 2]), (1, .iadd, []), (1, .iaload, [1]), (3, .invokevirtual 51, [0, 8, 185, 3, 1, 961]), (3, .if_icmp .eq 369, [25]), (1, .iconst 0, [0, 0]), (1, .ireturn, [1])]),
  (387, [0, 1, 2, 3], [(1, .aload_n 1, []), (1, .aload_n 0, []), (1, .iload_n 3, []), (1, .iconst 1, [0, 1]), (1, .iadd, []), (1, .iaload, [1]), (3, .invokevirtual 52, [0, 7, 171, 2, 1, 698]), (1, .aload_n 2, []), (1, .aload_n 0, []), (1, .iload_n 3, []), (1, .iconst 1, [0, 1]), (1, .iadd, []), (1, .iaload, [1]), (3, .invokevirtual 55, [0, 8, 167, 2, 1, 1094]), (3, .if_icmp .eq 346, [25]), (1, .iconst 0, [0, 0]), (1, .ireturn, [1])]),
  (410, [0, 1, 2, 3], [(1, .aload_n 1, []), (1, .aload_n 0, []), (1, .iload_n 3, []), (1, .iconst 1, [0, 1]), (1, .iadd, []), (1, .iaload, [1]), (3, .invokevirtual 56, [0, 7, 2, 2, 1, 708]), (1, .aload_n 2, []), (1, .aload_n 0, []), (1, .iload_n 3, []), (1, .iconst 1, [0, 1]), (1, .iadd, []), (1, .iaload, [1]), (3, .invokevirtual 59, [0, 8, 85, 2, 1, 1102]), (3, .if_icmp .eq 323, [25]), (1, .iconst 0, [0, 0]), (1, .ireturn, [1])]),
  (433, [0, 1, 2, 3], [(1, .aload_n 1, []), (1, .aload_n 0, []), (1, .iload_n 3, []), (1, .iconst 1, [0, 1]), (1, .iadd, []), (1, .iaload, [1]), (1, .aload_n 0, []), (1, .iload_n 3, []), (1, .iconst 2, [0, 2]), (1, .iadd, []), (1, .iaload, [1]), (3, .invokevirtual 60, [0, 7, 145, 3, 1, 712]), (1, .aload_n 2, []), (1, .aload_n 0, []), (1, .iload_n 3, []), (1, .iconst 1, [0, 1]), (1, .iadd, []), (1, .iaload, [1]), (1, .aload_n 0, []), (1, .iload_n 3, []), (1, .iconst 2, [0, 2]), (1, .iadd, []), (1, .iaload, [1]), (3, .invokevirtual 63, [0, 8, 161, 3, 1, 1106]), (3, .if_icmp .eq 290, [25]), (1, .iconst 0, [0, 0]), (1, .ireturn, [1])]),
  (466, [0, 1, 2, 3], [(1, .aload_n 1, []), (1, .aload_n 0, []), (1, .iload_n 3, []), (1, .iconst 1, [0, 1]), (1, .iadd, []), (1, .iaload, [1]), (1, .aload_n 0, []), (1, .iload_n 3, []), (1, .iconst 2, [0, 2]), (1, .iadd, []), (1, .iaload, [1]), (3, .invokevirtual 64, [0, 7, 124, 3, 1, 726]), (1, .aload_n 2, []), (1, .aload_n 0, []), (1, .iload_n 3, []), (1, .iconst 1, [0, 1]), (1, .iadd, []), (1, .iaload, [1]), (1, .aload_n 0, []), (1, .iload_n 3, []), (1, .iconst 2, [0, 2]), (1, .iadd, []), (1, .iaload, [1]), (3, .invokevirtual 67, [0, 8, 151, 3, 1, 1118]), (3, .if_icmp .eq 257, [25]), (1, .iconst 0, [0, 0]), (1, .ireturn, [1])]),
  (499, [0, 1, 2, 3], [(1, .aload_n 1, []), (1, .aload_n 0, []), (1, .iload_n 3, []), (1, .iconst 1, [0, 1]), (1, .iadd, []), (1, .iaload, [1]), (3, .invokevirtual 68, [0, 7, 53, 2, 2, 734]), (1, .aload_n 2, []), (1, .aload_n 0, []), (1, .iload_n 3, []), (1, .iconst 1, [0, 1]), (1, .iadd, []), (1, .iaload, [1]), (3, .invokevirtual 72, [0, 8, 139, 2, 2, 1126]), (1, .lcmp, []), (3, .ifCond .eq 233, [25]), (1, .iconst 0, [0, 0]), (1, .ireturn, [1])]),
  (523, [0, 1, 2, 3], [(1, .aload_n 1, []), (1, .aload_n 0, []), (1, .iload_n 3, []), (1, .iconst 1, [0, 1]), (1, .iadd, []), (1, .iaload, [1]), (1, .aload_n 0, []), (1, .iload_n 3, []), (1, .iconst 2, [0, 2]), (1, .iadd, []), (1, .iaload, [1]), (3, .invokevirtual 73, [0, 7, 54, 3, 1, 740]), (1, .aload_n 2, []), (1, .aload_n 0, []), (1, .iload_n 3, []), (1, .iconst 1, [0, 1]), (1, .iadd, []), (1, .iaload, [1]), (1, .aload_n 0, []), (1, .iload_n 3, []), (1, .iconst 2, [0, 2]), (1, .iadd, []), (1, .iaload, [1]), (3, .invokevirtual 76, [0, 8, 140, 3, 1, 1134]), (3, .if_icmp .eq 200, [25]), (1, .iconst 0, [0, 0]), (1, .ireturn, [1])]),
  (556, [0, 1, 2, 3], [(1, .aload_n 1, []), (1, .aload_n 0, []), (1, .iload_n 3, []), (1, .iconst 1, [0, 1]), (1, .iadd, []), (1, .iaload, [1]), (1, .aload_n 0, []), (1, .iload_n 3, []), (1, .iconst 2, [0, 2]), (1, .iadd, []), (1, .iaload, [1]), (3, .invokevirtual 77, [0, 7, 48, 3, 1, 748]), (1, .aload_n 2, []), (1, .aload_n 0, []), (1, .iload_n 3, []), (1, .iconst 1, [0, 1]), (1, .iadd, []), (1, .iaload, [1]), (1, .aload_n 0, []), (1, .iload_n 3, []), (1, .iconst 2, [0, 2]), (1, .iadd, []), (1, .iaload, [1]), (3, .invokevirtual 80, [0, 8, 84, 3, 1, 1142]), (3, .if_icmp .eq 167, [25]), (1, .iconst 0, [0, 0]), (1, .ireturn, [1])]),
  (589, [0, 1, 2, 3], [(1, .aload_n 1, []), (1, .aload_n 0, []), (1, .iload_n 3, []), (1, .iconst 1, [0, 1]), (1, .iadd, []), (1, .iaload, [1]), (3, .invokevirtual 81, [0, 7, 102, 2, 1, 756]), (1, .aload_n 2, []), (1, .aload_n 0, []), (1, .iload_n 3, []), (1, .iconst 1, [0, 1]), (1, .iadd, []), (1, .iaload, [1]), (3, .invokevirtual 84, [0, 8, 122, 2, 1, 1146]), (3, .if_icmp .eq 144, [25]), (1, .iconst 0, [0, 0]), (1, .ireturn, [1])]),
  (612, [0, 1, 2, 3], [(1, .aload_n 1, []), (1, .aload_n 0, []), (1, .iload_n 3, []), (1, .iconst 1, [0, 1]), (1, .iadd, []), (1, .iaload, [1]), (1, .aload_n 0, []), (1, .iload_n 3, []), (1, .iconst 2, [0, 2]), (1, .iadd, []), (1, .iaload, [1]), (3, .invokevirtual 85, [0, 7, 173, 3, 1, 765]), (1, .aload_n 2, []), (1, .aload_n 0, []), (1, .iload_n 3, []), (1, .iconst 1, [0, 1]), (1, .iadd, []), (1, .iaload, [1]), (1, .aload_n 0, []), (1, .iload_n 3, []), (1, .iconst 2, [0, 2]), (1, .iadd, []), (1, .iaload, [1]), (3, .invokevirtual 88, [0, 8, 184, 3, 1, 1154]), (3, .if_icmp .eq 111, [25]), (1, .iconst 0, [0, 0]), (1, .ireturn, [1])]),
  (645, [0, 1, 2, 3], [(1, .aload_n 1, []), (1, .aload_n 0, []), (1, .iload_n 3, []), (1, .iconst 1, [0, 1]), (1, .iadd, []), (1, .iaload, [1]), (1, .aload_n 0, []), (1, .iload_n 3, []), (1, .iconst 2, [0, 2]), (1, .iadd, []), (1, .iaload, [1]), (3, .invokevirtual 89, [0, 7, 174, 3, 1, 769]), (1, .aload_n 2, []), (1, .aload_n 0, []), (1, .iload_n 3, []), (1, .iconst 1, [0, 1]), (1, .iadd, []), (1, .iaload, [1]), (1, .aload_n 0, []), (1, .iload_n 3, []), (1, .iconst 2, [0, 2]), (1, .iadd, []), (1, .iaload, [1]), (3, .invokevirtual 92, [0, 8, 182, 3, 1, 1158]), (3, .if_icmp .eq 78, [25]), (1, .iconst 0, [0, 0]), (1, .ireturn, [1])]),
  (678, [0, 1, 2, 3], [(1, .aload_n 1, []), (1, .aload_n 0, []), (1, .iload_n 3, []), (1, .iconst 1, [0, 1]), (1, .iadd, []), (1, .iaload, [1]), (3, .invokevirtual 93, [0, 7, 170, 2, 1, 778]), (1, .aload_n 2, []), (1, .aload_n 0, []), (1, .iload_n 3, []), (1, .iconst 1, [0, 1]), (1, .iadd, []), (1, .iaload, [1]), (3, .invokevirtual 96, [0, 8, 181, 2, 1, 1166]), (3, .if_icmp .eq 55, [25]), (1, .iconst 0, [0, 0]), (1, .ireturn, [1])]),
  (701, [0, 1, 2, 3], [(1, .aload_n 1, []), (1, .aload_n 0, []), (1, .iload_n 3, []), (1, .iconst 1, [0, 1]), (1, .iadd, []), (1, .iaload, [1]), (3, .invokevirtual 97, [0, 7, 125, 2, 1, 782]), (1, .aload_n 2, []), (1, .aload_n 0, []), (1, .iload_n 3, []), (1, .iconst 1, [0, 1]), (1, .iadd, []), (1, .iaload, [1]), (3, .invokevirtual 100, [0, 8, 137, 2, 1, 1170]), (3, .if_icmp .eq 32, [25]), (1, .iconst 0, [0, 0]), (1, .ireturn, [1])]),
  (724, [0, 1, 2, 3], [(1, .aload_n 1, []), (3, .invokevirtual 101, [0, 7, 146, 1, 1, 791]), (1, .aload_n 2, []), (3, .invokevirtual 104, [0, 8, 142, 1, 1, 1174]), (3, .if_icmp .eq 19, [25]), (1, .iconst 0, [0, 0]), (1, .ireturn, [1])]),
  (737, [0, 1, 2, 3], [(1, .aload_n 1, []), (3, .invokevirtual 105, [0, 7, 156, 1, 2, 795]), (1, .aload_n 2, []), (3, .invokevirtual 109, [0, 8, 166, 1, 2, 1178]), (1, .lcmp, []), (3, .ifCond .eq 5, [25]), (1, .iconst 0, [0, 0]), (1, .ireturn, [1])]),
  (751, [0, 1, 2, 3], [(3, .iinc 3 3, [0, 3]), (3, .goto (-736), [1])]),
  (757, [], [(1, .iconst 1, [0, 1]), (1, .ireturn, [1])])]
def jx_mtab : List jx_Mt := [
  ((yX7_clear, cX7_clear, 2, (some .int), (0, 0), (0, 0)), 1, 0, [395, 75, 393, 394]),
  ((yX7_dropOldest, cX7_dropOldest, 3, none, (0, 0), (0, 0)), 1, 0, [417, 75, 416, 2]),
  ((yX7_flow, cX7_flow, 2, (some .int), (0, 0), (0, 0)), 1, 1, [711, 75, 709, 710]),
  ((yX7_isKey, cX7_isKey, 1, (some .boolean), (0, 0), (0, 0)), 0, 1, [552, 75, 551]),
  ((yX7_isLetter, cX7_isLetter, 1, (some .boolean), (0, 0), (0, 0)), 0, 1, [409, 75, 408]),
  ((yX7_isWord, cX7_isWord, 1, (some .boolean), (0, 0), (0, 0)), 0, 1, [402, 75, 401]),
  ((yX7_mixed, cX7_mixed, 4, (some .long), (0, 0), (0, 0)), 0, 2, [803, 75, 802]),
  ((yX7_type, cX7_type, 2, (some .int), (0, 0), (0, 0)), 1, 1, [391, 75, 389, 390]),
  ((yX0_has, cX0_has, 2, (some .boolean), (0, 0), (0, 0)), 1, 1, [528, 76, 526, 527]),
  ((yX0_nextOf, cX0_nextOf, 3, (some .int), (0, 0), (0, 0)), 1, 2, [499, 76, 497, 498]),
  ((yX0_nextSet, cX0_nextSet, 7, (some .long), (0, 0), (0, 0)), 1, 2, [635, 76, 633, 634]),
  ((yX0_wordsOfSet, cX0_wordsOfSet, 5, (some .int), (0, 0), (0, 0)), 1, 1, [639, 76, 637, 638]),
  ((yX1_add, cX1_add, 5, none, (0, 0), (0, 0)), 1, 4, [647, 78, 645, 646]),
  ((yX1_made, cX1_made, 1, (some .int), (0, 0), (0, 0)), 1, 0, [565, 78, 563, 564]),
  ((yX1_tell, cX1_tell, 4, (some .int), (0, 0), (0, 0)), 1, 2, [755, 78, 753, 754]),
  ((yX2_isPreferred, cX2_isPreferred, 3, (some .boolean), (0, 0), (0, 0)), 1, 2, [608, 80, 607, 13]),
  ((yX3_firstIndexOf, cX3_firstIndexOf, 3, (some .int), (0, 0), (0, 0)), 1, 1, [643, 82, 642, 17]),
  ((yX3_hexadecimal, cX3_hexadecimal, 1, (some .int), (0, 0), (0, 0)), 0, 1, [656, 82, 655]),
  ((yX3_isDropped, cX3_isDropped, 2, (some .boolean), (0, 0), (0, 0)), 1, 1, [629, 82, 628, 16]),
  ((yX3_recentCharacter, cX3_recentCharacter, 2, (some .int), (0, 0), (0, 0)), 1, 1, [747, 82, 745, 746]),
  ((yX3_restart, cX3_restart, 1, none, (0, 0), (0, 0)), 1, 0, [503, 82, 501, 502]),
  ((yX4_covers, cX4_covers, 3, (some .boolean), (0, 0), (0, 0)), 1, 2, [604, 81, 602, 603]),
  ((yX4_isFull, cX4_isFull, 1, (some .boolean), (0, 0), (0, 0)), 1, 0, [450, 81, 448, 449]),
  ((yX5_movedToEnd, cX5_movedToEnd, 4, (some (.object "TornStreams$Flow")), (0, 0), (0, 0)), 1, 1, [578, 77, 577, 10]),
  ((yX5_placeOf, cX5_placeOf, 3, (some .int), (0, 0), (0, 0)), 1, 1, [556, 77, 554, 555]),
  ((yX6_isDefined, cX6_isDefined, 2, (some .boolean), (0, 0), (0, 0)), 1, 1, [511, 79, 509, 510]),
  ((yX6_letterAt, cX6_letterAt, 3, (some .int), (0, 0), (0, 0)), 1, 2, [486, 79, 484, 485]),
  ((yX6_remove, cX6_remove, 2, none, (0, 0), (0, 0)), 1, 1, [515, 79, 513, 514]),
  ((yX8_adds, cX8_adds, 3, none, (0, 0), (0, 0)), 1, 2, [1000, 83, 999, 43]),
  ((yX8_clear, cX8_clear, 2, (some .int), (0, 0), (0, 0)), 1, 0, [913, 83, 911, 912]),
  ((yX8_copies, cX8_copies, 4, none, (0, 0), (0, 0)), 1, 2, [932, 83, 931, 32]),
  ((yX8_freeSlot, cX8_freeSlot, 4, (some .int), (0, 0), (0, 0)), 1, 0, [984, 83, 983, 39]),
  ((yX8_highOf, cX8_highOf, 1, (some .int), (0, 0), (0, 0)), 0, 1, [1069, 83, 1068]),
  ((yX8_in, cX8_in, 3, (some .boolean), (0, 0), (0, 0)), 0, 3, [909, 83, 908]),
  ((yX8_leaves, cX8_leaves, 3, none, (0, 0), (0, 0)), 1, 1, [980, 83, 979, 38]),
  ((yX8_letterOf, cX8_letterOf, 3, (some .int), (0, 0), (0, 0)), 1, 2, [826, 83, 825, 23]),
  ((yX8_lowOf, cX8_lowOf, 1, (some .int), (0, 0), (0, 0)), 0, 1, [1066, 83, 1065]),
  ((yX8_nodeOf, cX8_nodeOf, 6, (some .int), (0, 0), (0, 0)), 1, 2, [846, 83, 845, 28]),
  ((yX8_of, cX8_of, 2, (some .int), (0, 0), (0, 0)), 1, 1, [996, 83, 995, 42]),
  ((yX8_order, cX8_order, 5, (some .int), (0, 0), (0, 0)), 1, 2, [834, 83, 833, 25]),
  ((yX8_pieceAt, cX8_pieceAt, 2, (some .int), (0, 0), (0, 0)), 1, 1, [1012, 83, 1011, 46]),
  ((yX8_put, cX8_put, 3, none, (0, 0), (0, 0)), 1, 2, [992, 83, 991, 41]),
  ((yX8_slot, cX8_slot, 2, (some .int), (0, 0), (0, 0)), 1, 1, [940, 83, 939, 34]),
  ((yX8_takes, cX8_takes, 3, none, (0, 0), (0, 0)), 1, 1, [842, 83, 841, 27]),
  ((yX8_wordLength, cX8_wordLength, 2, (some .int), (0, 0), (0, 0)), 1, 1, [822, 83, 821, 22]),
  ((yJ6_bitCount_0f7a4, cJ6_bitCount_0f7a4, 1, (some .int), (0, 0), (0, 0)), 0, 1, [650, 87, 649]),
  ((yJ13_bitCount_95d88, cJ13_bitCount_95d88, 2, (some .int), (0, 0), (0, 0)), 0, 1, [722, 88, 721]),
  ((yJ7_fill_53178, cJ7_fill_53178, 4, none, (0, 0), (0, 0)), 0, 2, [478, 86, 477]),
  ((yX7_find, cX7_find, 3, (some .int), (0, 0), (1, 23)), 1, 2, [751, 75, 749, 750]),
  ((yX7_firstWrongByte, cX7_firstWrongByte, 2, (some .int), (0, 0), (1, 20)), 1, 0, [406, 75, 405, 0]),
  ((yX7_letter, cX7_letter, 3, (some .int), (0, 0), (1, 22)), 1, 2, [519, 75, 517, 518]),
  ((yX7_next, cX7_next, 3, (some .int), (0, 0), (1, 22)), 1, 2, [532, 75, 530, 531]),
  ((yX7_node, cX7_node, 3, (some .int), (0, 0), (1, 21)), 1, 2, [524, 75, 522, 523]),
  ((yX7_possible, cX7_possible, 3, (some .long), (0, 0), (1, 22)), 1, 1, [737, 75, 735, 736]),
  ((yX7_read, cX7_read, 4, (some .int), (0, 0), (1, 22)), 1, 2, [743, 75, 741, 742]),
  ((yX7_segmentError, cX7_segmentError, 4, (some .int), (0, 0), (1, 22)), 1, 2, [549, 75, 548, 8]),
  ((yX0_init, cX0_init, 1, none, (8, 1531), (1, 12)), 2, 0, [101, 76, 100]),
  ((yX0_added, cX0_added, 5, (some .int), (0, 0), (1, 21)), 1, 3, [490, 76, 489, 6]),
  ((yX0_link, cX0_link, 6, none, (0, 0), (1, 22)), 1, 1, [495, 76, 494, 7]),
  ((yX0_nextSetByAny, cX0_nextSetByAny, 6, (some .long), (0, 0), (1, 26)), 1, 1, [696, 76, 694, 695]),
  ((yX1_init, cX1_init, 1, none, (4, 120), (1, 12)), 2, 0, [147, 78, 146]),
  ((yX1_copyFrom, cX1_copyFrom, 2, none, (0, 0), (1, 18)), 1, 1, [433, 78, 431, 432]),
  ((yX2_chosenPiece, cX2_chosenPiece, 4, (some .int), (0, 0), (1, 22)), 1, 1, [600, 80, 599, 12]),
  ((yX3_init, cX3_init, 3, none, (2, 16), (1, 12)), 2, 2, [232, 82, 231]),
  ((yX3_begin, cX3_begin, 3, none, (0, 0), (1, 20)), 1, 2, [586, 82, 584, 585]),
  ((yX3_come, cX3_come, 8, none, (0, 0), (1, 26)), 1, 3, [625, 82, 624, 15]),
  ((yX3_copyFrom, cX3_copyFrom, 2, none, (0, 0), (1, 18)), 1, 1, [459, 82, 457, 458]),
  ((yX4_init, cX4_init, 2, none, (3, 420), (1, 12)), 2, 1, [206, 81, 205]),
  ((yX4_byteFor, cX4_byteFor, 3, (some .int), (0, 0), (1, 22)), 1, 2, [612, 81, 610, 611]),
  ((yX4_isCoveredBefore, cX4_isCoveredBefore, 4, (some .boolean), (0, 0), (1, 22)), 1, 2, [675, 81, 674, 18]),
  ((yX4_put, cX4_put, 6, none, (0, 0), (1, 18)), 1, 5, [454, 81, 453, 3]),
  ((yX4_smallestStart, cX4_smallestStart, 3, (some .int), (0, 0), (1, 21)), 1, 0, [683, 81, 681, 682]),
  ((yX5_remove, cX5_remove, 2, none, (0, 0), (1, 23)), 1, 1, [574, 77, 572, 573]),
  ((yX6_init, cX6_init, 1, none, (2, 54), (1, 12)), 2, 0, [185, 79, 184]),
  ((yX6_copyFrom, cX6_copyFrom, 2, none, (0, 0), (1, 18)), 1, 1, [425, 79, 423, 424]),
  ((yX6_definedSet, cX6_definedSet, 3, (some .int), (0, 0), (1, 21)), 1, 0, [763, 79, 761, 762]),
  ((yX6_put, cX6_put, 5, none, (0, 0), (1, 21)), 1, 3, [464, 79, 462, 463]),
  ((yX8_begins, cX8_begins, 2, none, (0, 0), (1, 23)), 1, 0, [928, 83, 927, 31]),
  ((yX8_byteOf, cX8_byteOf, 3, (some .int), (0, 0), (1, 21)), 1, 2, [1032, 83, 1031, 51]),
  ((yX8_covers, cX8_covers, 4, (some .boolean), (0, 0), (1, 21)), 1, 2, [1024, 83, 1023, 49]),
  ((yX8_definedSet, cX8_definedSet, 3, (some .int), (0, 0), (1, 21)), 1, 0, [1153, 83, 1152, 71]),
  ((yX8_drops, cX8_drops, 3, none, (0, 0), (1, 22)), 1, 0, [1085, 83, 1084, 62]),
  ((yX8_endsWith, cX8_endsWith, 6, (some .boolean), (0, 0), (1, 22)), 1, 2, [838, 83, 837, 26]),
  ((yX8_faultOf, cX8_faultOf, 2, (some .int), (0, 0), (1, 22)), 1, 0, [924, 83, 923, 30]),
  ((yX8_find, cX8_find, 3, (some .int), (0, 0), (1, 22)), 1, 2, [1145, 83, 1143, 1144]),
  ((yX8_flow, cX8_flow, 2, (some .int), (0, 0), (1, 21)), 1, 1, [1105, 83, 1103, 1104]),
  ((yX8_has, cX8_has, 2, (some .boolean), (0, 0), (1, 21)), 1, 1, [1051, 83, 1050, 55]),
  ((yX8_hexOf, cX8_hexOf, 1, (some .int), (0, 0), (1, 22)), 0, 1, [1043, 83, 1042]),
  ((yX8_inserts, cX8_inserts, 5, none, (0, 0), (1, 24)), 1, 1, [830, 83, 829, 24]),
  ((yX8_isBetter, cX8_isBetter, 3, (some .boolean), (0, 0), (1, 21)), 1, 2, [1028, 83, 1027, 50]),
  ((yX8_isPossible, cX8_isPossible, 2, (some .boolean), (0, 0), (1, 21)), 1, 1, [1063, 83, 1062, 58]),
  ((yX8_isWord, cX8_isWord, 1, (some .boolean), (0, 0), (1, 22)), 0, 1, [920, 83, 919]),
  ((yX8_laysPossible, cX8_laysPossible, 3, none, (0, 0), (1, 22)), 1, 2, [1073, 83, 1072, 59]),
  ((yX8_longest, cX8_longest, 5, (some .int), (0, 0), (1, 25)), 1, 2, [850, 83, 849, 29]),
  ((yX8_next, cX8_next, 3, (some .int), (0, 0), (1, 22)), 1, 2, [956, 83, 954, 955]),
  ((yX8_node, cX8_node, 3, (some .int), (0, 0), (1, 22)), 1, 2, [952, 83, 950, 951]),
  ((yX8_placeOf, cX8_placeOf, 3, (some .int), (0, 0), (1, 21)), 1, 1, [972, 83, 971, 36]),
  ((yX8_possibleNow, cX8_possibleNow, 1, (some .long), (0, 0), (1, 21)), 1, 0, [1133, 83, 1132, 69]),
  ((yX8_readNow, cX8_readNow, 2, (some .int), (0, 0), (1, 21)), 1, 1, [1141, 83, 1140, 70]),
  ((yX8_records, cX8_records, 5, none, (0, 0), (1, 22)), 1, 3, [1077, 83, 1076, 60]),
  ((yX8_starts, cX8_starts, 6, none, (0, 0), (1, 22)), 1, 4, [988, 83, 987, 40]),
  ((yX8_type, cX8_type, 2, (some .int), (0, 0), (1, 22)), 1, 1, [906, 83, 904, 905]),
  ((yX7_told, cX7_told, 2, (some .int), (0, 0), (2, 43)), 1, 1, [759, 75, 757, 758]),
  ((yX0_addChildren, cX0_addChildren, 7, none, (0, 0), (2, 45)), 1, 3, [482, 76, 481, 5]),
  ((yX0_fewestLettersToWord, cX0_fewestLettersToWord, 5, (some .int), (0, 0), (2, 51)), 1, 1, [789, 76, 787, 788]),
  ((yX0_spread, cX0_spread, 9, (some .long), (0, 0), (2, 51)), 1, 2, [692, 76, 690, 691]),
  ((yX2_init, cX2_init, 3, none, (11, 879), (2, 34)), 2, 2, [200, 80, 199]),
  ((yX2_begin, cX2_begin, 5, none, (0, 0), (2, 42)), 1, 4, [582, 80, 580, 581]),
  ((yX2_chosenByte, cX2_chosenByte, 2, (some .int), (0, 0), (2, 45)), 1, 1, [733, 80, 731, 732]),
  ((yX2_isDisputed, cX2_isDisputed, 5, (some .boolean), (0, 0), (2, 44)), 1, 2, [617, 80, 616, 14]),
  ((yX3_release, cX3_release, 3, none, (0, 0), (2, 53)), 1, 1, [660, 82, 658, 659]),
  ((yX4_add, cX4_add, 5, none, (0, 0), (2, 43)), 1, 4, [446, 81, 444, 445]),
  ((yX4_coveredFrom, cX4_coveredFrom, 6, (some .int), (0, 0), (2, 45)), 1, 1, [668, 81, 666, 667]),
  ((yX4_dropBefore, cX4_dropBefore, 4, none, (0, 0), (2, 43)), 1, 1, [664, 81, 662, 663]),
  ((yX8_asked, cX8_asked, 3, (some .int), (0, 0), (2, 43)), 1, 1, [1101, 83, 1100, 65]),
  ((yX8_chosen, cX8_chosen, 4, (some .int), (0, 0), (2, 44)), 1, 1, [1020, 83, 1019, 48]),
  ((yX8_isConflict, cX8_isConflict, 5, (some .boolean), (0, 0), (2, 44)), 1, 1, [1036, 83, 1035, 52]),
  ((yX8_lays, cX8_lays, 4, none, (0, 0), (2, 49)), 1, 0, [818, 83, 817, 21]),
  ((yX8_letter, cX8_letter, 3, (some .int), (0, 0), (2, 42)), 1, 2, [948, 83, 946, 947]),
  ((yX8_possibleMany, cX8_possibleMany, 3, (some .int), (0, 0), (2, 42)), 1, 0, [1117, 83, 1116, 67]),
  ((yX8_set, cX8_set, 4, (some .int), (0, 0), (2, 44)), 1, 2, [960, 83, 958, 959]),
  ((yX8_steps, cX8_steps, 5, none, (0, 0), (2, 44)), 1, 1, [1059, 83, 1058, 57]),
  ((yX8_told, cX8_told, 2, (some .int), (0, 0), (2, 43)), 1, 1, [1149, 83, 1147, 1148]),
  ((yX8_wrong, cX8_wrong, 4, (some .int), (0, 0), (2, 43)), 1, 2, [968, 83, 967, 35]),
  ((yX7_byteAt, cX7_byteAt, 4, (some .int), (0, 0), (3, 66)), 1, 2, [729, 75, 727, 728]),
  ((yX7_nearest, cX7_nearest, 3, (some .int), (0, 0), (3, 75)), 1, 1, [785, 75, 783, 784]),
  ((yX0_build, cX0_build, 6, none, (0, 0), (3, 71)), 1, 1, [475, 76, 473, 474]),
  ((yX2_end, cX2_end, 1, none, (0, 0), (3, 75)), 1, 0, [705, 80, 703, 704]),
  ((yX2_tell, cX2_tell, 2, (some .int), (0, 0), (3, 70)), 1, 1, [719, 80, 717, 718]),
  ((yX3_skip, cX3_skip, 3, none, (0, 0), (3, 79)), 1, 2, [688, 82, 686, 687]),
  ((yX3_take, cX3_take, 4, none, (0, 0), (3, 75)), 1, 2, [621, 82, 619, 620]),
  ((yX4_copyFrom, cX4_copyFrom, 3, none, (0, 0), (3, 67)), 1, 1, [442, 81, 440, 441]),
  ((yX5_init, cX5_init, 4, none, (53, 3627), (3, 56)), 2, 2, [179, 77, 178]),
  ((yX5_flowOfSegment, cX5_flowOfSegment, 3, (some (.object "TornStreams$Flow")), (0, 0), (3, 66)), 1, 1, [569, 77, 567, 568]),
  ((yX8_init, cX8_init, 1, none, (11, 24425), (3, 72)), 2, 0, [813, 83, 812]),
  ((yX8_byteNow, cX8_byteNow, 3, (some .int), (0, 0), (3, 67)), 1, 1, [1125, 83, 1124, 68]),
  ((yX8_covered, cX8_covered, 6, (some .int), (0, 0), (3, 67)), 1, 1, [1089, 83, 1088, 63]),
  ((yX8_nearest, cX8_nearest, 10, (some .int), (0, 0), (3, 65)), 1, 1, [1173, 83, 1171, 1172]),
  ((yX8_others, cX8_others, 2, (some .int), (0, 0), (3, 72)), 1, 0, [936, 83, 935, 33]),
  ((yX8_possible, cX8_possible, 3, (some .long), (0, 0), (3, 65)), 1, 1, [1129, 83, 1127, 1128]),
  ((yX8_read, cX8_read, 4, (some .int), (0, 0), (3, 65)), 1, 2, [1137, 83, 1135, 1136]),
  ((yX8_reads, cX8_reads, 7, none, (0, 0), (3, 68)), 1, 3, [1055, 83, 1054, 56]),
  ((yX8_undo, cX8_undo, 1, (some .int), (0, 0), (3, 72)), 1, 0, [1177, 83, 1175, 1176]),
  ((yX7_init, cX7_init, 2, none, (382, 25169), (4, 79)), 2, 0, [93, 75, 92]),
  ((yX7_mixedWithFlow, cX7_mixedWithFlow, 6, (some .long), (0, 0), (4, 91)), 0, 2, [808, 75, 807]),
  ((yX7_property, cX7_property, 4, (some .int), (0, 0), (4, 91)), 1, 2, [715, 75, 713, 714]),
  ((yX7_undo, cX7_undo, 2, (some .int), (0, 0), (4, 96)), 1, 0, [794, 75, 792, 793]),
  ((yX7_wordsChanged, cX7_wordsChanged, 2, none, (0, 0), (4, 96)), 1, 0, [471, 75, 470, 4]),
  ((yX2_copyFrom, cX2_copyFrom, 2, none, (0, 0), (4, 89)), 1, 1, [438, 80, 436, 437]),
  ((yX2_deliver, cX2_deliver, 3, none, (0, 0), (4, 98)), 1, 0, [596, 80, 595, 11]),
  ((yX2_skipGap, cX2_skipGap, 2, none, (0, 0), (4, 101)), 1, 0, [679, 80, 678, 19]),
  ((yX8_byteAt, cX8_byteAt, 4, (some .int), (0, 0), (4, 89)), 1, 2, [1121, 83, 1119, 1120]),
  ((yX8_character, cX8_character, 5, none, (0, 0), (4, 94)), 1, 3, [1047, 83, 1046, 54]),
  ((yX8_define, cX8_define, 4, (some .int), (0, 0), (4, 93)), 1, 1, [917, 83, 915, 916]),
  ((yX8_forget, cX8_forget, 2, (some .int), (0, 0), (4, 93)), 1, 1, [944, 83, 942, 943]),
  ((yX8_propertyNow, cX8_propertyNow, 2, (some .int), (0, 0), (4, 92)), 1, 1, [1113, 83, 1112, 66]),
  ((yX7_digest, cX7_digest, 5, (some .long), (0, 0), (5, 116)), 1, 0, [798, 75, 796, 797]),
  ((yX2_accept, cX2_accept, 6, none, (0, 0), (5, 122)), 1, 4, [591, 80, 589, 590]),
  ((yX5_copyFrom, cX5_copyFrom, 3, none, (0, 0), (5, 110)), 1, 1, [421, 77, 419, 420]),
  ((yX8_lets, cX8_lets, 2, none, (0, 0), (5, 118)), 1, 0, [1081, 83, 1080, 61]),
  ((yX8_mixedFlow, cX8_mixedFlow, 7, (some .long), (0, 0), (5, 113)), 1, 2, [1189, 83, 1188, 73]),
  ((yX8_property, cX8_property, 4, (some .int), (0, 0), (5, 113)), 1, 2, [1109, 83, 1107, 1108]),
  ((yX7_handled, cX7_handled, 5, (some .int), (0, 0), (6, 147)), 1, 3, [561, 75, 560, 9]),
  ((yX7_record, cX7_record, 1, none, (0, 0), (6, 132)), 1, 0, [413, 75, 412, 1]),
  ((yX7_wordsBy, cX7_wordsBy, 5, (some .int), (0, 0), (6, 147)), 1, 2, [776, 75, 775, 20]),
  ((yX8_delivers, cX8_delivers, 4, none, (0, 0), (6, 139)), 1, 2, [1040, 83, 1039, 53]),
  ((yX8_digest, cX8_digest, 5, (some .long), (0, 0), (6, 139)), 1, 0, [1181, 83, 1179, 1180]),
  ((yX8_finish, cX8_finish, 3, (some .int), (0, 0), (6, 139)), 1, 1, [1097, 83, 1095, 1096]),
  ((yX8_gap, cX8_gap, 9, none, (0, 0), (6, 139)), 1, 1, [1093, 83, 1092, 64]),
  ((yX7_define, cX7_define, 3, (some .int), (0, 0), (7, 152)), 1, 1, [399, 75, 397, 398]),
  ((yX7_evasions, cX7_evasions, 7, (some .int), (0, 0), (7, 171)), 1, 1, [781, 75, 779, 780]),
  ((yX7_finish, cX7_finish, 4, (some .int), (0, 0), (7, 152)), 1, 1, [701, 75, 699, 700]),
  ((yX7_forget, cX7_forget, 2, (some .int), (0, 0), (7, 152)), 1, 1, [507, 75, 505, 506]),
  ((yX7_ifSegment, cX7_ifSegment, 4, (some .int), (0, 0), (7, 171)), 1, 2, [768, 75, 766, 767]),
  ((yX7_replay, cX7_replay, 4, (some .int), (0, 0), (7, 171)), 1, 2, [772, 75, 770, 771]),
  ((yX7_segment, cX7_segment, 4, (some .int), (0, 0), (7, 171)), 1, 2, [545, 75, 543, 544]),
  ((yX7_set, cX7_set, 4, (some .int), (0, 0), (7, 152)), 1, 2, [537, 75, 535, 536]),
  ((yX8_deliversAll, cX8_deliversAll, 4, none, (0, 0), (7, 162)), 1, 0, [1016, 83, 1015, 47]),
  ((yX8_handles, cX8_handles, 6, none, (0, 0), (8, 185)), 1, 3, [1008, 83, 1007, 45]),
  ((yX8_handlesText, cX8_handlesText, 3, none, (0, 0), (9, 210)), 1, 1, [1004, 83, 1003, 44]),
  ((yX8_replays, cX8_replays, 6, (some .int), (0, 0), (9, 210)), 1, 2, [1165, 83, 1164, 72]),
  ((yX8_evasions, cX8_evasions, 7, (some .int), (0, 0), (10, 235)), 1, 1, [1169, 83, 1167, 1168]),
  ((yX8_replay, cX8_replay, 4, (some .int), (0, 0), (10, 235)), 1, 2, [1161, 83, 1159, 1160]),
  ((yX8_segments, cX8_segments, 7, none, (0, 0), (10, 232)), 1, 2, [976, 83, 975, 37]),
  ((yX8_ifSegment, cX8_ifSegment, 4, (some .int), (0, 0), (11, 258)), 1, 2, [1157, 83, 1155, 1156]),
  ((yX8_segment, cX8_segment, 4, (some .int), (0, 0), (11, 258)), 1, 2, [964, 83, 962, 963]),
  ((yL_law, cL_law, 4, (some .boolean), (600000, 7302250), (14, 562)), 0, 1, [0, 0, 0, 0])]
def jx_ptab : List (List jx_B) := [bk_T_clear, bk_T_dropOldest, bk_T_flow, bk_T_isKey, bk_T_isLetter, bk_T_isWord, bk_T_mixed, bk_T_type, bk_A_has, bk_A_nextOf, bk_A_nextSet, bk_A_wordsOfSet, bk_Fi_add, bk_Fi_made, bk_Fi_tell, bk_Fl_isPreferred, bk_R_firstIndexOf, bk_R_hexadecimal, bk_R_isDropped, bk_R_recentCharacter, bk_R_restart, bk_Sg_covers, bk_Sg_isFull, bk_St_movedToEnd, bk_St_placeOf, bk_Wo_isDefined, bk_Wo_letterAt, bk_Wo_remove, bk_M_adds, bk_M_clear, bk_M_copies, bk_M_freeSlot, bk_M_highOf, bk_M_in, bk_M_leaves, bk_M_letterOf, bk_M_lowOf, bk_M_nodeOf, bk_M_of, bk_M_order, bk_M_pieceAt, bk_M_put, bk_M_slot, bk_M_takes, bk_M_wordLength, bk_JI_bitCount, bk_JL_bitCount, bk_JA_fill, bk_T_find, bk_T_firstWrongByte, bk_T_letter, bk_T_next, bk_T_node, bk_T_possible, bk_T_read, bk_T_segmentError, bk_A_init, bk_A_added, bk_A_link, bk_A_nextSetByAny, bk_Fi_init, bk_Fi_copyFrom, bk_Fl_chosenPiece, bk_R_init, bk_R_begin, bk_R_come, bk_R_copyFrom, bk_Sg_init, bk_Sg_byteFor, bk_Sg_isCoveredBefore, bk_Sg_put, bk_Sg_smallestStart, bk_St_remove, bk_Wo_init, bk_Wo_copyFrom, bk_Wo_definedSet, bk_Wo_put, bk_M_begins, bk_M_byteOf, bk_M_covers, bk_M_definedSet, bk_M_drops, bk_M_endsWith, bk_M_faultOf, bk_M_find, bk_M_flow, bk_M_has, bk_M_hexOf, bk_M_inserts, bk_M_isBetter, bk_M_isPossible, bk_M_isWord, bk_M_laysPossible, bk_M_longest, bk_M_next, bk_M_node, bk_M_placeOf, bk_M_possibleNow, bk_M_readNow, bk_M_records, bk_M_starts, bk_M_type, bk_T_told, bk_A_addChildren, bk_A_fewestLettersToWord, bk_A_spread, bk_Fl_init, bk_Fl_begin, bk_Fl_chosenByte, bk_Fl_isDisputed, bk_R_release, bk_Sg_add, bk_Sg_coveredFrom, bk_Sg_dropBefore, bk_M_asked, bk_M_chosen, bk_M_isConflict, bk_M_lays, bk_M_letter, bk_M_possibleMany, bk_M_set, bk_M_steps, bk_M_told, bk_M_wrong, bk_T_byteAt, bk_T_nearest, bk_A_build, bk_Fl_end, bk_Fl_tell, bk_R_skip, bk_R_take, bk_Sg_copyFrom, bk_St_init, bk_St_flowOfSegment, bk_M_init, bk_M_byteNow, bk_M_covered, bk_M_nearest, bk_M_others, bk_M_possible, bk_M_read, bk_M_reads, bk_M_undo, bk_T_init, bk_T_mixedWithFlow, bk_T_property, bk_T_undo, bk_T_wordsChanged, bk_Fl_copyFrom, bk_Fl_deliver, bk_Fl_skipGap, bk_M_byteAt, bk_M_character, bk_M_define, bk_M_forget, bk_M_propertyNow, bk_T_digest, bk_Fl_accept, bk_St_copyFrom, bk_M_lets, bk_M_mixedFlow, bk_M_property, bk_T_handled, bk_T_record, bk_T_wordsBy, bk_M_delivers, bk_M_digest, bk_M_finish, bk_M_gap, bk_T_define, bk_T_evasions, bk_T_finish, bk_T_forget, bk_T_ifSegment, bk_T_replay, bk_T_segment, bk_T_set, bk_M_deliversAll, bk_M_handles, bk_M_handlesText, bk_M_replays, bk_M_evasions, bk_M_replay, bk_M_segments, bk_M_ifSegment, bk_M_segment, bk_L_law]
def jx_d0 : jx_Mt := ((yX7_clear, cX7_clear, 2, (some .int), (0, 0), (0, 0)), 1, 0, [395, 75, 393, 394])
def zz : jx_Z := (fun y => jx_mtab.getD y jx_d0, fun μ b => (jx_ptab.getD μ []).getD b (0, [], []))
def zwp : jx_XX := jx_wp zz
def zcall : jx_C := jx_cl zz (jx_wp zz)
