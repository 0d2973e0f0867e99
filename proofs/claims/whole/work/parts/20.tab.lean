/-! THE CLAIM'S METHODS AS DATA OF THE PLAIN MACHINE (written by wip/whole/gen/gen3.py) -/
abbrev n_T_clear : Nat := 0
abbrev n_T_dropOldest : Nat := 1
abbrev n_T_flow : Nat := 2
abbrev n_T_isKey : Nat := 3
abbrev n_T_isLetter : Nat := 4
abbrev n_T_isWord : Nat := 5
abbrev n_T_mixed : Nat := 6
abbrev n_T_type : Nat := 7
abbrev n_A_has : Nat := 8
abbrev n_A_nextOf : Nat := 9
abbrev n_A_nextSet : Nat := 10
abbrev n_A_wordsOf : Nat := 11
abbrev n_A_wordsOfSet : Nat := 12
abbrev n_Fi_add : Nat := 13
abbrev n_Fi_made : Nat := 14
abbrev n_Fi_tell : Nat := 15
abbrev n_Fl_isPreferred : Nat := 16
abbrev n_R_firstIndexOf : Nat := 17
abbrev n_R_hexadecimal : Nat := 18
abbrev n_R_isDropped : Nat := 19
abbrev n_R_recentCharacter : Nat := 20
abbrev n_R_restart : Nat := 21
abbrev n_Sg_covers : Nat := 22
abbrev n_Sg_isFull : Nat := 23
abbrev n_St_movedToEnd : Nat := 24
abbrev n_St_placeOf : Nat := 25
abbrev n_Wo_isDefined : Nat := 26
abbrev n_Wo_letterAt : Nat := 27
abbrev n_Wo_remove : Nat := 28
abbrev n_M_adds : Nat := 29
abbrev n_M_clear : Nat := 30
abbrev n_M_copies : Nat := 31
abbrev n_M_freeSlot : Nat := 32
abbrev n_M_highOf : Nat := 33
abbrev n_M_in : Nat := 34
abbrev n_M_leaves : Nat := 35
abbrev n_M_letterOf : Nat := 36
abbrev n_M_lowOf : Nat := 37
abbrev n_M_nodeOf : Nat := 38
abbrev n_M_of : Nat := 39
abbrev n_M_order : Nat := 40
abbrev n_M_pieceAt : Nat := 41
abbrev n_M_put : Nat := 42
abbrev n_M_slot : Nat := 43
abbrev n_M_takes : Nat := 44
abbrev n_M_wordLength : Nat := 45
abbrev n_JI_bitCount : Nat := 46
abbrev n_JL_bitCount : Nat := 47
abbrev n_JA_fill : Nat := 48
abbrev n_T_find : Nat := 49
abbrev n_T_firstWrongByte : Nat := 50
abbrev n_T_letter : Nat := 51
abbrev n_T_next : Nat := 52
abbrev n_T_node : Nat := 53
abbrev n_T_possible : Nat := 54
abbrev n_T_read : Nat := 55
abbrev n_T_segmentError : Nat := 56
abbrev n_A_init : Nat := 57
abbrev n_A_added : Nat := 58
abbrev n_A_link : Nat := 59
abbrev n_A_nextSetByAny : Nat := 60
abbrev n_Fi_init : Nat := 61
abbrev n_Fi_copyFrom : Nat := 62
abbrev n_Fl_chosenPiece : Nat := 63
abbrev n_R_init : Nat := 64
abbrev n_R_begin : Nat := 65
abbrev n_R_come : Nat := 66
abbrev n_R_copyFrom : Nat := 67
abbrev n_Sg_init : Nat := 68
abbrev n_Sg_byteFor : Nat := 69
abbrev n_Sg_isCoveredBefore : Nat := 70
abbrev n_Sg_put : Nat := 71
abbrev n_Sg_smallestStart : Nat := 72
abbrev n_St_remove : Nat := 73
abbrev n_Wo_init : Nat := 74
abbrev n_Wo_copyFrom : Nat := 75
abbrev n_Wo_definedSet : Nat := 76
abbrev n_Wo_put : Nat := 77
abbrev n_M_begins : Nat := 78
abbrev n_M_byteOf : Nat := 79
abbrev n_M_covers : Nat := 80
abbrev n_M_definedSet : Nat := 81
abbrev n_M_drops : Nat := 82
abbrev n_M_endsWith : Nat := 83
abbrev n_M_faultOf : Nat := 84
abbrev n_M_find : Nat := 85
abbrev n_M_flow : Nat := 86
abbrev n_M_has : Nat := 87
abbrev n_M_hexOf : Nat := 88
abbrev n_M_inserts : Nat := 89
abbrev n_M_isBetter : Nat := 90
abbrev n_M_isPossible : Nat := 91
abbrev n_M_isWord : Nat := 92
abbrev n_M_laysPossible : Nat := 93
abbrev n_M_longest : Nat := 94
abbrev n_M_next : Nat := 95
abbrev n_M_node : Nat := 96
abbrev n_M_placeOf : Nat := 97
abbrev n_M_possibleNow : Nat := 98
abbrev n_M_readNow : Nat := 99
abbrev n_M_records : Nat := 100
abbrev n_M_starts : Nat := 101
abbrev n_M_type : Nat := 102
abbrev n_T_told : Nat := 103
abbrev n_A_addChildren : Nat := 104
abbrev n_A_fewestLettersToWord : Nat := 105
abbrev n_A_spread : Nat := 106
abbrev n_Fl_init : Nat := 107
abbrev n_Fl_begin : Nat := 108
abbrev n_Fl_chosenByte : Nat := 109
abbrev n_Fl_isDisputed : Nat := 110
abbrev n_R_release : Nat := 111
abbrev n_Sg_add : Nat := 112
abbrev n_Sg_coveredFrom : Nat := 113
abbrev n_Sg_dropBefore : Nat := 114
abbrev n_M_asked : Nat := 115
abbrev n_M_chosen : Nat := 116
abbrev n_M_isConflict : Nat := 117
abbrev n_M_lays : Nat := 118
abbrev n_M_letter : Nat := 119
abbrev n_M_possibleMany : Nat := 120
abbrev n_M_set : Nat := 121
abbrev n_M_steps : Nat := 122
abbrev n_M_told : Nat := 123
abbrev n_M_wrong : Nat := 124
abbrev n_T_byteAt : Nat := 125
abbrev n_T_nearest : Nat := 126
abbrev n_A_build : Nat := 127
abbrev n_Fl_end : Nat := 128
abbrev n_Fl_tell : Nat := 129
abbrev n_R_skip : Nat := 130
abbrev n_R_take : Nat := 131
abbrev n_Sg_copyFrom : Nat := 132
abbrev n_St_init : Nat := 133
abbrev n_St_flowOfSegment : Nat := 134
abbrev n_M_init : Nat := 135
abbrev n_M_byteNow : Nat := 136
abbrev n_M_covered : Nat := 137
abbrev n_M_nearest : Nat := 138
abbrev n_M_others : Nat := 139
abbrev n_M_possible : Nat := 140
abbrev n_M_read : Nat := 141
abbrev n_M_reads : Nat := 142
abbrev n_M_undo : Nat := 143
abbrev n_T_init : Nat := 144
abbrev n_T_mixedWithFlow : Nat := 145
abbrev n_T_property : Nat := 146
abbrev n_T_undo : Nat := 147
abbrev n_T_wordsChanged : Nat := 148
abbrev n_Fl_copyFrom : Nat := 149
abbrev n_Fl_deliver : Nat := 150
abbrev n_Fl_skipGap : Nat := 151
abbrev n_M_byteAt : Nat := 152
abbrev n_M_character : Nat := 153
abbrev n_M_define : Nat := 154
abbrev n_M_forget : Nat := 155
abbrev n_M_propertyNow : Nat := 156
abbrev n_T_digest : Nat := 157
abbrev n_Fl_accept : Nat := 158
abbrev n_St_copyFrom : Nat := 159
abbrev n_M_lets : Nat := 160
abbrev n_M_mixedFlow : Nat := 161
abbrev n_M_property : Nat := 162
abbrev n_T_handled : Nat := 163
abbrev n_T_record : Nat := 164
abbrev n_T_wordsBy : Nat := 165
abbrev n_M_delivers : Nat := 166
abbrev n_M_digest : Nat := 167
abbrev n_M_finish : Nat := 168
abbrev n_M_gap : Nat := 169
abbrev n_T_define : Nat := 170
abbrev n_T_evasions : Nat := 171
abbrev n_T_finish : Nat := 172
abbrev n_T_forget : Nat := 173
abbrev n_T_ifSegment : Nat := 174
abbrev n_T_replay : Nat := 175
abbrev n_T_segment : Nat := 176
abbrev n_T_set : Nat := 177
abbrev n_M_deliversAll : Nat := 178
abbrev n_M_handles : Nat := 179
abbrev n_M_handlesText : Nat := 180
abbrev n_M_replays : Nat := 181
abbrev n_M_evasions : Nat := 182
abbrev n_M_replay : Nat := 183
abbrev n_M_segments : Nat := 184
abbrev n_M_ifSegment : Nat := 185
abbrev n_M_segment : Nat := 186
abbrev n_L_law : Nat := 187
def bk_T_clear : List jx_B := [
  (0, [0], [(1, .aload_n 0, []), (3, .getfield 13, [0, 7, 1, 363]), (1, .istore_n 1, []), (1, .aload_n 0, []), (1, .iconst 0, [0, 0]), (3, .putfield 13, [0, 7, 1, 363]), (1, .iload_n 1, []), (1, .ireturn, [0])])]
def bk_T_dropOldest : List jx_B := [
  (0, [0], [(1, .aload_n 0, []), (3, .getfield 46, [2, 7, 6, 368]), (1, .iconst 0, [0, 0]), (1, .aaload, [5]), (1, .astore_n 1, []), (1, .iconst 1, [0, 1]), (1, .istore_n 2, []), (0, .nop, [1])]),
  (9, [0, 1, 2], [(1, .iload_n 2, []), (1, .iconst 4, [0, 4]), (3, .if_icmp .ge 23, [2]), (1, .aload_n 0, []), (3, .getfield 46, [2, 7, 6, 368]), (1, .iload_n 2, []), (1, .iconst 1, [0, 1]), (1, .isub, []), (1, .aload_n 0, []), (3, .getfield 46, [2, 7, 6, 368]), (1, .iload_n 2, []), (1, .aaload, [5]), (1, .aastore, [5]), (3, .iinc 2 1, [0, 1]), (3, .goto (-22), [1])]),
  (34, [0, 1], [(1, .aload_n 0, []), (3, .getfield 46, [2, 7, 6, 368]), (1, .iconst 3, [0, 3]), (1, .aload_n 1, []), (1, .aastore, [5]), (1, .aload_n 0, []), (1, .iconst 3, [0, 3]), (3, .putfield 50, [0, 7, 7, 369]), (1, .return_, [])])]
def bk_T_flow : List jx_B := [
  (0, [0, 1], [(1, .iload_n 1, []), (3, .ifCond .ge 5, [1]), (1, .iconst (-1), [1, 1]), (1, .ireturn, [0])]),
  (6, [0, 1], [(1, .iload_n 1, []), (1, .aload_n 0, []), (3, .getfield 32, [2, 7, 3, 365]), (3, .getfield 151, [0, 5, 4, 343]), (3, .if_icmp .ge 23, [2]), (1, .iload_n 1, []), (1, .iconst 4, [0, 4]), (3, .if_icmp .ge 18, [2]), (1, .aload_n 0, []), (3, .getfield 32, [2, 7, 3, 365]), (3, .getfield 143, [2, 5, 3, 341]), (1, .iload_n 1, []), (1, .aaload, [2]), (3, .getfield 154, [0, 2, 0, 292]), (3, .goto 5, [3])]),
  (37, [], [(2, .bipush (-9), [1, 9]), (0, .nop, [3])]),
  (39, [], [(1, .ireturn, [0])])]
def bk_T_isKey : List jx_B := [
  (0, [0], [(1, .iload_n 0, []), (3, .ifCond .lt 13, [1]), (1, .iload_n 0, []), (2, .bipush 100, [0, 100]), (3, .if_icmp .ge 7, [1]), (1, .iconst 1, [0, 1]), (3, .goto 4, [2])]),
  (14, [], [(1, .iconst 0, [0, 0]), (0, .nop, [2])]),
  (15, [], [(1, .ireturn, [1])])]
def bk_T_isLetter : List jx_B := [
  (0, [0], [(1, .iload_n 0, []), (2, .bipush 97, [0, 97]), (3, .if_icmp .lt 13, [1]), (1, .iload_n 0, []), (2, .bipush 122, [0, 122]), (3, .if_icmp .gt 7, [1]), (1, .iconst 1, [0, 1]), (3, .goto 4, [2])]),
  (16, [], [(1, .iconst 0, [0, 0]), (0, .nop, [2])]),
  (17, [], [(1, .ireturn, [1])])]
def bk_T_isWord : List jx_B := [
  (0, [0], [(1, .iload_n 0, []), (3, .ifCond .lt 13, [1]), (1, .iload_n 0, []), (2, .bipush 6, [0, 6]), (3, .if_icmp .ge 7, [1]), (1, .iconst 1, [0, 1]), (3, .goto 4, [2])]),
  (14, [], [(1, .iconst 0, [0, 0]), (0, .nop, [2])]),
  (15, [], [(1, .ireturn, [1])])]
def bk_T_mixed : List jx_B := [
  (0, [0, 2], [(3, .ldc2_w 233, [0, 31, 808]), (1, .lload_n 0, []), (1, .lmul, []), (1, .lload_n 2, []), (1, .ladd, []), (1, .lreturn, [])])]
def bk_T_type : List jx_B := [
  (0, [0, 1], [(1, .iload_n 1, []), (2, .bipush 32, [0, 32]), (3, .if_icmp .lt 9, [1]), (1, .iload_n 1, []), (2, .bipush 126, [0, 126]), (3, .if_icmp .le 5, [2]), (0, .nop, [1])]),
  (12, [], [(1, .iconst (-1), [1, 1]), (1, .ireturn, [0])]),
  (14, [0, 1], [(1, .aload_n 0, []), (3, .getfield 13, [0, 7, 1, 363]), (3, .ifCond .lt 12, [3]), (1, .aload_n 0, []), (3, .getfield 13, [0, 7, 1, 363]), (2, .bipush 40, [0, 40]), (3, .if_icmp .lt 6, [4]), (0, .nop, [3])]),
  (30, [], [(2, .bipush (-3), [1, 3]), (1, .ireturn, [0])]),
  (33, [0, 1], [(1, .aload_n 0, []), (3, .getfield 9, [2, 7, 0, 362]), (1, .aload_n 0, []), (3, .getfield 13, [0, 7, 1, 363]), (1, .iload_n 1, []), (1, .i2b, []), (1, .bastore, []), (1, .aload_n 0, []), (1, .dup, []), (3, .getfield 13, [0, 7, 1, 363]), (1, .iconst 1, [0, 1]), (1, .iadd, []), (3, .putfield 13, [0, 7, 1, 363]), (1, .aload_n 0, []), (3, .getfield 13, [0, 7, 1, 363]), (1, .ireturn, [0])])]
def bk_A_has : List jx_B := [
  (0, [0, 1], [(1, .iload_n 1, []), (3, .ifCond .lt 15, [1]), (1, .iload_n 1, []), (1, .aload_n 0, []), (3, .getfield 9, [0, 0, 0, 103]), (3, .if_icmp .ge 7, [1]), (1, .iconst 1, [0, 1]), (3, .goto 4, [2])]),
  (16, [], [(1, .iconst 0, [0, 0]), (0, .nop, [2])]),
  (17, [], [(1, .ireturn, [1])])]
def bk_A_nextOf : List jx_B := [
  (0, [0, 1, 2], [(1, .iload_n 1, []), (3, .ifCond .lt 19, [1]), (1, .iload_n 1, []), (2, .bipush 49, [0, 49]), (3, .if_icmp .ge 13, [1]), (1, .iload_n 2, []), (3, .ifCond .lt 9, [1]), (1, .iload_n 2, []), (2, .bipush 26, [0, 26]), (3, .if_icmp .lt 5, [2]), (0, .nop, [1])]),
  (20, [], [(1, .iconst 0, [0, 0]), (1, .ireturn, [0])]),
  (22, [0, 1, 2], [(1, .aload_n 0, []), (3, .getfield 34, [2, 0, 7, 117]), (1, .iload_n 1, []), (2, .bipush 26, [0, 26]), (1, .imul, []), (1, .iload_n 2, []), (1, .iadd, []), (1, .iaload, [0]), (1, .ireturn, [0])])]
def bk_A_nextSet : List jx_B := [
  (0, [0, 1, 3], [(1, .lconst 0, []), (2, .lstore 4, []), (1, .iconst 0, [0, 0]), (2, .istore 6, []), (0, .nop, [1])]),
  (6, [0, 1, 3, 4, 6], [(2, .iload 6, []), (1, .aload_n 0, []), (3, .getfield 9, [0, 0, 0, 103]), (3, .if_icmp .ge 39, [3]), (1, .lload_n 1, []), (2, .iload 6, []), (1, .lushr, []), (1, .lconst 1, []), (1, .land, []), (1, .lconst 0, []), (1, .lcmp, []), (3, .ifCond .eq 22, [2]), (2, .lload 4, []), (1, .lconst 1, []), (1, .aload_n 0, []), (3, .getfield 34, [2, 0, 7, 117]), (2, .iload 6, []), (2, .bipush 26, [0, 26]), (1, .imul, []), (1, .iload_n 3, []), (1, .iadd, []), (1, .iaload, [0]), (1, .lshl, []), (1, .lor, []), (2, .lstore 4, []), (0, .nop, [2])]),
  (45, [0, 1, 3, 4, 6], [(3, .iinc 6 1, [0, 1]), (3, .goto (-42), [1])]),
  (51, [4], [(2, .lload 4, []), (1, .lreturn, [])])]
def bk_A_wordsOf : List jx_B := [
  (0, [0, 1], [(1, .iload_n 1, []), (3, .ifCond .lt 18, [1]), (1, .iload_n 1, []), (2, .bipush 49, [0, 49]), (3, .if_icmp .ge 12, [1]), (1, .aload_n 0, []), (3, .getfield 28, [2, 0, 5, 113]), (1, .iload_n 1, []), (1, .iaload, [0]), (3, .goto 4, [2])]),
  (19, [], [(1, .iconst 0, [0, 0]), (0, .nop, [2])]),
  (20, [], [(1, .ireturn, [0])])]
def bk_A_wordsOfSet : List jx_B := [
  (0, [0, 1], [(1, .iconst 0, [0, 0]), (1, .istore_n 3, []), (1, .iconst 0, [0, 0]), (2, .istore 4, []), (0, .nop, [1])]),
  (5, [0, 1, 3, 4], [(2, .iload 4, []), (1, .aload_n 0, []), (3, .getfield 9, [0, 0, 0, 103]), (3, .if_icmp .ge 30, [3]), (1, .lload_n 1, []), (2, .iload 4, []), (1, .lushr, []), (1, .lconst 1, []), (1, .land, []), (1, .lconst 0, []), (1, .lcmp, []), (3, .ifCond .eq 13, [2]), (1, .iload_n 3, []), (1, .aload_n 0, []), (3, .getfield 28, [2, 0, 5, 113]), (2, .iload 4, []), (1, .iaload, [0]), (1, .ior, []), (1, .istore_n 3, []), (0, .nop, [2])]),
  (35, [0, 1, 3, 4], [(3, .iinc 4 1, [0, 1]), (3, .goto (-33), [1])]),
  (41, [3], [(1, .iload_n 3, []), (1, .ireturn, [0])])]
def bk_Fi_add : List jx_B := [
  (0, [0, 1, 2, 3, 4], [(1, .aload_n 0, []), (3, .getfield 21, [0, 1, 3, 154]), (3, .ifCond .lt 19, [1]), (1, .aload_n 0, []), (3, .getfield 21, [0, 1, 3, 154]), (2, .bipush 30, [0, 30]), (3, .if_icmp .ge 10, [1]), (1, .aload_n 0, []), (3, .getfield 21, [0, 1, 3, 154]), (3, .goto 4, [2])]),
  (23, [0, 1, 2, 3, 4], [(1, .iconst 0, [0, 0]), (0, .nop, [2])]),
  (24, [0, 1, 2, 3, 4], [(2, .istore 5, []), (1, .aload_n 0, []), (3, .getfield 24, [2, 1, 4, 155]), (2, .iload 5, []), (1, .iload_n 1, []), (1, .iastore, []), (1, .aload_n 0, []), (3, .getfield 28, [2, 1, 5, 156]), (2, .iload 5, []), (1, .iload_n 2, []), (1, .iastore, []), (1, .aload_n 0, []), (3, .getfield 31, [2, 1, 6, 157]), (2, .iload 5, []), (1, .iload_n 3, []), (1, .iastore, []), (1, .aload_n 0, []), (3, .getfield 34, [2, 1, 7, 158]), (2, .iload 5, []), (2, .iload 4, []), (1, .iastore, []), (1, .aload_n 0, []), (2, .iload 5, []), (1, .iconst 1, [0, 1]), (1, .iadd, []), (3, .putfield 21, [0, 1, 3, 154]), (1, .aload_n 0, []), (3, .getfield 18, [0, 1, 2, 152]), (2, .bipush 30, [0, 30]), (3, .if_icmp .ge 13, [3]), (1, .aload_n 0, []), (1, .dup, []), (3, .getfield 18, [0, 1, 2, 152]), (1, .iconst 1, [0, 1]), (1, .iadd, []), (3, .putfield 18, [0, 1, 2, 152]), (0, .nop, [3])]),
  (86, [0, 3], [(1, .iload_n 3, []), (2, .bipush (-9), [1, 9]), (3, .if_icmp .ne 16, [4]), (1, .aload_n 0, []), (1, .dup, []), (3, .getfield 15, [0, 1, 1, 150]), (1, .iconst 1, [0, 1]), (1, .iadd, []), (3, .putfield 15, [0, 1, 1, 150]), (3, .goto 13, [5])]),
  (105, [0], [(1, .aload_n 0, []), (1, .dup, []), (3, .getfield 9, [0, 1, 0, 148]), (1, .iconst 1, [0, 1]), (1, .iadd, []), (3, .putfield 9, [0, 1, 0, 148]), (0, .nop, [5])]),
  (115, [], [(1, .return_, [])])]
def bk_Fi_made : List jx_B := [
  (0, [0], [(1, .aload_n 0, []), (3, .getfield 9, [0, 1, 0, 148]), (1, .aload_n 0, []), (3, .getfield 15, [0, 1, 1, 150]), (1, .iadd, []), (1, .ireturn, [0])])]
def bk_Fi_tell : List jx_B := [
  (0, [0, 1, 2], [(1, .iload_n 1, []), (3, .ifCond .lt 11, [1]), (1, .iload_n 1, []), (1, .aload_n 0, []), (3, .getfield 18, [0, 1, 2, 152]), (3, .if_icmp .lt 6, [2]), (0, .nop, [1])]),
  (12, [], [(2, .bipush (-9), [1, 9]), (1, .ireturn, [0])]),
  (15, [0, 1, 2], [(1, .aload_n 0, []), (3, .getfield 21, [0, 1, 3, 154]), (1, .iload_n 1, []), (3, .if_icmp .le 14, [3]), (1, .aload_n 0, []), (3, .getfield 21, [0, 1, 3, 154]), (1, .iconst 1, [0, 1]), (1, .isub, []), (1, .iload_n 1, []), (1, .isub, []), (3, .goto 14, [4])]),
  (34, [0, 1, 2], [(1, .aload_n 0, []), (3, .getfield 21, [0, 1, 3, 154]), (1, .iconst 1, [0, 1]), (1, .isub, []), (1, .iload_n 1, []), (1, .isub, []), (2, .bipush 30, [0, 30]), (1, .iadd, []), (0, .nop, [4])]),
  (45, [0, 2], [(1, .istore_n 3, []), (1, .iload_n 3, []), (3, .ifCond .lt 9, [5]), (1, .iload_n 3, []), (2, .bipush 30, [0, 30]), (3, .if_icmp .lt 6, [6]), (0, .nop, [5])]),
  (56, [], [(2, .bipush (-9), [1, 9]), (1, .ireturn, [0])]),
  (59, [0, 2, 3], [(1, .iload_n 2, []), (28, .tableswitch 49 0 2 #[28, 35, 42], [10, 7, 8, 9])]),
  (88, [0, 3], [(1, .aload_n 0, []), (3, .getfield 24, [2, 1, 4, 155]), (1, .iload_n 3, []), (1, .iaload, [0]), (1, .ireturn, [0])]),
  (95, [0, 3], [(1, .aload_n 0, []), (3, .getfield 28, [2, 1, 5, 156]), (1, .iload_n 3, []), (1, .iaload, [0]), (1, .ireturn, [0])]),
  (102, [0, 3], [(1, .aload_n 0, []), (3, .getfield 31, [2, 1, 6, 157]), (1, .iload_n 3, []), (1, .iaload, [0]), (1, .ireturn, [0])]),
  (109, [0, 3], [(1, .aload_n 0, []), (3, .getfield 34, [2, 1, 7, 158]), (1, .iload_n 3, []), (1, .iaload, [0]), (1, .ireturn, [0])])]
def bk_Fl_isPreferred : List jx_B := [
  (0, [0, 1, 2], [(1, .aload_n 0, []), (3, .getfield 36, [0, 2, 1, 293]), (28, .tableswitch 84 1 3 #[28, 30, 57], [8, 1, 2, 5])]),
  (32, [], [(1, .iconst 1, [0, 1]), (1, .ireturn, [1])]),
  (34, [0, 1, 2], [(1, .aload_n 0, []), (3, .getfield 14, [2, 2, 4, 298]), (3, .getfield 121, [2, 4, 1, 211]), (1, .iload_n 1, []), (1, .iaload, [0]), (1, .aload_n 0, []), (3, .getfield 14, [2, 2, 4, 298]), (3, .getfield 121, [2, 4, 1, 211]), (1, .iload_n 2, []), (1, .iaload, [0]), (3, .if_icmp .ge 7, [3]), (1, .iconst 1, [0, 1]), (3, .goto 4, [4])]),
  (59, [], [(1, .iconst 0, [0, 0]), (0, .nop, [4])]),
  (60, [], [(1, .ireturn, [1])]),
  (61, [0, 1, 2], [(1, .aload_n 0, []), (3, .getfield 14, [2, 2, 4, 298]), (3, .getfield 125, [2, 4, 2, 214]), (1, .iload_n 1, []), (1, .iaload, [0]), (1, .aload_n 0, []), (3, .getfield 14, [2, 2, 4, 298]), (3, .getfield 125, [2, 4, 2, 214]), (1, .iload_n 2, []), (1, .iaload, [0]), (3, .if_icmp .le 7, [6]), (1, .iconst 1, [0, 1]), (3, .goto 4, [7])]),
  (86, [], [(1, .iconst 0, [0, 0]), (0, .nop, [7])]),
  (87, [], [(1, .ireturn, [1])]),
  (88, [], [(1, .iconst 0, [0, 0]), (1, .ireturn, [1])])]
def bk_R_firstIndexOf : List jx_B := [
  (0, [0, 1], [(1, .aload_n 0, []), (3, .getfield 15, [2, 3, 10, 250]), (1, .aload_n 0, []), (3, .getfield 40, [0, 3, 11, 251]), (1, .iload_n 1, []), (1, .isub, []), (2, .bipush 7, [0, 7]), (1, .iand, []), (1, .iaload, [0]), (1, .ireturn, [0])])]
def bk_R_hexadecimal : List jx_B := [
  (0, [0], [(1, .iload_n 0, []), (2, .bipush 48, [0, 48]), (3, .if_icmp .lt 14, [1]), (1, .iload_n 0, []), (2, .bipush 57, [0, 57]), (3, .if_icmp .gt 8, [1]), (1, .iload_n 0, []), (2, .bipush 48, [0, 48]), (1, .isub, []), (1, .ireturn, [0])]),
  (17, [0], [(1, .iload_n 0, []), (2, .bipush 65, [0, 65]), (3, .if_icmp .lt 17, [2]), (1, .iload_n 0, []), (2, .bipush 70, [0, 70]), (3, .if_icmp .gt 11, [2]), (1, .iload_n 0, []), (2, .bipush 65, [0, 65]), (1, .isub, []), (2, .bipush 10, [0, 10]), (1, .iadd, []), (1, .ireturn, [0])]),
  (37, [0], [(1, .iload_n 0, []), (2, .bipush 97, [0, 97]), (3, .if_icmp .lt 19, [3]), (1, .iload_n 0, []), (2, .bipush 102, [0, 102]), (3, .if_icmp .gt 13, [3]), (1, .iload_n 0, []), (2, .bipush 97, [0, 97]), (1, .isub, []), (2, .bipush 10, [0, 10]), (1, .iadd, []), (3, .goto 4, [4])]),
  (59, [], [(1, .iconst (-1), [1, 1]), (0, .nop, [4])]),
  (60, [], [(1, .ireturn, [0])])]
def bk_R_isDropped : List jx_B := [
  (0, [0, 1], [(1, .aload_n 0, []), (3, .getfield 30, [0, 3, 3, 236]), (2, .bipush 8, [0, 8]), (1, .iand, []), (3, .ifCond .eq 17, [2]), (1, .iload_n 1, []), (2, .bipush 45, [0, 45]), (3, .if_icmp .eq 9, [1]), (1, .iload_n 1, []), (2, .bipush 46, [0, 46]), (3, .if_icmp .ne 5, [2]), (0, .nop, [1])]),
  (22, [], [(1, .iconst 1, [0, 1]), (1, .ireturn, [1])]),
  (24, [0, 1], [(1, .aload_n 0, []), (3, .getfield 30, [0, 3, 3, 236]), (1, .iconst 4, [0, 4]), (1, .iand, []), (3, .ifCond .eq 20, [3]), (1, .iload_n 1, []), (2, .bipush 32, [0, 32]), (3, .if_icmp .ne 14, [3]), (1, .aload_n 0, []), (3, .getfield 36, [0, 3, 6, 242]), (3, .ifCond .eq 7, [3]), (1, .iconst 1, [0, 1]), (3, .goto 4, [4])]),
  (50, [], [(1, .iconst 0, [0, 0]), (0, .nop, [4])]),
  (51, [], [(1, .ireturn, [1])])]
def bk_R_recentCharacter : List jx_B := [
  (0, [0, 1], [(1, .iload_n 1, []), (1, .aload_n 0, []), (3, .getfield 40, [0, 3, 11, 251]), (3, .if_icmp .ge 22, [1]), (1, .aload_n 0, []), (3, .getfield 9, [2, 3, 9, 249]), (1, .aload_n 0, []), (3, .getfield 40, [0, 3, 11, 251]), (1, .iconst 1, [0, 1]), (1, .isub, []), (1, .iload_n 1, []), (1, .isub, []), (2, .bipush 7, [0, 7]), (1, .iand, []), (1, .iaload, [0]), (3, .goto 5, [2])]),
  (27, [], [(2, .bipush (-9), [1, 9]), (0, .nop, [2])]),
  (29, [], [(1, .ireturn, [0])])]
def bk_R_restart : List jx_B := [
  (0, [0], [(1, .aload_n 0, []), (1, .iconst 0, [0, 0]), (3, .putfield 55, [0, 3, 7, 243]), (1, .aload_n 0, []), (1, .lconst 1, []), (3, .putfield 58, [1, 3, 8, 246]), (1, .return_, [])])]
def bk_Sg_covers : List jx_B := [
  (0, [0, 1, 2], [(1, .iload_n 1, []), (3, .ifCond .lt 42, [1]), (1, .iload_n 1, []), (1, .aload_n 0, []), (3, .getfield 9, [0, 4, 0, 207]), (3, .if_icmp .ge 34, [1]), (1, .iload_n 2, []), (1, .aload_n 0, []), (3, .getfield 15, [2, 4, 1, 210]), (1, .iload_n 1, []), (1, .iaload, [0]), (3, .if_icmp .lt 24, [1]), (1, .iload_n 2, []), (1, .aload_n 0, []), (3, .getfield 15, [2, 4, 1, 210]), (1, .iload_n 1, []), (1, .iaload, [0]), (1, .aload_n 0, []), (3, .getfield 19, [2, 4, 2, 213]), (1, .iload_n 1, []), (1, .iaload, [0]), (1, .iadd, []), (3, .if_icmp .ge 7, [1]), (1, .iconst 1, [0, 1]), (3, .goto 4, [2])]),
  (43, [], [(1, .iconst 0, [0, 0]), (0, .nop, [2])]),
  (44, [], [(1, .ireturn, [1])])]
def bk_Sg_isFull : List jx_B := [
  (0, [0], [(1, .aload_n 0, []), (3, .getfield 9, [0, 4, 0, 207]), (1, .aload_n 0, []), (3, .getfield 15, [2, 4, 1, 210]), (1, .arraylength, [0]), (3, .if_icmp .lt 7, [1]), (1, .iconst 1, [0, 1]), (3, .goto 4, [2])]),
  (16, [], [(1, .iconst 0, [0, 0]), (0, .nop, [2])]),
  (17, [], [(1, .ireturn, [1])])]
def bk_St_movedToEnd : List jx_B := [
  (0, [0, 1], [(1, .aload_n 0, []), (3, .getfield 24, [2, 5, 3, 340]), (1, .iload_n 1, []), (1, .aaload, [2]), (1, .astore_n 2, []), (1, .iload_n 1, []), (1, .istore_n 3, []), (1, .iload_n 1, []), (1, .iconst 1, [0, 1]), (1, .iadd, []), (2, .istore 4, []), (0, .nop, [1])]),
  (14, [0, 2, 3, 4], [(2, .iload 4, []), (1, .aload_n 0, []), (3, .getfield 28, [0, 5, 4, 342]), (3, .if_icmp .ge 34, [2]), (2, .iload 4, []), (1, .iconst 4, [0, 4]), (3, .if_icmp .ge 28, [2]), (1, .aload_n 0, []), (3, .getfield 24, [2, 5, 3, 340]), (2, .iload 4, []), (1, .iconst 1, [0, 1]), (1, .isub, []), (1, .aload_n 0, []), (3, .getfield 24, [2, 5, 3, 340]), (2, .iload 4, []), (1, .aaload, [2]), (1, .aastore, [2]), (2, .iload 4, []), (1, .istore_n 3, []), (3, .iinc 4 1, [0, 1]), (3, .goto (-37), [1])]),
  (54, [0, 2, 3], [(1, .aload_n 0, []), (3, .getfield 24, [2, 5, 3, 340]), (1, .iload_n 3, []), (1, .aload_n 2, []), (1, .aastore, [2]), (1, .aload_n 2, []), (1, .areturn, [])])]
def bk_St_placeOf : List jx_B := [
  (0, [0, 1], [(1, .iconst 0, [0, 0]), (1, .istore_n 2, []), (0, .nop, [1])]),
  (2, [0, 1, 2], [(1, .iload_n 2, []), (1, .aload_n 0, []), (3, .getfield 28, [0, 5, 4, 342]), (3, .if_icmp .ge 29, [3]), (1, .iload_n 2, []), (1, .iconst 4, [0, 4]), (3, .if_icmp .ge 24, [3]), (1, .aload_n 0, []), (3, .getfield 24, [2, 5, 3, 340]), (1, .iload_n 2, []), (1, .aaload, [2]), (3, .getfield 60, [0, 2, 0, 291]), (1, .iload_n 1, []), (3, .if_icmp .ne 5, [2]), (1, .iload_n 2, []), (1, .ireturn, [0])]),
  (30, [0, 1, 2], [(3, .iinc 2 1, [0, 1]), (3, .goto (-31), [1])]),
  (36, [], [(1, .iconst (-1), [1, 1]), (1, .ireturn, [0])])]
def bk_Wo_isDefined : List jx_B := [
  (0, [0, 1], [(1, .aload_n 0, []), (3, .getfield 9, [2, 6, 0, 186]), (1, .iload_n 1, []), (1, .iaload, [0]), (3, .ifCond .le 7, [1]), (1, .iconst 1, [0, 1]), (3, .goto 4, [2])]),
  (13, [], [(1, .iconst 0, [0, 0]), (0, .nop, [2])]),
  (14, [], [(1, .ireturn, [1])])]
def bk_Wo_letterAt : List jx_B := [
  (0, [0, 1, 2], [(1, .iload_n 2, []), (1, .aload_n 0, []), (3, .getfield 9, [2, 6, 0, 186]), (1, .iload_n 1, []), (1, .iaload, [0]), (3, .if_icmp .ge 17, [1]), (1, .aload_n 0, []), (3, .getfield 15, [2, 6, 1, 188]), (1, .iload_n 1, []), (2, .bipush 8, [0, 8]), (1, .imul, []), (1, .iload_n 2, []), (1, .iadd, []), (1, .baload, []), (3, .goto 5, [2])]),
  (24, [], [(2, .bipush (-9), [1, 9]), (0, .nop, [2])]),
  (26, [], [(1, .ireturn, [0])])]
def bk_Wo_remove : List jx_B := [
  (0, [0, 1], [(1, .aload_n 0, []), (3, .getfield 9, [2, 6, 0, 186]), (1, .iload_n 1, []), (1, .iconst 0, [0, 0]), (1, .iastore, []), (1, .return_, [])])]
def bk_M_adds : List jx_B := [
  (0, [0, 1, 2], [(1, .aload_n 0, []), (3, .getfield 7, [2, 8, 0, 855]), (1, .aload_n 0, []), (3, .getfield 109, [0, 8, 12, 867]), (1, .iload_n 1, []), (1, .iadd, []), (1, .dup2, []), (1, .iaload, [0]), (1, .iload_n 2, []), (1, .iadd, []), (1, .iastore, []), (1, .return_, [])])]
def bk_M_clear : List jx_B := [
  (0, [0], [(1, .aload_n 0, []), (3, .getfield 89, [0, 8, 3, 858]), (1, .istore_n 1, []), (1, .aload_n 0, []), (1, .iconst 0, [0, 0]), (3, .putfield 89, [0, 8, 3, 858]), (1, .iload_n 1, []), (1, .ireturn, [0])])]
def bk_M_copies : List jx_B := [
  (0, [0, 1, 2], [(1, .iconst 0, [0, 0]), (1, .istore_n 3, []), (0, .nop, [1])]),
  (2, [0, 1, 2, 3], [(1, .iload_n 3, []), (3, .sipush 3736, [0, 3736]), (3, .if_icmp .ge 33, [2]), (1, .aload_n 0, []), (3, .getfield 7, [2, 8, 0, 855]), (3, .sipush 3736, [0, 3736]), (1, .iload_n 2, []), (1, .imul, []), (1, .iload_n 3, []), (1, .iadd, []), (1, .aload_n 0, []), (3, .getfield 7, [2, 8, 0, 855]), (3, .sipush 3736, [0, 3736]), (1, .iload_n 1, []), (1, .imul, []), (1, .iload_n 3, []), (1, .iadd, []), (1, .iaload, [0]), (1, .iastore, []), (3, .iinc 3 1, [0, 1]), (3, .goto (-34), [1])]),
  (39, [], [(1, .return_, [])])]
def bk_M_freeSlot : List jx_B := [
  (0, [0], [(1, .iconst 0, [0, 0]), (1, .istore_n 1, []), (1, .iconst 1, [0, 1]), (1, .istore_n 2, []), (0, .nop, [1])]),
  (4, [0, 1, 2], [(1, .iload_n 2, []), (3, .ifCond .eq 62, [9]), (1, .iconst 0, [0, 0]), (1, .istore_n 2, []), (1, .iconst 0, [0, 0]), (1, .istore_n 3, []), (0, .nop, [2])]),
  (12, [0, 1, 2, 3], [(1, .iload_n 3, []), (1, .aload_n 0, []), (3, .getfield 7, [2, 8, 0, 855]), (2, .bipush 57, [0, 57]), (1, .iaload, [0]), (3, .if_icmp .ge 32, [6]), (1, .iload_n 2, []), (3, .ifCond .ne 16, [3]), (1, .aload_n 0, []), (3, .getfield 7, [2, 8, 0, 855]), (2, .bipush 58, [0, 58]), (1, .iload_n 3, []), (1, .iadd, []), (1, .iaload, [0]), (1, .iload_n 1, []), (3, .if_icmp .ne 7, [4]), (0, .nop, [3])]),
  (40, [0, 1, 3], [(1, .iconst 1, [0, 1]), (3, .goto 4, [5])]),
  (44, [0, 1, 3], [(1, .iconst 0, [0, 0]), (0, .nop, [5])]),
  (45, [0, 1, 3], [(1, .istore_n 2, []), (3, .iinc 3 1, [0, 1]), (3, .goto (-37), [2])]),
  (52, [0, 1, 2], [(1, .iload_n 1, []), (1, .iload_n 2, []), (3, .ifCond .eq 7, [7]), (1, .iconst 1, [0, 1]), (3, .goto 4, [8])]),
  (61, [0, 2], [(1, .iconst 0, [0, 0]), (0, .nop, [8])]),
  (62, [0, 2], [(1, .iadd, []), (1, .istore_n 1, []), (3, .goto (-60), [1])]),
  (67, [1], [(1, .iload_n 1, []), (1, .ireturn, [0])])]
def bk_M_highOf : List jx_B := [
  (0, [0], [(1, .iload_n 0, []), (2, .bipush 25, [0, 25]), (3, .if_icmp .ge 7, [1]), (1, .iconst 0, [0, 0]), (3, .goto 9, [2])]),
  (10, [0], [(1, .iconst 1, [0, 1]), (1, .iload_n 0, []), (2, .bipush 25, [0, 25]), (1, .isub, []), (1, .ishl, []), (0, .nop, [2])]),
  (16, [], [(1, .ireturn, [0])])]
def bk_M_in : List jx_B := [
  (0, [0, 1, 2], [(1, .iload_n 0, []), (1, .iload_n 1, []), (3, .if_icmp .lt 12, [1]), (1, .iload_n 0, []), (1, .iload_n 2, []), (3, .if_icmp .gt 7, [1]), (1, .iconst 1, [0, 1]), (3, .goto 4, [2])]),
  (14, [], [(1, .iconst 0, [0, 0]), (0, .nop, [2])]),
  (15, [], [(1, .ireturn, [1])])]
def bk_M_leaves : List jx_B := [
  (0, [0, 1], [(1, .iload_n 1, []), (1, .istore_n 2, []), (0, .nop, [1])]),
  (2, [0, 2], [(1, .iload_n 2, []), (1, .iconst 1, [0, 1]), (1, .iadd, []), (1, .aload_n 0, []), (3, .getfield 7, [2, 8, 0, 855]), (2, .bipush 57, [0, 57]), (1, .iaload, [0]), (3, .if_icmp .ge 29, [2]), (1, .aload_n 0, []), (3, .getfield 7, [2, 8, 0, 855]), (2, .bipush 58, [0, 58]), (1, .iload_n 2, []), (1, .iadd, []), (1, .aload_n 0, []), (3, .getfield 7, [2, 8, 0, 855]), (2, .bipush 58, [0, 58]), (1, .iload_n 2, []), (1, .iadd, []), (1, .iconst 1, [0, 1]), (1, .iadd, []), (1, .iaload, [0]), (1, .iastore, []), (3, .iinc 2 1, [0, 1]), (3, .goto (-36), [1])]),
  (41, [0], [(1, .aload_n 0, []), (3, .getfield 7, [2, 8, 0, 855]), (2, .bipush 57, [0, 57]), (1, .dup2, []), (1, .iaload, [0]), (1, .iconst 1, [0, 1]), (1, .isub, []), (1, .iastore, []), (1, .return_, [])])]
def bk_M_letterOf : List jx_B := [
  (0, [0, 1, 2], [(1, .aload_n 0, []), (3, .getfield 7, [2, 8, 0, 855]), (2, .bipush 9, [0, 9]), (1, .iload_n 1, []), (1, .imul, []), (1, .iconst 1, [0, 1]), (1, .iadd, []), (1, .iload_n 2, []), (1, .iadd, []), (1, .iaload, [0]), (1, .ireturn, [0])])]
def bk_M_lowOf : List jx_B := [
  (0, [0], [(1, .iload_n 0, []), (2, .bipush 25, [0, 25]), (3, .if_icmp .ge 9, [1]), (1, .iconst 1, [0, 1]), (1, .iload_n 0, []), (1, .ishl, []), (3, .goto 4, [2])]),
  (12, [], [(1, .iconst 0, [0, 0]), (0, .nop, [2])]),
  (13, [], [(1, .ireturn, [0])])]
def bk_M_nodeOf : List jx_B := [
  (0, [0, 1, 2], [(1, .iconst 0, [0, 0]), (1, .istore_n 3, []), (0, .nop, [1])]),
  (2, [0, 1, 2, 3], [(1, .iload_n 3, []), (1, .aload_n 0, []), (3, .getfield 54, [0, 8, 4, 859]), (3, .if_icmp .ge 84, [9]), (1, .aload_n 0, []), (3, .getfield 16, [2, 8, 5, 860]), (1, .iload_n 3, []), (1, .iaload, [0]), (1, .iload_n 2, []), (3, .if_icmp .ne 7, [2]), (1, .iconst 1, [0, 1]), (3, .goto 4, [3])]),
  (24, [0, 1, 2, 3], [(1, .iconst 0, [0, 0]), (0, .nop, [3])]),
  (25, [0, 1, 2, 3], [(2, .istore 4, []), (1, .iconst 0, [0, 0]), (2, .istore 5, []), (0, .nop, [4])]),
  (30, [0, 1, 2, 3, 4, 5], [(2, .iload 5, []), (1, .iload_n 2, []), (3, .if_icmp .ge 45, [7]), (2, .iload 4, []), (3, .ifCond .eq 40, [7]), (1, .aload_n 0, []), (3, .getfield 19, [2, 8, 6, 861]), (2, .bipush 8, [0, 8]), (1, .iload_n 3, []), (1, .imul, []), (2, .iload 5, []), (1, .iadd, []), (1, .iaload, [0]), (1, .aload_n 0, []), (3, .getfield 34, [2, 8, 11, 866]), (1, .iload_n 1, []), (2, .iload 5, []), (1, .iadd, []), (1, .iaload, [0]), (3, .if_icmp .ne 7, [5]), (1, .iconst 1, [0, 1]), (3, .goto 4, [6])]),
  (69, [0, 1, 2, 3, 5], [(1, .iconst 0, [0, 0]), (0, .nop, [6])]),
  (70, [0, 1, 2, 3, 5], [(2, .istore 4, []), (3, .iinc 5 1, [0, 1]), (3, .goto (-45), [4])]),
  (78, [0, 1, 2, 3, 4], [(2, .iload 4, []), (3, .ifCond .eq 5, [8]), (1, .iload_n 3, []), (1, .ireturn, [0])]),
  (85, [0, 1, 2, 3], [(3, .iinc 3 1, [0, 1]), (3, .goto (-86), [1])]),
  (91, [], [(2, .bipush (-9), [1, 9]), (1, .ireturn, [0])])]
def bk_M_of : List jx_B := [
  (0, [0, 1], [(1, .aload_n 0, []), (3, .getfield 7, [2, 8, 0, 855]), (1, .aload_n 0, []), (3, .getfield 109, [0, 8, 12, 867]), (1, .iload_n 1, []), (1, .iadd, []), (1, .iaload, [0]), (1, .ireturn, [0])])]
def bk_M_order : List jx_B := [
  (0, [0, 1, 2], [(1, .iconst 0, [0, 0]), (1, .istore_n 3, []), (0, .nop, [1])]),
  (2, [0, 1, 2, 3], [(1, .iload_n 3, []), (1, .iload_n 2, []), (3, .if_icmp .ge 37, [3]), (1, .aload_n 0, []), (3, .getfield 19, [2, 8, 6, 861]), (2, .bipush 8, [0, 8]), (1, .iload_n 1, []), (1, .imul, []), (1, .iload_n 3, []), (1, .iadd, []), (1, .iaload, [0]), (1, .aload_n 0, []), (3, .getfield 34, [2, 8, 11, 866]), (1, .iload_n 3, []), (1, .iaload, [0]), (1, .isub, []), (2, .istore 4, []), (2, .iload 4, []), (3, .ifCond .eq 6, [2]), (2, .iload 4, []), (1, .ireturn, [0])]),
  (35, [0, 1, 2, 3], [(3, .iinc 3 1, [0, 1]), (3, .goto (-36), [1])]),
  (41, [], [(1, .iconst 0, [0, 0]), (1, .ireturn, [0])])]
def bk_M_pieceAt : List jx_B := [
  (0, [0, 1], [(1, .aload_n 0, []), (3, .getfield 109, [0, 8, 12, 867]), (2, .bipush 38, [0, 38]), (1, .iadd, []), (2, .bipush 42, [0, 42]), (1, .iload_n 1, []), (1, .imul, []), (1, .iadd, []), (1, .ireturn, [0])])]
def bk_M_put : List jx_B := [
  (0, [0, 1, 2], [(1, .aload_n 0, []), (3, .getfield 7, [2, 8, 0, 855]), (1, .aload_n 0, []), (3, .getfield 109, [0, 8, 12, 867]), (1, .iload_n 1, []), (1, .iadd, []), (1, .iload_n 2, []), (1, .iastore, []), (1, .return_, [])])]
def bk_M_slot : List jx_B := [
  (0, [0, 1], [(3, .sipush 186, [0, 186]), (3, .sipush 710, [0, 710]), (1, .aload_n 0, []), (3, .getfield 7, [2, 8, 0, 855]), (2, .bipush 58, [0, 58]), (1, .iload_n 1, []), (1, .iadd, []), (1, .iaload, [0]), (1, .imul, []), (1, .iadd, []), (1, .ireturn, [0])])]
def bk_M_takes : List jx_B := [
  (0, [0, 1], [(1, .iconst 0, [0, 0]), (1, .istore_n 2, []), (0, .nop, [1])]),
  (2, [0, 1, 2], [(1, .iload_n 2, []), (1, .aload_n 0, []), (3, .getfield 16, [2, 8, 5, 860]), (1, .iload_n 1, []), (1, .iaload, [0]), (3, .if_icmp .ge 26, [2]), (1, .aload_n 0, []), (3, .getfield 34, [2, 8, 11, 866]), (1, .iload_n 2, []), (1, .aload_n 0, []), (3, .getfield 19, [2, 8, 6, 861]), (2, .bipush 8, [0, 8]), (1, .iload_n 1, []), (1, .imul, []), (1, .iload_n 2, []), (1, .iadd, []), (1, .iaload, [0]), (1, .iastore, []), (3, .iinc 2 1, [0, 1]), (3, .goto (-30), [1])]),
  (35, [], [(1, .return_, [])])]
def bk_M_wordLength : List jx_B := [
  (0, [0, 1], [(1, .aload_n 0, []), (3, .getfield 7, [2, 8, 0, 855]), (2, .bipush 9, [0, 9]), (1, .iload_n 1, []), (1, .imul, []), (1, .iaload, [0]), (1, .ireturn, [0])])]
def bk_JI_bitCount : List jx_B := [
  (0, [0], [(1, .iload_n 0, []), (1, .iload_n 0, []), (1, .iconst 1, [0, 1]), (1, .iushr, []), (3, .ldc_w 265, [1431655765, 655]), (1, .iand, []), (1, .isub, []), (1, .istore_n 0, []), (1, .iload_n 0, []), (3, .ldc_w 266, [858993459, 656]), (1, .iand, []), (1, .iload_n 0, []), (1, .iconst 2, [0, 2]), (1, .iushr, []), (3, .ldc_w 266, [858993459, 656]), (1, .iand, []), (1, .iadd, []), (1, .istore_n 0, []), (1, .iload_n 0, []), (1, .iload_n 0, []), (1, .iconst 4, [0, 4]), (1, .iushr, []), (1, .iadd, []), (3, .ldc_w 267, [252645135, 657]), (1, .iand, []), (1, .istore_n 0, []), (1, .iload_n 0, []), (1, .iload_n 0, []), (2, .bipush 8, [0, 8]), (1, .iushr, []), (1, .iadd, []), (1, .istore_n 0, []), (1, .iload_n 0, []), (1, .iload_n 0, []), (2, .bipush 16, [0, 16]), (1, .iushr, []), (1, .iadd, []), (1, .istore_n 0, []), (1, .iload_n 0, []), (2, .bipush 63, [0, 63]), (1, .iand, []), (1, .ireturn, [0])])]
def bk_JL_bitCount : List jx_B := [
  (0, [0], [(1, .lload_n 0, []), (1, .lload_n 0, []), (1, .iconst 1, [0, 1]), (1, .lushr, []), (3, .ldc2_w 314, [0, 6148914691236517205, 727]), (1, .land, []), (1, .lsub, []), (1, .lstore_n 0, []), (1, .lload_n 0, []), (3, .ldc2_w 316, [0, 3689348814741910323, 728]), (1, .land, []), (1, .lload_n 0, []), (1, .iconst 2, [0, 2]), (1, .lushr, []), (3, .ldc2_w 316, [0, 3689348814741910323, 728]), (1, .land, []), (1, .ladd, []), (1, .lstore_n 0, []), (1, .lload_n 0, []), (1, .lload_n 0, []), (1, .iconst 4, [0, 4]), (1, .lushr, []), (1, .ladd, []), (3, .ldc2_w 318, [0, 1085102592571150095, 729]), (1, .land, []), (1, .lstore_n 0, []), (1, .lload_n 0, []), (1, .lload_n 0, []), (2, .bipush 8, [0, 8]), (1, .lushr, []), (1, .ladd, []), (1, .lstore_n 0, []), (1, .lload_n 0, []), (1, .lload_n 0, []), (2, .bipush 16, [0, 16]), (1, .lushr, []), (1, .ladd, []), (1, .lstore_n 0, []), (1, .lload_n 0, []), (1, .lload_n 0, []), (2, .bipush 32, [0, 32]), (1, .lushr, []), (1, .ladd, []), (1, .lstore_n 0, []), (1, .lload_n 0, []), (1, .l2i, []), (2, .bipush 127, [0, 127]), (1, .iand, []), (1, .ireturn, [0])])]
def bk_JA_fill : List jx_B := [
  (0, [0, 1], [(1, .iconst 0, [0, 0]), (1, .istore_n 2, []), (1, .aload_n 0, []), (1, .arraylength, [0]), (1, .istore_n 3, []), (0, .nop, [1])]),
  (5, [0, 1, 2, 3], [(1, .iload_n 2, []), (1, .iload_n 3, []), (3, .if_icmp .ge 13, [2]), (1, .aload_n 0, []), (1, .iload_n 2, []), (1, .iload_n 1, []), (1, .iastore, []), (3, .iinc 2 1, [0, 1]), (3, .goto (-12), [1])]),
  (20, [], [(1, .return_, [])])]
def bk_T_find : List jx_B := [
  (0, [0, 1, 2], [(1, .iload_n 1, []), (3, .ifCond .lt 12, [1]), (1, .iload_n 2, []), (3, .ifCond .lt 8, [1]), (1, .iload_n 2, []), (1, .iconst 4, [0, 4]), (3, .if_icmp .lt 5, [2]), (0, .nop, [1])]),
  (13, [], [(1, .iconst (-1), [1, 1]), (1, .ireturn, [0])]),
  (15, [0, 1, 2], [(1, .aload_n 0, []), (3, .getfield 32, [2, 7, 3, 365]), (3, .getfield 136, [2, 5, 2, 339]), (1, .iload_n 1, []), (1, .iload_n 2, []), (3, .invokevirtual 180, [0, 1, 15, 3, 1, 756]), (1, .ireturn, [0])])]
def bk_T_firstWrongByte : List jx_B := [
  (0, [0], [(1, .aload_n 0, []), (3, .getfield 13, [0, 7, 1, 363]), (3, .ifCond .ne 5, [1]), (1, .iconst 0, [0, 0]), (1, .ireturn, [0])]),
  (9, [0], [(1, .iconst 0, [0, 0]), (1, .istore_n 1, []), (0, .nop, [2])]),
  (11, [0, 1], [(1, .iload_n 1, []), (1, .aload_n 0, []), (3, .getfield 13, [0, 7, 1, 363]), (3, .if_icmp .ge 35, [5]), (1, .iload_n 1, []), (2, .bipush 40, [0, 40]), (3, .if_icmp .ge 29, [5]), (1, .iload_n 1, []), (2, .bipush 8, [0, 8]), (3, .if_icmp .ge 15, [3]), (1, .aload_n 0, []), (3, .getfield 9, [2, 7, 0, 362]), (1, .iload_n 1, []), (1, .baload, []), (3, .invokestatic 235, [0, 4, 1, 1, 406]), (3, .ifCond .ne 5, [4]), (0, .nop, [3])]),
  (43, [1], [(1, .iload_n 1, []), (1, .ireturn, [0])]),
  (45, [0, 1], [(3, .iinc 1 1, [0, 1]), (3, .goto (-37), [2])]),
  (51, [], [(1, .iconst (-1), [1, 1]), (1, .ireturn, [0])])]
def bk_T_letter : List jx_B := [
  (0, [0, 1, 2], [(1, .iload_n 1, []), (3, .invokestatic 53, [0, 5, 1, 1, 399]), (3, .ifCond .eq 7, [1]), (1, .iload_n 2, []), (3, .ifCond .ge 5, [2]), (0, .nop, [1])]),
  (11, [], [(1, .iconst (-1), [1, 1]), (1, .ireturn, [0])]),
  (13, [0, 1, 2], [(1, .aload_n 0, []), (3, .getfield 32, [2, 7, 3, 365]), (3, .getfield 64, [2, 5, 0, 335]), (1, .iload_n 1, []), (3, .invokevirtual 80, [0, 6, 26, 2, 1, 511]), (3, .ifCond .eq 18, [3]), (1, .aload_n 0, []), (3, .getfield 32, [2, 7, 3, 365]), (3, .getfield 64, [2, 5, 0, 335]), (1, .iload_n 1, []), (1, .iload_n 2, []), (3, .invokevirtual 87, [0, 6, 27, 3, 1, 523]), (3, .goto 5, [4])]),
  (42, [], [(2, .bipush (-2), [1, 2]), (0, .nop, [4])]),
  (44, [], [(1, .ireturn, [0])])]
def bk_T_next : List jx_B := [
  (0, [0, 1, 2], [(1, .aload_n 0, []), (3, .getfield 20, [2, 7, 2, 364]), (1, .iload_n 1, []), (3, .invokevirtual 91, [0, 0, 8, 2, 1, 528]), (3, .ifCond .eq 13, [1]), (1, .iload_n 2, []), (3, .ifCond .lt 9, [1]), (1, .iload_n 2, []), (2, .bipush 26, [0, 26]), (3, .if_icmp .lt 5, [2]), (0, .nop, [1])]),
  (21, [], [(1, .iconst (-1), [1, 1]), (1, .ireturn, [0])]),
  (23, [0, 1, 2], [(1, .aload_n 0, []), (3, .getfield 20, [2, 7, 2, 364]), (1, .iload_n 1, []), (1, .iload_n 2, []), (3, .invokevirtual 110, [0, 0, 9, 3, 1, 536]), (1, .ireturn, [0])])]
def bk_T_node : List jx_B := [
  (0, [0, 1, 2], [(1, .aload_n 0, []), (3, .getfield 20, [2, 7, 2, 364]), (1, .iload_n 1, []), (3, .invokevirtual 91, [0, 0, 8, 2, 1, 528]), (3, .ifCond .eq 12, [1]), (1, .iload_n 2, []), (3, .ifCond .lt 8, [1]), (1, .iload_n 2, []), (1, .iconst 5, [0, 5]), (3, .if_icmp .lt 5, [2]), (0, .nop, [1])]),
  (20, [], [(1, .iconst (-1), [1, 1]), (1, .ireturn, [0])]),
  (22, [0, 1, 2], [(1, .iload_n 1, []), (3, .ifCond .ne 16, [3]), (1, .iload_n 2, []), (1, .iconst 1, [0, 1]), (3, .if_icmp .lt 11, [3]), (1, .iload_n 2, []), (1, .iconst 3, [0, 3]), (3, .if_icmp .gt 6, [3]), (2, .bipush (-9), [1, 9]), (1, .ireturn, [0])]),
  (39, [0, 1, 2], [(1, .iload_n 2, []), (32, .tableswitch 72 0 3 #[32, 42, 52, 62], [8, 4, 5, 6, 7])]),
  (72, [0, 1], [(1, .aload_n 0, []), (3, .getfield 20, [2, 7, 2, 364]), (3, .getfield 94, [2, 0, 1, 106]), (1, .iload_n 1, []), (1, .iaload, [0]), (1, .ireturn, [0])]),
  (82, [0, 1], [(1, .aload_n 0, []), (3, .getfield 20, [2, 7, 2, 364]), (3, .getfield 98, [2, 0, 2, 108]), (1, .iload_n 1, []), (1, .iaload, [0]), (1, .ireturn, [0])]),
  (92, [0, 1], [(1, .aload_n 0, []), (3, .getfield 20, [2, 7, 2, 364]), (3, .getfield 101, [2, 0, 3, 110]), (1, .iload_n 1, []), (1, .iaload, [0]), (1, .ireturn, [0])]),
  (102, [0, 1], [(1, .aload_n 0, []), (3, .getfield 20, [2, 7, 2, 364]), (3, .getfield 104, [2, 0, 4, 112]), (1, .iload_n 1, []), (1, .iaload, [0]), (1, .ireturn, [0])]),
  (112, [0, 1], [(1, .aload_n 0, []), (3, .getfield 20, [2, 7, 2, 364]), (3, .getfield 107, [2, 0, 5, 114]), (1, .iload_n 1, []), (1, .iaload, [0]), (1, .ireturn, [0])])]
def bk_T_possible : List jx_B := [
  (0, [0, 1], [(1, .iload_n 1, []), (3, .invokestatic 129, [0, 3, 1, 1, 553]), (3, .ifCond .ne 7, [1]), (3, .ldc2_w 163, [1, 1, 742]), (1, .lreturn, [])]),
  (11, [0, 1], [(1, .aload_n 0, []), (3, .getfield 32, [2, 7, 3, 365]), (1, .iload_n 1, []), (3, .invokevirtual 132, [0, 5, 25, 2, 1, 556]), (1, .istore_n 2, []), (1, .iload_n 2, []), (1, .iconst (-1), [1, 1]), (3, .if_icmp .ne 9, [2]), (3, .ldc2_w 165, [1, 2, 743]), (3, .goto 18, [3])]),
  (31, [0, 2], [(1, .aload_n 0, []), (3, .getfield 32, [2, 7, 3, 365]), (3, .getfield 143, [2, 5, 3, 341]), (1, .iload_n 2, []), (1, .aaload, [2]), (3, .getfield 167, [2, 2, 6, 303]), (3, .getfield 171, [1, 3, 8, 248]), (0, .nop, [3])]),
  (46, [], [(1, .lreturn, [])])]
def bk_T_read : List jx_B := [
  (0, [0, 1, 2], [(1, .iload_n 1, []), (3, .invokestatic 129, [0, 3, 1, 1, 553]), (3, .ifCond .eq 13, [1]), (1, .iload_n 2, []), (3, .ifCond .lt 9, [1]), (1, .iload_n 2, []), (2, .bipush 8, [0, 8]), (3, .if_icmp .lt 5, [2]), (0, .nop, [1])]),
  (17, [], [(1, .iconst (-1), [1, 1]), (1, .ireturn, [0])]),
  (19, [0, 1, 2], [(1, .aload_n 0, []), (3, .getfield 32, [2, 7, 3, 365]), (1, .iload_n 1, []), (3, .invokevirtual 132, [0, 5, 25, 2, 1, 556]), (1, .istore_n 3, []), (1, .iload_n 3, []), (1, .iconst (-1), [1, 1]), (3, .if_icmp .ne 8, [3]), (2, .bipush (-2), [1, 2]), (3, .goto 19, [4])]),
  (38, [0, 2, 3], [(1, .aload_n 0, []), (3, .getfield 32, [2, 7, 3, 365]), (3, .getfield 143, [2, 5, 3, 341]), (1, .iload_n 3, []), (1, .aaload, [2]), (3, .getfield 167, [2, 2, 6, 303]), (1, .iload_n 2, []), (3, .invokevirtual 177, [0, 3, 20, 2, 1, 748]), (0, .nop, [4])]),
  (54, [], [(1, .ireturn, [0])])]
def bk_T_segmentError : List jx_B := [
  (0, [0, 1, 2], [(1, .iload_n 1, []), (3, .invokestatic 129, [0, 3, 1, 1, 553]), (3, .ifCond .eq 14, [1]), (1, .iload_n 2, []), (3, .ifCond .lt 10, [1]), (1, .iload_n 2, []), (3, .sipush 1000, [0, 1000]), (3, .if_icmp .lt 5, [2]), (0, .nop, [1])]),
  (18, [], [(1, .iconst (-1), [1, 1]), (1, .ireturn, [0])]),
  (20, [0, 1], [(1, .aload_n 0, []), (3, .getfield 13, [0, 7, 1, 363]), (3, .ifCond .ne 6, [3]), (2, .bipush (-2), [1, 2]), (1, .ireturn, [0])]),
  (30, [0, 1], [(1, .aload_n 0, []), (3, .getfield 32, [2, 7, 3, 365]), (1, .iload_n 1, []), (3, .invokevirtual 132, [0, 5, 25, 2, 1, 556]), (1, .istore_n 3, []), (1, .iload_n 3, []), (1, .iconst (-1), [1, 1]), (3, .if_icmp .eq 26, [4]), (1, .aload_n 0, []), (3, .getfield 32, [2, 7, 3, 365]), (3, .getfield 143, [2, 5, 3, 341]), (1, .iload_n 3, []), (1, .aaload, [2]), (3, .getfield 241, [2, 2, 4, 299]), (3, .invokevirtual 245, [0, 4, 23, 1, 1, 560]), (3, .ifCond .eq 8, [4]), (2, .bipush (-3), [1, 3]), (3, .goto 4, [5])]),
  (67, [], [(1, .iconst 0, [0, 0]), (0, .nop, [5])]),
  (68, [], [(1, .ireturn, [0])])]
def bk_A_init : List jx_B := [
  (0, [0], [(1, .aload_n 0, []), (3, .invokespecial 3, [2, 102, 95, 96]), (1, .aload_n 0, []), (1, .iconst 1, [0, 1]), (3, .putfield 9, [0, 0, 0, 103]), (0, .nop, [1])]),
  (9, [0], [(1, .aload_n 0, []), (2, .bipush 49, [0, 49]), (2, .newarray .int, [139]), (3, .putfield 15, [2, 0, 1, 105]), (0, .nop, [2])]),
  (17, [0], [(1, .aload_n 0, []), (2, .bipush 49, [0, 49]), (2, .newarray .int, [139]), (3, .putfield 19, [2, 0, 2, 107]), (0, .nop, [3])]),
  (25, [0], [(1, .aload_n 0, []), (2, .bipush 49, [0, 49]), (2, .newarray .int, [139]), (3, .putfield 22, [2, 0, 3, 109]), (0, .nop, [4])]),
  (33, [0], [(1, .aload_n 0, []), (2, .bipush 49, [0, 49]), (2, .newarray .int, [139]), (3, .putfield 25, [2, 0, 4, 111]), (0, .nop, [5])]),
  (41, [0], [(1, .aload_n 0, []), (2, .bipush 49, [0, 49]), (2, .newarray .int, [139]), (3, .putfield 28, [2, 0, 5, 113]), (0, .nop, [6])]),
  (49, [0], [(1, .aload_n 0, []), (2, .bipush 6, [0, 6]), (2, .newarray .int, [139]), (3, .putfield 31, [2, 0, 6, 115]), (0, .nop, [7])]),
  (57, [0], [(1, .aload_n 0, []), (3, .sipush 1274, [0, 1274]), (2, .newarray .int, [139]), (3, .putfield 34, [2, 0, 7, 117]), (0, .nop, [8])]),
  (66, [0], [(1, .aload_n 0, []), (2, .bipush 6, [0, 6]), (2, .newarray .int, [139]), (3, .putfield 37, [2, 0, 8, 118]), (0, .nop, [9])]),
  (74, [], [(1, .return_, [])])]
def bk_A_added : List jx_B := [
  (0, [0, 1, 2, 3], [(1, .aload_n 0, []), (3, .getfield 9, [0, 0, 0, 103]), (2, .bipush 48, [0, 48]), (3, .invokestatic 65, [4, 490, 465, 85, 466]), (2, .istore 4, []), (1, .aload_n 0, []), (3, .getfield 15, [2, 0, 1, 105]), (2, .iload 4, []), (1, .iload_n 3, []), (1, .iastore, []), (1, .aload_n 0, []), (3, .getfield 19, [2, 0, 2, 107]), (2, .iload 4, []), (1, .iload_n 1, []), (1, .iastore, []), (1, .aload_n 0, []), (3, .getfield 22, [2, 0, 3, 109]), (2, .iload 4, []), (1, .iload_n 2, []), (1, .iastore, []), (1, .aload_n 0, []), (3, .getfield 28, [2, 0, 5, 113]), (2, .iload 4, []), (1, .iconst 0, [0, 0]), (1, .iastore, []), (1, .aload_n 0, []), (3, .getfield 34, [2, 0, 7, 117]), (1, .iload_n 1, []), (2, .bipush 26, [0, 26]), (1, .imul, []), (1, .iload_n 2, []), (1, .iadd, []), (2, .iload 4, []), (1, .iastore, []), (1, .aload_n 0, []), (2, .iload 4, []), (1, .iconst 1, [0, 1]), (1, .iadd, []), (3, .putfield 9, [0, 0, 0, 103]), (2, .iload 4, []), (1, .ireturn, [0])])]
def bk_A_link : List jx_B := [
  (0, [0, 1], [(1, .aload_n 0, []), (3, .getfield 19, [2, 0, 2, 107]), (1, .iload_n 1, []), (1, .iaload, [0]), (1, .istore_n 2, []), (1, .iload_n 2, []), (3, .ifCond .le 27, [1]), (1, .iload_n 2, []), (1, .iload_n 1, []), (3, .if_icmp .ge 22, [1]), (1, .aload_n 0, []), (1, .aload_n 0, []), (3, .getfield 25, [2, 0, 4, 111]), (1, .iload_n 2, []), (1, .iaload, [0]), (1, .aload_n 0, []), (3, .getfield 22, [2, 0, 3, 109]), (1, .iload_n 1, []), (1, .iaload, [0]), (3, .invokevirtual 70, [0, 0, 9, 3, 1, 495]), (3, .goto 4, [2])]),
  (35, [0, 1], [(1, .iconst 0, [0, 0]), (0, .nop, [2])]),
  (36, [0, 1], [(1, .istore_n 3, []), (1, .aload_n 0, []), (3, .getfield 25, [2, 0, 4, 111]), (1, .iload_n 1, []), (1, .iload_n 3, []), (1, .iastore, []), (1, .aload_n 0, []), (3, .getfield 28, [2, 0, 5, 113]), (1, .iload_n 1, []), (1, .dup2, []), (1, .iaload, [0]), (1, .aload_n 0, []), (1, .iload_n 3, []), (3, .invokevirtual 73, [0, 0, 11, 2, 1, 499]), (1, .ior, []), (1, .iastore, []), (1, .iconst 0, [0, 0]), (2, .istore 4, []), (0, .nop, [3])]),
  (61, [0, 1, 3, 4], [(2, .iload 4, []), (2, .bipush 26, [0, 26]), (3, .if_icmp .ge 42, [5]), (1, .iload_n 1, []), (2, .bipush 26, [0, 26]), (1, .imul, []), (2, .iload 4, []), (1, .iadd, []), (2, .istore 5, []), (1, .aload_n 0, []), (3, .getfield 34, [2, 0, 7, 117]), (2, .iload 5, []), (1, .iaload, [0]), (3, .ifCond .ne 17, [4]), (1, .aload_n 0, []), (3, .getfield 34, [2, 0, 7, 117]), (2, .iload 5, []), (1, .aload_n 0, []), (1, .iload_n 3, []), (2, .iload 4, []), (3, .invokevirtual 70, [0, 0, 9, 3, 1, 495]), (1, .iastore, []), (0, .nop, [4])]),
  (101, [0, 1, 3, 4], [(3, .iinc 4 1, [0, 1]), (3, .goto (-43), [3])]),
  (107, [], [(1, .return_, [])])]
def bk_A_nextSetByAny : List jx_B := [
  (0, [0, 1], [(1, .lconst 0, []), (1, .lstore_n 3, []), (1, .iconst 0, [0, 0]), (2, .istore 5, []), (0, .nop, [1])]),
  (5, [0, 1, 3, 5], [(2, .iload 5, []), (2, .bipush 26, [0, 26]), (3, .if_icmp .ge 19, [2]), (1, .lload_n 3, []), (1, .aload_n 0, []), (1, .lload_n 1, []), (2, .iload 5, []), (3, .invokevirtual 77, [0, 0, 10, 3, 2, 701]), (1, .lor, []), (1, .lstore_n 3, []), (3, .iinc 5 1, [0, 1]), (3, .goto (-20), [1])]),
  (28, [3], [(1, .lload_n 3, []), (1, .lreturn, [])])]
def bk_Fi_init : List jx_B := [
  (0, [0], [(1, .aload_n 0, []), (3, .invokespecial 3, [2, 147, 95, 96]), (1, .aload_n 0, []), (1, .iconst 0, [0, 0]), (3, .putfield 9, [0, 1, 0, 148]), (0, .nop, [1])]),
  (9, [0], [(1, .aload_n 0, []), (1, .iconst 0, [0, 0]), (3, .putfield 15, [0, 1, 1, 150]), (0, .nop, [2])]),
  (14, [0], [(1, .aload_n 0, []), (1, .iconst 0, [0, 0]), (3, .putfield 18, [0, 1, 2, 152]), (0, .nop, [3])]),
  (19, [0], [(1, .aload_n 0, []), (1, .iconst 0, [0, 0]), (3, .putfield 21, [0, 1, 3, 154]), (0, .nop, [4])]),
  (24, [0], [(1, .aload_n 0, []), (2, .bipush 30, [0, 30]), (2, .newarray .int, [139]), (3, .putfield 24, [2, 1, 4, 155]), (0, .nop, [5])]),
  (32, [0], [(1, .aload_n 0, []), (2, .bipush 30, [0, 30]), (2, .newarray .int, [139]), (3, .putfield 28, [2, 1, 5, 156]), (0, .nop, [6])]),
  (40, [0], [(1, .aload_n 0, []), (2, .bipush 30, [0, 30]), (2, .newarray .int, [139]), (3, .putfield 31, [2, 1, 6, 157]), (0, .nop, [7])]),
  (48, [0], [(1, .aload_n 0, []), (2, .bipush 30, [0, 30]), (2, .newarray .int, [139]), (3, .putfield 34, [2, 1, 7, 158]), (0, .nop, [8])]),
  (56, [], [(1, .return_, [])])]
def bk_Fi_copyFrom : List jx_B := [
  (0, [0, 1], [(1, .aload_n 0, []), (1, .aload_n 1, []), (3, .getfield 9, [0, 1, 0, 148]), (3, .putfield 9, [0, 1, 0, 148]), (1, .aload_n 0, []), (1, .aload_n 1, []), (3, .getfield 15, [0, 1, 1, 150]), (3, .putfield 15, [0, 1, 1, 150]), (1, .aload_n 0, []), (1, .aload_n 1, []), (3, .getfield 18, [0, 1, 2, 152]), (3, .putfield 18, [0, 1, 2, 152]), (1, .aload_n 0, []), (1, .aload_n 1, []), (3, .getfield 21, [0, 1, 3, 154]), (3, .putfield 21, [0, 1, 3, 154]), (1, .aload_n 1, []), (3, .getfield 24, [2, 1, 4, 155]), (1, .iconst 0, [0, 0]), (1, .aload_n 0, []), (3, .getfield 24, [2, 1, 4, 155]), (1, .iconst 0, [0, 0]), (2, .bipush 30, [0, 30]), (3, .invokestatic 37, [2, 433, 427, 426, 84]), (1, .aload_n 1, []), (3, .getfield 28, [2, 1, 5, 156]), (1, .iconst 0, [0, 0]), (1, .aload_n 0, []), (3, .getfield 28, [2, 1, 5, 156]), (1, .iconst 0, [0, 0]), (2, .bipush 30, [0, 30]), (3, .invokestatic 37, [2, 433, 427, 426, 84]), (1, .aload_n 1, []), (3, .getfield 31, [2, 1, 6, 157]), (1, .iconst 0, [0, 0]), (1, .aload_n 0, []), (3, .getfield 31, [2, 1, 6, 157]), (1, .iconst 0, [0, 0]), (2, .bipush 30, [0, 30]), (3, .invokestatic 37, [2, 433, 427, 426, 84]), (1, .aload_n 1, []), (3, .getfield 34, [2, 1, 7, 158]), (1, .iconst 0, [0, 0]), (1, .aload_n 0, []), (3, .getfield 34, [2, 1, 7, 158]), (1, .iconst 0, [0, 0]), (2, .bipush 30, [0, 30]), (3, .invokestatic 37, [2, 433, 427, 426, 84]), (1, .return_, [])])]
def bk_Fl_chosenPiece : List jx_B := [
  (0, [0, 1], [(1, .iconst (-1), [1, 1]), (1, .istore_n 2, []), (1, .iconst 0, [0, 0]), (1, .istore_n 3, []), (0, .nop, [1])]),
  (4, [0, 1, 2, 3], [(1, .iload_n 3, []), (1, .aload_n 0, []), (3, .getfield 14, [2, 2, 4, 298]), (3, .getfield 45, [0, 4, 0, 208]), (3, .if_icmp .ge 37, [4]), (1, .aload_n 0, []), (3, .getfield 14, [2, 2, 4, 298]), (1, .iload_n 3, []), (1, .iload_n 1, []), (3, .invokevirtual 115, [0, 4, 22, 3, 1, 604]), (3, .ifCond .eq 19, [3]), (1, .iload_n 2, []), (1, .iconst (-1), [1, 1]), (3, .if_icmp .eq 12, [2]), (1, .aload_n 0, []), (1, .iload_n 3, []), (1, .iload_n 2, []), (3, .invokevirtual 118, [0, 2, 16, 3, 1, 608]), (3, .ifCond .eq 5, [3]), (0, .nop, [2])]),
  (41, [0, 1, 3], [(1, .iload_n 3, []), (1, .istore_n 2, []), (0, .nop, [3])]),
  (43, [0, 1, 2, 3], [(3, .iinc 3 1, [0, 1]), (3, .goto (-42), [1])]),
  (49, [2], [(1, .iload_n 2, []), (1, .ireturn, [0])])]
def bk_R_init : List jx_B := [
  (0, [0, 1, 2], [(1, .aload_n 0, []), (3, .invokespecial 3, [2, 232, 95, 96]), (1, .aload_n 0, []), (2, .bipush 8, [0, 8]), (2, .newarray .int, [139]), (3, .putfield 9, [2, 3, 9, 249]), (1, .aload_n 0, []), (2, .bipush 8, [0, 8]), (2, .newarray .int, [139]), (3, .putfield 15, [2, 3, 10, 250]), (1, .aload_n 0, []), (1, .aload_n 1, []), (3, .putfield 18, [2, 3, 0, 233]), (1, .aload_n 0, []), (1, .aload_n 2, []), (3, .putfield 22, [2, 3, 1, 234]), (1, .return_, [])])]
def bk_R_begin : List jx_B := [
  (0, [0, 1, 2], [(1, .aload_n 0, []), (1, .iload_n 1, []), (3, .putfield 26, [0, 3, 2, 235]), (1, .aload_n 0, []), (1, .iload_n 2, []), (3, .putfield 30, [0, 3, 3, 236]), (1, .aload_n 0, []), (1, .iconst 0, [0, 0]), (3, .putfield 33, [0, 3, 4, 239]), (1, .aload_n 0, []), (1, .iconst 0, [0, 0]), (3, .putfield 36, [3, 3, 6, 242]), (1, .aload_n 0, []), (1, .iconst 0, [0, 0]), (3, .putfield 40, [0, 3, 11, 251]), (1, .aload_n 0, []), (1, .iconst 0, [0, 0]), (3, .putfield 43, [0, 3, 12, 253]), (1, .aload_n 0, []), (1, .iconst 0, [0, 0]), (3, .putfield 46, [0, 3, 13, 255]), (1, .aload_n 0, []), (1, .iconst 0, [0, 0]), (3, .putfield 49, [0, 3, 14, 257]), (1, .aload_n 0, []), (3, .invokevirtual 52, [0, 3, 21, 1, 0, 590]), (1, .return_, [])])]
def bk_R_come : List jx_B := [
  (0, [0, 1, 2, 3], [(1, .aload_n 0, []), (3, .getfield 30, [0, 3, 3, 236]), (1, .iconst 1, [0, 1]), (1, .iand, []), (3, .ifCond .eq 25, [1]), (1, .iload_n 1, []), (2, .bipush 65, [0, 65]), (3, .if_icmp .lt 19, [1]), (1, .iload_n 1, []), (2, .bipush 90, [0, 90]), (3, .if_icmp .gt 13, [1]), (1, .iload_n 1, []), (2, .bipush 65, [0, 65]), (1, .isub, []), (2, .bipush 97, [0, 97]), (1, .iadd, []), (3, .goto 4, [2])]),
  (31, [0, 1, 2, 3], [(1, .iload_n 1, []), (0, .nop, [2])]),
  (32, [0, 2, 3], [(2, .istore 4, []), (1, .aload_n 0, []), (2, .iload 4, []), (3, .invokevirtual 89, [0, 3, 19, 2, 1, 629]), (3, .ifCond .eq 4, [3]), (1, .return_, [])]),
  (44, [0, 2, 3, 4], [(1, .aload_n 0, []), (2, .iload 4, []), (2, .bipush 32, [0, 32]), (3, .if_icmp .ne 7, [4]), (1, .iconst 1, [0, 1]), (3, .goto 4, [5])]),
  (56, [0, 2, 3, 4], [(1, .iconst 0, [0, 0]), (0, .nop, [5])]),
  (57, [0, 2, 3, 4], [(3, .putfield 36, [3, 3, 6, 242]), (1, .aload_n 0, []), (3, .getfield 9, [2, 3, 9, 249]), (1, .aload_n 0, []), (3, .getfield 40, [0, 3, 11, 251]), (2, .bipush 7, [0, 7]), (1, .iand, []), (2, .iload 4, []), (1, .iastore, []), (1, .aload_n 0, []), (3, .getfield 15, [2, 3, 10, 250]), (1, .aload_n 0, []), (3, .getfield 40, [0, 3, 11, 251]), (2, .bipush 7, [0, 7]), (1, .iand, []), (1, .iload_n 2, []), (1, .iastore, []), (1, .aload_n 0, []), (1, .dup, []), (3, .getfield 40, [0, 3, 11, 251]), (1, .iconst 1, [0, 1]), (1, .iadd, []), (3, .putfield 40, [0, 3, 11, 251]), (2, .iload 4, []), (3, .invokestatic 93, [1, 4, 1, 1, 3]), (3, .ifCond .ne 8, [6]), (1, .aload_n 0, []), (3, .invokevirtual 52, [0, 3, 21, 1, 0, 590]), (1, .return_, [])]),
  (110, [0, 3, 4], [(1, .aload_n 0, []), (1, .aload_n 0, []), (3, .getfield 18, [2, 3, 0, 233]), (1, .aload_n 0, []), (3, .getfield 55, [0, 3, 7, 243]), (2, .iload 4, []), (2, .bipush 97, [0, 97]), (1, .isub, []), (3, .invokevirtual 96, [0, 0, 9, 3, 1, 634]), (3, .putfield 55, [0, 3, 7, 243]), (1, .aload_n 0, []), (1, .aload_n 0, []), (3, .getfield 18, [2, 3, 0, 233]), (1, .aload_n 0, []), (3, .getfield 58, [1, 3, 8, 246]), (2, .iload 4, []), (2, .bipush 97, [0, 97]), (1, .isub, []), (3, .invokevirtual 100, [0, 0, 10, 3, 2, 635]), (3, .putfield 58, [1, 3, 8, 246]), (1, .aload_n 0, []), (3, .getfield 18, [2, 3, 0, 233]), (1, .aload_n 0, []), (3, .getfield 55, [0, 3, 7, 243]), (3, .invokevirtual 103, [0, 0, 11, 2, 1, 639]), (2, .istore 5, []), (1, .aload_n 0, []), (3, .getfield 18, [2, 3, 0, 233]), (1, .aload_n 0, []), (3, .getfield 58, [1, 3, 8, 246]), (3, .invokevirtual 106, [0, 0, 12, 2, 1, 640]), (2, .iload 5, []), (1, .iconst (-1), [1, 1]), (1, .ixor, []), (1, .iand, []), (2, .istore 6, []), (1, .iconst 0, [0, 0]), (2, .istore 7, []), (0, .nop, [7])]),
  (184, [0, 3, 5, 6, 7], [(2, .iload 7, []), (2, .bipush 6, [0, 6]), (3, .if_icmp .ge 47, [9]), (2, .iload 5, []), (2, .iload 7, []), (1, .ishr, []), (1, .iconst 1, [0, 1]), (1, .iand, []), (3, .ifCond .eq 31, [8]), (1, .aload_n 0, []), (3, .getfield 22, [2, 3, 1, 234]), (1, .aload_n 0, []), (3, .getfield 26, [0, 3, 2, 235]), (2, .iload 7, []), (1, .aload_n 0, []), (1, .aload_n 0, []), (3, .getfield 18, [2, 3, 0, 233]), (3, .getfield 110, [2, 0, 6, 116]), (2, .iload 7, []), (1, .iaload, [0]), (3, .invokevirtual 113, [0, 3, 17, 2, 1, 644]), (1, .iload_n 3, []), (3, .invokevirtual 116, [0, 1, 13, 5, 0, 648]), (0, .nop, [8])]),
  (229, [0, 3, 5, 6, 7], [(3, .iinc 7 1, [0, 1]), (3, .goto (-48), [7])]),
  (235, [0, 3, 5, 6], [(1, .iconst 0, [0, 0]), (2, .istore 7, []), (0, .nop, [10])]),
  (238, [0, 3, 5, 6, 7], [(2, .iload 7, []), (2, .bipush 6, [0, 6]), (3, .if_icmp .ge 35, [12]), (2, .iload 6, []), (2, .iload 7, []), (1, .ishr, []), (1, .iconst 1, [0, 1]), (1, .iand, []), (3, .ifCond .eq 19, [11]), (1, .aload_n 0, []), (3, .getfield 22, [2, 3, 1, 234]), (1, .aload_n 0, []), (3, .getfield 26, [0, 3, 2, 235]), (2, .iload 7, []), (2, .bipush (-9), [1, 9]), (1, .iload_n 3, []), (3, .invokevirtual 116, [0, 1, 13, 5, 0, 648]), (0, .nop, [11])]),
  (271, [0, 3, 5, 6, 7], [(3, .iinc 7 1, [0, 1]), (3, .goto (-36), [10])]),
  (277, [0, 5, 6], [(1, .aload_n 0, []), (1, .dup, []), (3, .getfield 43, [0, 3, 12, 253]), (2, .iload 5, []), (3, .invokestatic 122, [0, 46, 1, 1, 652]), (1, .iadd, []), (3, .putfield 43, [0, 3, 12, 253]), (1, .aload_n 0, []), (1, .dup, []), (3, .getfield 46, [0, 3, 13, 255]), (2, .iload 6, []), (3, .invokestatic 122, [0, 46, 1, 1, 652]), (1, .iadd, []), (3, .putfield 46, [0, 3, 13, 255]), (1, .aload_n 0, []), (1, .dup, []), (3, .getfield 49, [0, 3, 14, 257]), (2, .iload 5, []), (1, .ior, []), (3, .putfield 49, [0, 3, 14, 257]), (1, .return_, [])])]
def bk_R_copyFrom : List jx_B := [
  (0, [0, 1], [(1, .aload_n 0, []), (1, .aload_n 1, []), (3, .getfield 26, [0, 3, 2, 235]), (3, .putfield 26, [0, 3, 2, 235]), (1, .aload_n 0, []), (1, .aload_n 1, []), (3, .getfield 30, [0, 3, 3, 236]), (3, .putfield 30, [0, 3, 3, 236]), (1, .aload_n 0, []), (1, .aload_n 1, []), (3, .getfield 33, [0, 3, 4, 239]), (3, .putfield 33, [0, 3, 4, 239]), (1, .aload_n 0, []), (1, .aload_n 1, []), (3, .getfield 62, [0, 3, 5, 241]), (3, .putfield 62, [0, 3, 5, 241]), (0, .nop, [1])]),
  (32, [0, 1], [(1, .aload_n 0, []), (1, .aload_n 1, []), (3, .getfield 36, [0, 3, 6, 242]), (3, .putfield 36, [3, 3, 6, 242]), (1, .aload_n 0, []), (1, .aload_n 1, []), (3, .getfield 55, [0, 3, 7, 243]), (3, .putfield 55, [0, 3, 7, 243]), (1, .aload_n 0, []), (1, .aload_n 1, []), (3, .getfield 58, [1, 3, 8, 246]), (3, .putfield 58, [1, 3, 8, 246]), (1, .aload_n 1, []), (3, .getfield 9, [2, 3, 9, 249]), (1, .iconst 0, [0, 0]), (1, .aload_n 0, []), (3, .getfield 9, [2, 3, 9, 249]), (1, .iconst 0, [0, 0]), (2, .bipush 8, [0, 8]), (3, .invokestatic 65, [2, 459, 427, 426, 84]), (1, .aload_n 1, []), (3, .getfield 15, [2, 3, 10, 250]), (1, .iconst 0, [0, 0]), (1, .aload_n 0, []), (3, .getfield 15, [2, 3, 10, 250]), (1, .iconst 0, [0, 0]), (2, .bipush 8, [0, 8]), (3, .invokestatic 65, [2, 459, 427, 426, 84]), (1, .aload_n 0, []), (1, .aload_n 1, []), (3, .getfield 40, [0, 3, 11, 251]), (3, .putfield 40, [0, 3, 11, 251]), (0, .nop, [2])]),
  (94, [0, 1], [(1, .aload_n 0, []), (1, .aload_n 1, []), (3, .getfield 43, [0, 3, 12, 253]), (3, .putfield 43, [0, 3, 12, 253]), (1, .aload_n 0, []), (1, .aload_n 1, []), (3, .getfield 46, [0, 3, 13, 255]), (3, .putfield 46, [0, 3, 13, 255]), (1, .aload_n 0, []), (1, .aload_n 1, []), (3, .getfield 49, [0, 3, 14, 257]), (3, .putfield 49, [0, 3, 14, 257]), (1, .return_, [])])]
def bk_Sg_init : List jx_B := [
  (0, [0, 1], [(1, .aload_n 0, []), (3, .invokespecial 3, [2, 206, 95, 96]), (1, .aload_n 0, []), (1, .iconst 0, [0, 0]), (3, .putfield 9, [0, 4, 0, 207]), (1, .aload_n 0, []), (1, .iload_n 1, []), (2, .newarray .int, [139]), (3, .putfield 15, [2, 4, 1, 210]), (1, .aload_n 0, []), (1, .iload_n 1, []), (2, .newarray .int, [139]), (3, .putfield 19, [2, 4, 2, 213]), (1, .aload_n 0, []), (1, .iload_n 1, []), (2, .bipush 40, [0, 40]), (1, .imul, []), (2, .newarray .byte, [138]), (3, .putfield 22, [2, 4, 3, 216]), (1, .return_, [])])]
def bk_Sg_byteFor : List jx_B := [
  (0, [0, 1, 2], [(1, .aload_n 0, []), (1, .iload_n 1, []), (1, .iload_n 2, []), (3, .invokevirtual 44, [0, 4, 22, 3, 1, 616]), (3, .ifCond .eq 24, [1]), (1, .aload_n 0, []), (3, .getfield 22, [2, 4, 3, 216]), (1, .iload_n 1, []), (2, .bipush 40, [0, 40]), (1, .imul, []), (1, .iload_n 2, []), (1, .iadd, []), (1, .aload_n 0, []), (3, .getfield 15, [2, 4, 1, 210]), (1, .iload_n 1, []), (1, .iaload, [0]), (1, .isub, []), (1, .baload, []), (3, .goto 5, [2])]),
  (30, [], [(2, .bipush (-9), [1, 9]), (0, .nop, [2])]),
  (32, [], [(1, .ireturn, [0])])]
def bk_Sg_isCoveredBefore : List jx_B := [
  (0, [0, 1, 2], [(1, .iconst 0, [0, 0]), (1, .istore_n 3, []), (0, .nop, [1])]),
  (2, [0, 1, 2, 3], [(1, .iload_n 3, []), (1, .iload_n 1, []), (3, .if_icmp .ge 20, [3]), (1, .aload_n 0, []), (1, .iload_n 3, []), (1, .iload_n 2, []), (3, .invokevirtual 44, [0, 4, 22, 3, 1, 616]), (3, .ifCond .eq 5, [2]), (1, .iconst 1, [0, 1]), (1, .ireturn, [1])]),
  (18, [0, 1, 2, 3], [(3, .iinc 3 1, [0, 1]), (3, .goto (-19), [1])]),
  (24, [], [(1, .iconst 0, [0, 0]), (1, .ireturn, [1])])]
def bk_Sg_put : List jx_B := [
  (0, [0, 1, 2, 3, 4, 5], [(1, .aload_n 0, []), (3, .getfield 15, [2, 4, 1, 210]), (1, .iload_n 1, []), (2, .iload 5, []), (1, .iastore, []), (1, .aload_n 0, []), (3, .getfield 19, [2, 4, 2, 213]), (1, .iload_n 1, []), (2, .iload 4, []), (1, .iastore, []), (1, .aload_n 2, []), (1, .iload_n 3, []), (1, .aload_n 0, []), (3, .getfield 22, [2, 4, 3, 216]), (1, .iload_n 1, []), (2, .bipush 40, [0, 40]), (1, .imul, []), (2, .iload 4, []), (3, .invokestatic 38, [3, 454, 427, 426, 84]), (1, .return_, [])])]
def bk_Sg_smallestStart : List jx_B := [
  (0, [0], [(3, .sipush 1040, [0, 1040]), (1, .istore_n 1, []), (1, .iconst 0, [0, 0]), (1, .istore_n 2, []), (0, .nop, [1])]),
  (6, [0, 1, 2], [(1, .iload_n 2, []), (1, .aload_n 0, []), (3, .getfield 9, [0, 4, 0, 207]), (3, .if_icmp .ge 20, [2]), (1, .iload_n 1, []), (1, .aload_n 0, []), (3, .getfield 15, [2, 4, 1, 210]), (1, .iload_n 2, []), (1, .iaload, [0]), (3, .invokestatic 57, [4, 688, 465, 85, 466]), (1, .istore_n 1, []), (3, .iinc 2 1, [0, 1]), (3, .goto (-22), [1])]),
  (31, [1], [(1, .iload_n 1, []), (1, .ireturn, [0])])]
def bk_St_remove : List jx_B := [
  (0, [0, 1], [(1, .aload_n 0, []), (1, .iload_n 1, []), (3, .invokevirtual 75, [0, 5, 24, 2, 3, 578]), (1, .pop, []), (1, .aload_n 0, []), (1, .dup, []), (3, .getfield 28, [0, 5, 4, 342]), (1, .iconst 1, [0, 1]), (1, .isub, []), (3, .putfield 28, [0, 5, 4, 342]), (1, .return_, [])])]
def bk_Wo_init : List jx_B := [
  (0, [0], [(1, .aload_n 0, []), (3, .invokespecial 3, [2, 185, 95, 96]), (1, .aload_n 0, []), (2, .bipush 6, [0, 6]), (2, .newarray .int, [139]), (3, .putfield 9, [2, 6, 0, 186]), (1, .aload_n 0, []), (2, .bipush 48, [0, 48]), (2, .newarray .byte, [138]), (3, .putfield 15, [2, 6, 1, 188]), (1, .return_, [])])]
def bk_Wo_copyFrom : List jx_B := [
  (0, [0, 1], [(1, .aload_n 1, []), (3, .getfield 9, [2, 6, 0, 186]), (1, .iconst 0, [0, 0]), (1, .aload_n 0, []), (3, .getfield 9, [2, 6, 0, 186]), (1, .iconst 0, [0, 0]), (2, .bipush 6, [0, 6]), (3, .invokestatic 19, [2, 425, 427, 426, 84]), (1, .aload_n 1, []), (3, .getfield 15, [2, 6, 1, 188]), (1, .iconst 0, [0, 0]), (1, .aload_n 0, []), (3, .getfield 15, [2, 6, 1, 188]), (1, .iconst 0, [0, 0]), (2, .bipush 48, [0, 48]), (3, .invokestatic 19, [3, 425, 427, 426, 84]), (1, .return_, [])])]
def bk_Wo_definedSet : List jx_B := [
  (0, [0], [(1, .iconst 0, [0, 0]), (1, .istore_n 1, []), (1, .iconst 0, [0, 0]), (1, .istore_n 2, []), (0, .nop, [1])]),
  (4, [0, 1, 2], [(1, .iload_n 2, []), (2, .bipush 6, [0, 6]), (3, .if_icmp .ge 23, [3]), (1, .aload_n 0, []), (1, .iload_n 2, []), (3, .invokevirtual 31, [0, 6, 26, 2, 1, 768]), (3, .ifCond .eq 9, [2]), (1, .iload_n 1, []), (1, .iconst 1, [0, 1]), (1, .iload_n 2, []), (1, .ishl, []), (1, .ior, []), (1, .istore_n 1, []), (0, .nop, [2])]),
  (24, [0, 1, 2], [(3, .iinc 2 1, [0, 1]), (3, .goto (-23), [1])]),
  (30, [1], [(1, .iload_n 1, []), (1, .ireturn, [0])])]
def bk_Wo_put : List jx_B := [
  (0, [0, 1, 2, 3], [(1, .iconst 0, [0, 0]), (2, .istore 4, []), (0, .nop, [1])]),
  (3, [0, 1, 2, 3, 4], [(2, .iload 4, []), (1, .iload_n 3, []), (3, .if_icmp .ge 43, [2]), (2, .iload 4, []), (2, .bipush 8, [0, 8]), (3, .if_icmp .ge 36, [2]), (2, .iload 4, []), (1, .aload_n 2, []), (1, .arraylength, [2]), (3, .if_icmp .ge 29, [2]), (1, .aload_n 0, []), (3, .getfield 15, [2, 6, 1, 188]), (1, .iload_n 1, []), (2, .bipush 8, [0, 8]), (1, .imul, []), (2, .iload 4, []), (1, .iadd, []), (1, .aload_n 2, []), (2, .iload 4, []), (1, .baload, []), (2, .bipush 97, [0, 97]), (1, .isub, []), (1, .i2b, []), (1, .bastore, []), (3, .iinc 4 1, [0, 1]), (3, .goto (-43), [1])]),
  (49, [0, 1, 3], [(1, .aload_n 0, []), (3, .getfield 9, [2, 6, 0, 186]), (1, .iload_n 1, []), (1, .iload_n 3, []), (2, .bipush 8, [0, 8]), (3, .invokestatic 25, [4, 464, 465, 85, 466]), (1, .iastore, []), (1, .return_, [])])]
def bk_M_begins : List jx_B := [
  (0, [0], [(1, .aload_n 0, []), (3, .getfield 46, [0, 8, 1, 856]), (1, .iconst 4, [0, 4]), (3, .if_icmp .ne 34, [3]), (1, .iconst 1, [0, 1]), (1, .istore_n 1, []), (0, .nop, [1])]),
  (10, [0, 1], [(1, .iload_n 1, []), (1, .iconst 4, [0, 4]), (3, .if_icmp .ge 17, [2]), (1, .aload_n 0, []), (1, .iload_n 1, []), (1, .iconst 1, [0, 1]), (1, .iadd, []), (1, .iload_n 1, []), (3, .invokevirtual 50, [0, 8, 31, 3, 0, 933]), (3, .iinc 1 1, [0, 1]), (3, .goto (-16), [1])]),
  (29, [0], [(1, .aload_n 0, []), (1, .dup, []), (3, .getfield 46, [0, 8, 1, 856]), (1, .iconst 1, [0, 1]), (1, .isub, []), (3, .putfield 46, [0, 8, 1, 856]), (0, .nop, [3])]),
  (39, [0], [(1, .aload_n 0, []), (1, .dup, []), (3, .getfield 46, [0, 8, 1, 856]), (1, .iconst 1, [0, 1]), (1, .iadd, []), (3, .putfield 46, [0, 8, 1, 856]), (1, .aload_n 0, []), (1, .iconst 0, [0, 0]), (1, .aload_n 0, []), (3, .getfield 46, [0, 8, 1, 856]), (3, .invokevirtual 50, [0, 8, 31, 3, 0, 933]), (1, .return_, [])])]
def bk_M_byteOf : List jx_B := [
  (0, [0, 1, 2], [(1, .aload_n 0, []), (3, .getfield 7, [2, 8, 0, 855]), (1, .aload_n 0, []), (1, .iload_n 1, []), (3, .invokevirtual 161, [0, 8, 41, 2, 1, 1013]), (1, .iconst 2, [0, 2]), (1, .iadd, []), (1, .iload_n 2, []), (1, .iadd, []), (1, .aload_n 0, []), (3, .getfield 7, [2, 8, 0, 855]), (1, .aload_n 0, []), (1, .iload_n 1, []), (3, .invokevirtual 161, [0, 8, 41, 2, 1, 1013]), (1, .iaload, [0]), (1, .isub, []), (1, .iaload, [0]), (1, .ireturn, [0])])]
def bk_M_covers : List jx_B := [
  (0, [0, 1, 2], [(1, .aload_n 0, []), (3, .getfield 7, [2, 8, 0, 855]), (1, .aload_n 0, []), (1, .iload_n 1, []), (3, .invokevirtual 161, [0, 8, 41, 2, 1, 1013]), (1, .iaload, [0]), (1, .istore_n 3, []), (1, .iload_n 2, []), (1, .aload_n 0, []), (1, .iconst 4, [0, 4]), (3, .invokevirtual 112, [0, 8, 39, 2, 1, 997]), (3, .if_icmp .lt 30, [1]), (1, .iload_n 2, []), (1, .iload_n 3, []), (3, .if_icmp .lt 25, [1]), (1, .iload_n 2, []), (1, .iload_n 3, []), (1, .aload_n 0, []), (3, .getfield 7, [2, 8, 0, 855]), (1, .aload_n 0, []), (1, .iload_n 1, []), (3, .invokevirtual 161, [0, 8, 41, 2, 1, 1013]), (1, .iconst 1, [0, 1]), (1, .iadd, []), (1, .iaload, [0]), (1, .iadd, []), (3, .if_icmp .ge 7, [1]), (1, .iconst 1, [0, 1]), (3, .goto 4, [2])]),
  (47, [], [(1, .iconst 0, [0, 0]), (0, .nop, [2])]),
  (48, [], [(1, .ireturn, [1])])]
def bk_M_definedSet : List jx_B := [
  (0, [0], [(1, .iconst 0, [0, 0]), (1, .istore_n 1, []), (1, .iconst 0, [0, 0]), (1, .istore_n 2, []), (0, .nop, [1])]),
  (4, [0, 1, 2], [(1, .iload_n 2, []), (2, .bipush 6, [0, 6]), (3, .if_icmp .ge 27, [4]), (1, .iload_n 1, []), (1, .aload_n 0, []), (1, .iload_n 2, []), (3, .invokevirtual 64, [0, 8, 45, 2, 1, 823]), (3, .ifCond .le 9, [2]), (1, .iconst 1, [0, 1]), (1, .iload_n 2, []), (1, .ishl, []), (3, .goto 4, [3])]),
  (25, [0, 2], [(1, .iconst 0, [0, 0]), (0, .nop, [3])]),
  (26, [0, 2], [(1, .ior, []), (1, .istore_n 1, []), (3, .iinc 2 1, [0, 1]), (3, .goto (-27), [1])]),
  (34, [1], [(1, .iload_n 1, []), (1, .ireturn, [0])])]
def bk_M_drops : List jx_B := [
  (0, [0], [(1, .aload_n 0, []), (1, .iconst 5, [0, 5]), (3, .invokevirtual 112, [0, 8, 39, 2, 1, 997]), (1, .iconst 1, [0, 1]), (1, .isub, []), (1, .istore_n 1, []), (0, .nop, [1])]),
  (8, [0, 1], [(1, .iload_n 1, []), (3, .ifCond .lt 88, [5]), (1, .aload_n 0, []), (3, .getfield 7, [2, 8, 0, 855]), (1, .aload_n 0, []), (1, .iload_n 1, []), (3, .invokevirtual 161, [0, 8, 41, 2, 1, 1013]), (1, .iaload, [0]), (1, .aload_n 0, []), (3, .getfield 7, [2, 8, 0, 855]), (1, .aload_n 0, []), (1, .iload_n 1, []), (3, .invokevirtual 161, [0, 8, 41, 2, 1, 1013]), (1, .iconst 1, [0, 1]), (1, .iadd, []), (1, .iaload, [0]), (1, .iadd, []), (1, .aload_n 0, []), (1, .iconst 4, [0, 4]), (3, .invokevirtual 112, [0, 8, 39, 2, 1, 997]), (3, .if_icmp .gt 51, [4]), (1, .aload_n 0, []), (1, .iload_n 1, []), (3, .invokevirtual 161, [0, 8, 41, 2, 1, 1013]), (1, .istore_n 2, []), (0, .nop, [2])]),
  (49, [0, 1, 2], [(1, .iload_n 2, []), (1, .aload_n 0, []), (1, .aload_n 0, []), (1, .iconst 5, [0, 5]), (3, .invokevirtual 112, [0, 8, 39, 2, 1, 997]), (1, .iconst 1, [0, 1]), (1, .isub, []), (3, .invokevirtual 161, [0, 8, 41, 2, 1, 1013]), (3, .if_icmp .ge 24, [3]), (1, .aload_n 0, []), (3, .getfield 7, [2, 8, 0, 855]), (1, .iload_n 2, []), (1, .aload_n 0, []), (3, .getfield 7, [2, 8, 0, 855]), (1, .iload_n 2, []), (2, .bipush 42, [0, 42]), (1, .iadd, []), (1, .iaload, [0]), (1, .iastore, []), (3, .iinc 2 1, [0, 1]), (3, .goto (-33), [2])]),
  (85, [0, 1], [(1, .aload_n 0, []), (1, .iconst 5, [0, 5]), (1, .iconst (-1), [1, 1]), (3, .invokevirtual 121, [0, 8, 29, 3, 0, 1001]), (0, .nop, [4])]),
  (91, [0, 1], [(3, .iinc 1 (-1), [1, 1]), (3, .goto (-86), [1])]),
  (97, [], [(1, .return_, [])])]
def bk_M_endsWith : List jx_B := [
  (0, [0, 1, 2], [(1, .aload_n 0, []), (3, .getfield 16, [2, 8, 5, 860]), (1, .iload_n 1, []), (1, .iaload, [0]), (1, .aload_n 0, []), (1, .iload_n 2, []), (3, .invokevirtual 64, [0, 8, 45, 2, 1, 823]), (1, .isub, []), (1, .istore_n 3, []), (1, .aload_n 0, []), (1, .iload_n 2, []), (3, .invokevirtual 64, [0, 8, 45, 2, 1, 823]), (3, .ifCond .le 11, [1]), (1, .iload_n 3, []), (3, .ifCond .lt 7, [1]), (1, .iconst 1, [0, 1]), (3, .goto 4, [2])]),
  (29, [0, 1, 2, 3], [(1, .iconst 0, [0, 0]), (0, .nop, [2])]),
  (30, [0, 1, 2, 3], [(2, .istore 4, []), (1, .iconst 0, [0, 0]), (2, .istore 5, []), (0, .nop, [3])]),
  (35, [0, 1, 2, 3, 4, 5], [(2, .iload 5, []), (1, .aload_n 0, []), (1, .iload_n 2, []), (3, .invokevirtual 64, [0, 8, 45, 2, 1, 823]), (3, .if_icmp .ge 45, [6]), (2, .iload 4, []), (3, .ifCond .eq 40, [6]), (1, .aload_n 0, []), (3, .getfield 19, [2, 8, 6, 861]), (2, .bipush 8, [0, 8]), (1, .iload_n 1, []), (1, .imul, []), (1, .iload_n 3, []), (1, .iadd, []), (2, .iload 5, []), (1, .iadd, []), (1, .iaload, [0]), (1, .aload_n 0, []), (1, .iload_n 2, []), (2, .iload 5, []), (3, .invokevirtual 68, [0, 8, 36, 3, 1, 827]), (3, .if_icmp .ne 7, [4]), (1, .iconst 1, [0, 1]), (3, .goto 4, [5])]),
  (78, [0, 1, 2, 3, 5], [(1, .iconst 0, [0, 0]), (0, .nop, [5])]),
  (79, [0, 1, 2, 3, 5], [(2, .istore 4, []), (3, .iinc 5 1, [0, 1]), (3, .goto (-49), [3])]),
  (87, [4], [(2, .iload 4, []), (1, .ireturn, [1])])]
def bk_M_faultOf : List jx_B := [
  (0, [0], [(1, .iconst 0, [0, 0]), (1, .istore_n 1, []), (0, .nop, [1])]),
  (2, [0, 1], [(1, .iload_n 1, []), (1, .aload_n 0, []), (3, .getfield 89, [0, 8, 3, 858]), (3, .if_icmp .ge 33, [4]), (1, .iload_n 1, []), (2, .bipush 8, [0, 8]), (3, .if_icmp .eq 19, [2]), (1, .aload_n 0, []), (3, .getfield 13, [2, 8, 2, 857]), (1, .iload_n 1, []), (1, .iaload, [0]), (2, .bipush 97, [0, 97]), (2, .bipush 122, [0, 122]), (3, .invokestatic 85, [0, 34, 3, 1, 911]), (3, .ifCond .ne 5, [3]), (0, .nop, [2])]),
  (32, [1], [(1, .iload_n 1, []), (1, .ireturn, [0])]),
  (34, [0, 1], [(3, .iinc 1 1, [0, 1]), (3, .goto (-35), [1])]),
  (40, [0], [(1, .aload_n 0, []), (3, .getfield 89, [0, 8, 3, 858]), (3, .ifCond .ne 7, [5]), (1, .iconst 0, [0, 0]), (3, .goto 5, [6])]),
  (51, [], [(2, .bipush (-9), [1, 9]), (0, .nop, [6])]),
  (53, [], [(1, .ireturn, [0])])]
def bk_M_find : List jx_B := [
  (0, [0, 1, 2], [(1, .iload_n 1, []), (3, .ifCond .lt 12, [1]), (1, .iload_n 2, []), (1, .iconst 0, [0, 0]), (1, .iconst 3, [0, 3]), (3, .invokestatic 85, [0, 34, 3, 1, 911]), (3, .ifCond .ne 5, [2]), (0, .nop, [1])]),
  (13, [], [(1, .iconst (-1), [1, 1]), (1, .ireturn, [0])]),
  (15, [0, 1, 2], [(1, .iload_n 1, []), (1, .aload_n 0, []), (3, .getfield 7, [2, 8, 0, 855]), (2, .bipush 62, [0, 62]), (1, .iaload, [0]), (3, .if_icmp .ge 29, [3]), (1, .aload_n 0, []), (3, .getfield 7, [2, 8, 0, 855]), (2, .bipush 66, [0, 66]), (1, .iconst 4, [0, 4]), (1, .aload_n 0, []), (3, .getfield 7, [2, 8, 0, 855]), (2, .bipush 62, [0, 62]), (1, .iaload, [0]), (1, .iconst 1, [0, 1]), (1, .isub, []), (1, .iload_n 1, []), (1, .isub, []), (1, .imul, []), (1, .iadd, []), (1, .iload_n 2, []), (1, .iadd, []), (1, .iaload, [0]), (3, .goto 5, [4])]),
  (52, [], [(2, .bipush (-9), [1, 9]), (0, .nop, [4])]),
  (54, [], [(1, .ireturn, [0])])]
def bk_M_flow : List jx_B := [
  (0, [0, 1], [(1, .iload_n 1, []), (3, .ifCond .ge 7, [1]), (1, .iconst (-1), [1, 1]), (3, .goto 31, [3])]),
  (8, [0, 1], [(1, .iload_n 1, []), (1, .aload_n 0, []), (3, .getfield 7, [2, 8, 0, 855]), (2, .bipush 57, [0, 57]), (1, .iaload, [0]), (3, .if_icmp .ge 18, [2]), (1, .aload_n 0, []), (3, .getfield 7, [2, 8, 0, 855]), (1, .aload_n 0, []), (1, .iload_n 1, []), (3, .invokevirtual 92, [0, 8, 43, 2, 1, 941]), (1, .iconst 0, [0, 0]), (1, .iadd, []), (1, .iaload, [0]), (3, .goto 5, [3])]),
  (34, [], [(2, .bipush (-9), [1, 9]), (0, .nop, [3])]),
  (36, [], [(1, .ireturn, [0])])]
def bk_M_has : List jx_B := [
  (0, [0, 1], [(1, .aload_n 0, []), (1, .iconst 2, [0, 2]), (3, .invokevirtual 112, [0, 8, 39, 2, 1, 997]), (1, .iload_n 1, []), (1, .iand, []), (3, .ifCond .eq 7, [1]), (1, .iconst 1, [0, 1]), (3, .goto 4, [2])]),
  (14, [], [(1, .iconst 0, [0, 0]), (0, .nop, [2])]),
  (15, [], [(1, .ireturn, [1])])]
def bk_M_hexOf : List jx_B := [
  (0, [0], [(1, .iload_n 0, []), (2, .bipush 48, [0, 48]), (2, .bipush 57, [0, 57]), (3, .invokestatic 85, [0, 34, 3, 1, 911]), (3, .ifCond .eq 10, [1]), (1, .iload_n 0, []), (2, .bipush 48, [0, 48]), (1, .isub, []), (3, .goto 47, [4])]),
  (18, [0], [(1, .iload_n 0, []), (2, .bipush 65, [0, 65]), (2, .bipush 70, [0, 70]), (3, .invokestatic 85, [0, 34, 3, 1, 911]), (3, .ifCond .eq 13, [2]), (1, .iload_n 0, []), (2, .bipush 65, [0, 65]), (1, .isub, []), (2, .bipush 10, [0, 10]), (1, .iadd, []), (3, .goto 26, [4])]),
  (39, [0], [(1, .iload_n 0, []), (2, .bipush 97, [0, 97]), (2, .bipush 102, [0, 102]), (3, .invokestatic 85, [0, 34, 3, 1, 911]), (3, .ifCond .eq 13, [3]), (1, .iload_n 0, []), (2, .bipush 97, [0, 97]), (1, .isub, []), (2, .bipush 10, [0, 10]), (1, .iadd, []), (3, .goto 5, [4])]),
  (60, [], [(2, .bipush (-9), [1, 9]), (0, .nop, [4])]),
  (62, [], [(1, .ireturn, [0])])]
def bk_M_inserts : List jx_B := [
  (0, [0, 1], [(1, .iconst 0, [0, 0]), (1, .istore_n 2, []), (0, .nop, [1])]),
  (2, [0, 1, 2], [(1, .iload_n 2, []), (1, .aload_n 0, []), (3, .getfield 54, [0, 8, 4, 859]), (3, .if_icmp .ge 38, [3]), (1, .aload_n 0, []), (3, .getfield 16, [2, 8, 5, 860]), (1, .iload_n 2, []), (1, .iaload, [0]), (1, .iload_n 1, []), (3, .if_icmp .lt 22, [2]), (1, .aload_n 0, []), (3, .getfield 16, [2, 8, 5, 860]), (1, .iload_n 2, []), (1, .iaload, [0]), (1, .iload_n 1, []), (3, .if_icmp .ne 18, [3]), (1, .aload_n 0, []), (1, .iload_n 2, []), (1, .iload_n 1, []), (3, .invokevirtual 57, [0, 8, 40, 3, 1, 835]), (3, .ifCond .ge 9, [3]), (0, .nop, [2])]),
  (39, [0, 1, 2], [(3, .iinc 2 1, [0, 1]), (3, .goto (-40), [1])]),
  (45, [0, 1, 2], [(1, .iload_n 2, []), (1, .aload_n 0, []), (3, .getfield 54, [0, 8, 4, 859]), (3, .if_icmp .ge 23, [4]), (1, .aload_n 0, []), (3, .getfield 16, [2, 8, 5, 860]), (1, .iload_n 2, []), (1, .iaload, [0]), (1, .iload_n 1, []), (3, .if_icmp .ne 13, [4]), (1, .aload_n 0, []), (1, .iload_n 2, []), (1, .iload_n 1, []), (3, .invokevirtual 57, [0, 8, 40, 3, 1, 835]), (3, .ifCond .ne 4, [4]), (1, .return_, [])]),
  (73, [0, 1, 2], [(1, .aload_n 0, []), (3, .getfield 54, [0, 8, 4, 859]), (1, .istore_n 3, []), (0, .nop, [5])]),
  (78, [0, 1, 2, 3], [(1, .iload_n 3, []), (1, .iload_n 2, []), (3, .if_icmp .le 65, [8]), (1, .aload_n 0, []), (3, .getfield 16, [2, 8, 5, 860]), (1, .iload_n 3, []), (1, .aload_n 0, []), (3, .getfield 16, [2, 8, 5, 860]), (1, .iload_n 3, []), (1, .iconst 1, [0, 1]), (1, .isub, []), (1, .iaload, [0]), (1, .iastore, []), (1, .iconst 0, [0, 0]), (2, .istore 4, []), (0, .nop, [6])]),
  (100, [0, 1, 2, 3, 4], [(2, .iload 4, []), (2, .bipush 8, [0, 8]), (3, .if_icmp .ge 35, [7]), (1, .aload_n 0, []), (3, .getfield 19, [2, 8, 6, 861]), (2, .bipush 8, [0, 8]), (1, .iload_n 3, []), (1, .imul, []), (2, .iload 4, []), (1, .iadd, []), (1, .aload_n 0, []), (3, .getfield 19, [2, 8, 6, 861]), (2, .bipush 8, [0, 8]), (1, .iload_n 3, []), (1, .iconst 1, [0, 1]), (1, .isub, []), (1, .imul, []), (2, .iload 4, []), (1, .iadd, []), (1, .iaload, [0]), (1, .iastore, []), (3, .iinc 4 1, [0, 1]), (3, .goto (-36), [6])]),
  (139, [0, 1, 2, 3], [(3, .iinc 3 (-1), [1, 1]), (3, .goto (-64), [5])]),
  (145, [0, 1, 2], [(1, .aload_n 0, []), (3, .getfield 16, [2, 8, 5, 860]), (1, .iload_n 2, []), (1, .iload_n 1, []), (1, .iastore, []), (1, .iconst 0, [0, 0]), (1, .istore_n 3, []), (0, .nop, [9])]),
  (154, [0, 1, 2, 3], [(1, .iload_n 3, []), (1, .iload_n 1, []), (3, .if_icmp .ge 26, [10]), (1, .aload_n 0, []), (3, .getfield 19, [2, 8, 6, 861]), (2, .bipush 8, [0, 8]), (1, .iload_n 2, []), (1, .imul, []), (1, .iload_n 3, []), (1, .iadd, []), (1, .aload_n 0, []), (3, .getfield 34, [2, 8, 11, 866]), (1, .iload_n 3, []), (1, .iaload, [0]), (1, .iastore, []), (3, .iinc 3 1, [0, 1]), (3, .goto (-25), [9])]),
  (182, [0], [(1, .aload_n 0, []), (1, .dup, []), (3, .getfield 54, [0, 8, 4, 859]), (1, .iconst 1, [0, 1]), (1, .iadd, []), (3, .putfield 54, [0, 8, 4, 859]), (1, .return_, [])])]
def bk_M_isBetter : List jx_B := [
  (0, [0, 1, 2], [(1, .aload_n 0, []), (1, .iconst 1, [0, 1]), (3, .invokevirtual 112, [0, 8, 39, 2, 1, 997]), (27, .tableswitch 60 0 2 #[27, 29, 31], [6, 1, 2, 3])]),
  (32, [], [(1, .iconst 0, [0, 0]), (1, .ireturn, [1])]),
  (34, [], [(1, .iconst 1, [0, 1]), (1, .ireturn, [1])]),
  (36, [0, 1, 2], [(1, .aload_n 0, []), (3, .getfield 7, [2, 8, 0, 855]), (1, .aload_n 0, []), (1, .iload_n 1, []), (3, .invokevirtual 161, [0, 8, 41, 2, 1, 1013]), (1, .iaload, [0]), (1, .aload_n 0, []), (3, .getfield 7, [2, 8, 0, 855]), (1, .aload_n 0, []), (1, .iload_n 2, []), (3, .invokevirtual 161, [0, 8, 41, 2, 1, 1013]), (1, .iaload, [0]), (3, .if_icmp .ge 7, [4]), (1, .iconst 1, [0, 1]), (3, .goto 4, [5])]),
  (63, [], [(1, .iconst 0, [0, 0]), (0, .nop, [5])]),
  (64, [], [(1, .ireturn, [1])]),
  (65, [0, 1, 2], [(1, .aload_n 0, []), (3, .getfield 7, [2, 8, 0, 855]), (1, .aload_n 0, []), (1, .iload_n 1, []), (3, .invokevirtual 161, [0, 8, 41, 2, 1, 1013]), (1, .iconst 1, [0, 1]), (1, .iadd, []), (1, .iaload, [0]), (1, .aload_n 0, []), (3, .getfield 7, [2, 8, 0, 855]), (1, .aload_n 0, []), (1, .iload_n 2, []), (3, .invokevirtual 161, [0, 8, 41, 2, 1, 1013]), (1, .iconst 1, [0, 1]), (1, .iadd, []), (1, .iaload, [0]), (3, .if_icmp .le 7, [7]), (1, .iconst 1, [0, 1]), (3, .goto 4, [8])]),
  (96, [], [(1, .iconst 0, [0, 0]), (0, .nop, [8])]),
  (97, [], [(1, .ireturn, [1])])]
def bk_M_isPossible : List jx_B := [
  (0, [0, 1], [(1, .iload_n 1, []), (2, .bipush 25, [0, 25]), (3, .if_icmp .ge 16, [1]), (1, .aload_n 0, []), (2, .bipush 7, [0, 7]), (3, .invokevirtual 112, [0, 8, 39, 2, 1, 997]), (1, .iload_n 1, []), (1, .ishr, []), (1, .iconst 1, [0, 1]), (1, .iand, []), (3, .goto 16, [2])]),
  (19, [0, 1], [(1, .aload_n 0, []), (2, .bipush 8, [0, 8]), (3, .invokevirtual 112, [0, 8, 39, 2, 1, 997]), (1, .iload_n 1, []), (2, .bipush 25, [0, 25]), (1, .isub, []), (1, .ishr, []), (1, .iconst 1, [0, 1]), (1, .iand, []), (0, .nop, [2])]),
  (32, [], [(1, .iconst 1, [0, 1]), (3, .if_icmp .ne 7, [3]), (1, .iconst 1, [0, 1]), (3, .goto 4, [4])]),
  (40, [], [(1, .iconst 0, [0, 0]), (0, .nop, [4])]),
  (41, [], [(1, .ireturn, [1])])]
def bk_M_isWord : List jx_B := [
  (0, [0], [(1, .iload_n 0, []), (1, .iconst 0, [0, 0]), (1, .iconst 5, [0, 5]), (3, .invokestatic 85, [0, 34, 3, 1, 911]), (1, .ireturn, [1])])]
def bk_M_laysPossible : List jx_B := [
  (0, [0, 1, 2], [(1, .aload_n 0, []), (2, .bipush 7, [0, 7]), (1, .iload_n 1, []), (3, .invokevirtual 115, [0, 8, 42, 3, 0, 993]), (1, .aload_n 0, []), (2, .bipush 8, [0, 8]), (1, .iload_n 2, []), (3, .invokevirtual 115, [0, 8, 42, 3, 0, 993]), (1, .return_, [])])]
def bk_M_longest : List jx_B := [
  (0, [0, 1, 2], [(1, .iload_n 2, []), (1, .iload_n 1, []), (3, .if_icmp .ge 7, [1]), (1, .iload_n 2, []), (3, .goto 4, [2])]),
  (9, [0, 1], [(1, .iload_n 1, []), (0, .nop, [2])]),
  (10, [0, 1], [(1, .istore_n 3, []), (0, .nop, [3])]),
  (11, [0, 1, 3], [(1, .iload_n 3, []), (3, .ifCond .le 29, [5]), (1, .aload_n 0, []), (1, .iload_n 1, []), (1, .iload_n 3, []), (1, .isub, []), (1, .iload_n 3, []), (3, .invokevirtual 61, [0, 8, 38, 3, 1, 847]), (2, .istore 4, []), (2, .iload 4, []), (2, .bipush (-9), [1, 9]), (3, .if_icmp .eq 6, [4]), (2, .iload 4, []), (1, .ireturn, [0])]),
  (35, [0, 1, 3], [(3, .iinc 3 (-1), [1, 1]), (3, .goto (-27), [3])]),
  (41, [], [(1, .iconst 0, [0, 0]), (1, .ireturn, [0])])]
def bk_M_next : List jx_B := [
  (0, [0, 1, 2], [(1, .iload_n 1, []), (1, .iconst 0, [0, 0]), (1, .aload_n 0, []), (3, .getfield 54, [0, 8, 4, 859]), (1, .iconst 1, [0, 1]), (1, .isub, []), (3, .invokestatic 85, [0, 34, 3, 1, 911]), (3, .ifCond .eq 27, [1]), (1, .iload_n 2, []), (1, .iconst 0, [0, 0]), (2, .bipush 25, [0, 25]), (3, .invokestatic 85, [0, 34, 3, 1, 911]), (3, .ifCond .eq 17, [1]), (1, .aload_n 0, []), (3, .getfield 31, [2, 8, 10, 865]), (2, .bipush 26, [0, 26]), (1, .iload_n 1, []), (1, .imul, []), (1, .iload_n 2, []), (1, .iadd, []), (1, .iaload, [0]), (3, .goto 4, [2])]),
  (38, [], [(1, .iconst (-1), [1, 1]), (0, .nop, [2])]),
  (39, [], [(1, .ireturn, [0])])]
def bk_M_node : List jx_B := [
  (0, [0, 1, 2], [(1, .iload_n 1, []), (1, .iconst 0, [0, 0]), (1, .aload_n 0, []), (3, .getfield 54, [0, 8, 4, 859]), (1, .iconst 1, [0, 1]), (1, .isub, []), (3, .invokestatic 85, [0, 34, 3, 1, 911]), (3, .ifCond .eq 12, [1]), (1, .iload_n 2, []), (1, .iconst 0, [0, 0]), (1, .iconst 4, [0, 4]), (3, .invokestatic 85, [0, 34, 3, 1, 911]), (3, .ifCond .ne 5, [2]), (0, .nop, [1])]),
  (23, [], [(1, .iconst (-1), [1, 1]), (1, .ireturn, [0])]),
  (25, [0, 1, 2], [(1, .iload_n 2, []), (30, .tableswitch 79 0 3 #[30, 37, 44, 72], [9, 3, 4, 5, 8])]),
  (56, [0, 1], [(1, .aload_n 0, []), (3, .getfield 16, [2, 8, 5, 860]), (1, .iload_n 1, []), (1, .iaload, [0]), (1, .ireturn, [0])]),
  (63, [0, 1], [(1, .aload_n 0, []), (3, .getfield 22, [2, 8, 7, 862]), (1, .iload_n 1, []), (1, .iaload, [0]), (1, .ireturn, [0])]),
  (70, [0, 1], [(1, .iload_n 1, []), (3, .ifCond .ne 8, [6]), (2, .bipush (-9), [1, 9]), (3, .goto 21, [7])]),
  (79, [0, 1], [(1, .aload_n 0, []), (3, .getfield 19, [2, 8, 6, 861]), (2, .bipush 8, [0, 8]), (1, .iload_n 1, []), (1, .imul, []), (1, .aload_n 0, []), (3, .getfield 16, [2, 8, 5, 860]), (1, .iload_n 1, []), (1, .iaload, [0]), (1, .iadd, []), (1, .iconst 1, [0, 1]), (1, .isub, []), (1, .iaload, [0]), (0, .nop, [7])]),
  (97, [], [(1, .ireturn, [0])]),
  (98, [0, 1], [(1, .aload_n 0, []), (3, .getfield 25, [2, 8, 8, 863]), (1, .iload_n 1, []), (1, .iaload, [0]), (1, .ireturn, [0])]),
  (105, [0, 1], [(1, .aload_n 0, []), (3, .getfield 28, [2, 8, 9, 864]), (1, .iload_n 1, []), (1, .iaload, [0]), (1, .ireturn, [0])])]
def bk_M_placeOf : List jx_B := [
  (0, [0, 1], [(1, .iconst 0, [0, 0]), (1, .istore_n 2, []), (0, .nop, [1])]),
  (2, [0, 1, 2], [(1, .iload_n 2, []), (1, .aload_n 0, []), (3, .getfield 7, [2, 8, 0, 855]), (2, .bipush 57, [0, 57]), (1, .iaload, [0]), (3, .if_icmp .ge 27, [3]), (1, .aload_n 0, []), (3, .getfield 7, [2, 8, 0, 855]), (1, .aload_n 0, []), (1, .iload_n 2, []), (3, .invokevirtual 92, [0, 8, 43, 2, 1, 941]), (1, .iconst 0, [0, 0]), (1, .iadd, []), (1, .iaload, [0]), (1, .iload_n 1, []), (3, .if_icmp .ne 5, [2]), (1, .iload_n 2, []), (1, .ireturn, [0])]),
  (31, [0, 1, 2], [(3, .iinc 2 1, [0, 1]), (3, .goto (-32), [1])]),
  (37, [], [(2, .bipush (-9), [1, 9]), (1, .ireturn, [0])])]
def bk_M_possibleNow : List jx_B := [
  (0, [0], [(1, .aload_n 0, []), (2, .bipush 7, [0, 7]), (3, .invokevirtual 112, [0, 8, 39, 2, 1, 997]), (1, .i2l, []), (1, .aload_n 0, []), (2, .bipush 8, [0, 8]), (3, .invokevirtual 112, [0, 8, 39, 2, 1, 997]), (1, .i2l, []), (2, .bipush 25, [0, 25]), (1, .lshl, []), (1, .ladd, []), (1, .lreturn, [])])]
def bk_M_readNow : List jx_B := [
  (0, [0, 1], [(1, .iload_n 1, []), (1, .aload_n 0, []), (2, .bipush 18, [0, 18]), (3, .invokevirtual 112, [0, 8, 39, 2, 1, 997]), (3, .if_icmp .ge 14, [1]), (1, .aload_n 0, []), (2, .bipush 22, [0, 22]), (1, .iload_n 1, []), (1, .iadd, []), (3, .invokevirtual 112, [0, 8, 39, 2, 1, 997]), (3, .goto 5, [2])]),
  (21, [], [(2, .bipush (-9), [1, 9]), (0, .nop, [2])]),
  (23, [], [(1, .ireturn, [0])])]
def bk_M_records : List jx_B := [
  (0, [0, 1, 2, 3], [(1, .aload_n 0, []), (3, .getfield 7, [2, 8, 0, 855]), (2, .bipush 62, [0, 62]), (1, .iaload, [0]), (2, .bipush 30, [0, 30]), (3, .if_icmp .ne 48, [4]), (2, .bipush 66, [0, 66]), (2, .istore 4, []), (0, .nop, [1])]),
  (16, [0, 1, 2, 3, 4], [(2, .iload 4, []), (3, .sipush 182, [0, 182]), (3, .if_icmp .ge 25, [3]), (1, .aload_n 0, []), (3, .getfield 7, [2, 8, 0, 855]), (2, .iload 4, []), (1, .aload_n 0, []), (3, .getfield 7, [2, 8, 0, 855]), (2, .iload 4, []), (1, .iconst 4, [0, 4]), (1, .iadd, []), (1, .iaload, [0]), (1, .iastore, []), (0, .nop, [2])]),
  (40, [0, 1, 2, 3, 4], [(3, .iinc 4 1, [0, 1]), (3, .goto (-27), [1])]),
  (46, [0, 1, 2, 3], [(1, .aload_n 0, []), (3, .getfield 7, [2, 8, 0, 855]), (2, .bipush 62, [0, 62]), (1, .dup2, []), (1, .iaload, [0]), (1, .iconst 1, [0, 1]), (1, .isub, []), (1, .iastore, []), (0, .nop, [4])]),
  (57, [0, 1, 2, 3], [(2, .bipush 66, [0, 66]), (1, .iconst 4, [0, 4]), (1, .aload_n 0, []), (3, .getfield 7, [2, 8, 0, 855]), (2, .bipush 62, [0, 62]), (1, .iaload, [0]), (1, .imul, []), (1, .iadd, []), (2, .istore 4, []), (1, .aload_n 0, []), (3, .getfield 7, [2, 8, 0, 855]), (2, .iload 4, []), (1, .aload_n 0, []), (1, .iconst 0, [0, 0]), (3, .invokevirtual 112, [0, 8, 39, 2, 1, 997]), (1, .iastore, []), (0, .nop, [5])]),
  (83, [0, 1, 2, 3, 4], [(1, .aload_n 0, []), (3, .getfield 7, [2, 8, 0, 855]), (2, .iload 4, []), (1, .iconst 1, [0, 1]), (1, .iadd, []), (1, .iload_n 1, []), (1, .iastore, []), (0, .nop, [6])]),
  (93, [0, 1, 2, 3, 4], [(1, .aload_n 0, []), (3, .getfield 7, [2, 8, 0, 855]), (2, .iload 4, []), (1, .iconst 2, [0, 2]), (1, .iadd, []), (1, .iload_n 2, []), (1, .iastore, []), (0, .nop, [7])]),
  (103, [0, 1, 2, 3, 4], [(1, .aload_n 0, []), (3, .getfield 7, [2, 8, 0, 855]), (2, .iload 4, []), (1, .iconst 3, [0, 3]), (1, .iadd, []), (1, .iload_n 3, []), (1, .iastore, []), (0, .nop, [8])]),
  (113, [0, 1, 2], [(1, .aload_n 0, []), (3, .getfield 7, [2, 8, 0, 855]), (2, .bipush 62, [0, 62]), (1, .dup2, []), (1, .iaload, [0]), (1, .iconst 1, [0, 1]), (1, .iadd, []), (1, .iastore, []), (0, .nop, [9])]),
  (124, [0, 1, 2], [(1, .aload_n 0, []), (1, .dup, []), (3, .getfield 118, [0, 8, 13, 868]), (1, .iconst 1, [0, 1]), (1, .iadd, []), (3, .putfield 118, [0, 8, 13, 868]), (1, .aload_n 0, []), (3, .getfield 7, [2, 8, 0, 855]), (1, .iload_n 2, []), (2, .bipush (-9), [1, 9]), (3, .if_icmp .ne 8, [10]), (2, .bipush 64, [0, 64]), (3, .goto 5, [11])]),
  (149, [0, 1, 2], [(2, .bipush 63, [0, 63]), (0, .nop, [11])]),
  (151, [0, 1, 2], [(1, .dup2, []), (1, .iaload, [0]), (1, .iconst 1, [0, 1]), (1, .iadd, []), (1, .iastore, []), (0, .nop, [12])]),
  (156, [0, 1, 2], [(1, .aload_n 0, []), (1, .iload_n 2, []), (2, .bipush (-9), [1, 9]), (3, .if_icmp .ne 8, [13]), (2, .bipush 20, [0, 20]), (3, .goto 5, [14])]),
  (168, [0, 1, 2], [(2, .bipush 19, [0, 19]), (0, .nop, [14])]),
  (170, [0, 1, 2], [(1, .iconst 1, [0, 1]), (3, .invokevirtual 121, [0, 8, 29, 3, 0, 1001]), (1, .aload_n 0, []), (1, .dup, []), (3, .getfield 124, [0, 8, 14, 869]), (1, .iload_n 2, []), (2, .bipush (-9), [1, 9]), (3, .if_icmp .ne 7, [15]), (1, .iconst 0, [0, 0]), (3, .goto 6, [16])]),
  (189, [1], [(1, .iconst 1, [0, 1]), (1, .iload_n 1, []), (1, .ishl, []), (0, .nop, [16])]),
  (192, [], [(1, .ior, []), (3, .putfield 124, [0, 8, 14, 869]), (1, .return_, [])])]
def bk_M_starts : List jx_B := [
  (0, [0, 1, 2, 3, 4], [(1, .iconst 0, [0, 0]), (2, .istore 5, []), (0, .nop, [1])]),
  (3, [0, 1, 2, 3, 4, 5], [(2, .iload 5, []), (3, .sipush 710, [0, 710]), (3, .if_icmp .ge 22, [2]), (1, .aload_n 0, []), (3, .getfield 7, [2, 8, 0, 855]), (1, .aload_n 0, []), (3, .getfield 109, [0, 8, 12, 867]), (2, .iload 5, []), (1, .iadd, []), (1, .iconst 0, [0, 0]), (1, .iastore, []), (3, .iinc 5 1, [0, 1]), (3, .goto (-24), [1])]),
  (30, [0, 1, 2, 3, 4], [(1, .aload_n 0, []), (1, .iconst 0, [0, 0]), (1, .iload_n 1, []), (3, .invokevirtual 115, [0, 8, 42, 3, 0, 993]), (1, .aload_n 0, []), (1, .iconst 1, [0, 1]), (1, .iload_n 2, []), (3, .invokevirtual 115, [0, 8, 42, 3, 0, 993]), (1, .aload_n 0, []), (1, .iconst 2, [0, 2]), (1, .iload_n 3, []), (3, .invokevirtual 115, [0, 8, 42, 3, 0, 993]), (1, .aload_n 0, []), (1, .iconst 3, [0, 3]), (2, .iload 4, []), (3, .invokevirtual 115, [0, 8, 42, 3, 0, 993]), (1, .aload_n 0, []), (2, .bipush 7, [0, 7]), (1, .iconst 1, [0, 1]), (3, .invokevirtual 115, [0, 8, 42, 3, 0, 993]), (1, .return_, [])])]
def bk_M_type : List jx_B := [
  (0, [0, 1], [(1, .iload_n 1, []), (2, .bipush 32, [0, 32]), (2, .bipush 126, [0, 126]), (3, .invokestatic 85, [0, 34, 3, 1, 911]), (3, .ifCond .ne 5, [1]), (1, .iconst (-1), [1, 1]), (1, .ireturn, [0])]),
  (13, [0, 1], [(1, .aload_n 0, []), (3, .getfield 89, [0, 8, 3, 858]), (2, .bipush 40, [0, 40]), (3, .if_icmp .ne 6, [2]), (2, .bipush (-3), [1, 3]), (1, .ireturn, [0])]),
  (25, [0, 1], [(1, .aload_n 0, []), (3, .getfield 13, [2, 8, 2, 857]), (1, .aload_n 0, []), (3, .getfield 89, [0, 8, 3, 858]), (1, .iload_n 1, []), (1, .iastore, []), (1, .aload_n 0, []), (1, .dup, []), (3, .getfield 89, [0, 8, 3, 858]), (1, .iconst 1, [0, 1]), (1, .iadd, []), (3, .putfield 89, [0, 8, 3, 858]), (1, .aload_n 0, []), (3, .getfield 89, [0, 8, 3, 858]), (1, .ireturn, [0])])]
def bk_T_told : List jx_B := [
  (0, [0, 1], [(1, .iload_n 1, []), (63, .tableswitch 171 0 11 #[63, 74, 82, 92, 102, 112, 120, 131, 142, 153, 161, 166], [13, 1, 2, 3, 4, 5, 6, 7, 8, 9, 10, 11, 12])]),
  (64, [0], [(1, .aload_n 0, []), (3, .getfield 32, [2, 7, 3, 365]), (3, .getfield 64, [2, 5, 0, 335]), (3, .invokevirtual 182, [0, 6, 76, 1, 1, 764]), (1, .ireturn, [0])]),
  (75, [0], [(1, .aload_n 0, []), (3, .getfield 20, [2, 7, 2, 364]), (3, .getfield 77, [0, 0, 0, 104]), (1, .ireturn, [0])]),
  (83, [0], [(1, .aload_n 0, []), (3, .getfield 32, [2, 7, 3, 365]), (3, .getfield 119, [2, 5, 1, 337]), (1, .iconst 0, [0, 0]), (1, .iaload, [0]), (1, .ireturn, [0])]),
  (93, [0], [(1, .aload_n 0, []), (3, .getfield 32, [2, 7, 3, 365]), (3, .getfield 119, [2, 5, 1, 337]), (1, .iconst 1, [0, 1]), (1, .iaload, [0]), (1, .ireturn, [0])]),
  (103, [0], [(1, .aload_n 0, []), (3, .getfield 32, [2, 7, 3, 365]), (3, .getfield 119, [2, 5, 1, 337]), (1, .iconst 2, [0, 2]), (1, .iaload, [0]), (1, .ireturn, [0])]),
  (113, [0], [(1, .aload_n 0, []), (3, .getfield 32, [2, 7, 3, 365]), (3, .getfield 151, [0, 5, 4, 343]), (1, .ireturn, [0])]),
  (121, [0], [(1, .aload_n 0, []), (3, .getfield 32, [2, 7, 3, 365]), (3, .getfield 136, [2, 5, 2, 339]), (3, .getfield 185, [0, 1, 2, 153]), (1, .ireturn, [0])]),
  (132, [0], [(1, .aload_n 0, []), (3, .getfield 32, [2, 7, 3, 365]), (3, .getfield 136, [2, 5, 2, 339]), (3, .getfield 188, [0, 1, 0, 149]), (1, .ireturn, [0])]),
  (143, [0], [(1, .aload_n 0, []), (3, .getfield 32, [2, 7, 3, 365]), (3, .getfield 136, [2, 5, 2, 339]), (3, .getfield 191, [0, 1, 1, 151]), (1, .ireturn, [0])]),
  (154, [0], [(1, .aload_n 0, []), (3, .getfield 32, [2, 7, 3, 365]), (3, .getfield 194, [0, 5, 5, 345]), (1, .ireturn, [0])]),
  (162, [0], [(1, .aload_n 0, []), (3, .getfield 50, [0, 7, 7, 369]), (1, .ireturn, [0])]),
  (167, [0], [(1, .aload_n 0, []), (3, .getfield 13, [0, 7, 1, 363]), (1, .ireturn, [0])]),
  (172, [], [(1, .iconst (-1), [1, 1]), (1, .ireturn, [0])])]
def bk_A_addChildren : List jx_B := [
  (0, [0, 1, 2, 3], [(1, .iconst 0, [0, 0]), (2, .istore 4, []), (0, .nop, [1])]),
  (3, [0, 1, 2, 3, 4], [(2, .iload 4, []), (2, .bipush 26, [0, 26]), (3, .if_icmp .ge 106, [7]), (1, .iconst (-1), [1, 1]), (2, .istore 5, []), (1, .iconst 0, [0, 0]), (2, .istore 6, []), (0, .nop, [2])]),
  (16, [0, 1, 2, 3, 4, 5, 6], [(2, .iload 6, []), (2, .bipush 6, [0, 6]), (3, .if_icmp .ge 87, [6]), (1, .aload_n 0, []), (3, .getfield 37, [2, 0, 8, 118]), (2, .iload 6, []), (1, .iaload, [0]), (1, .iload_n 2, []), (3, .if_icmp .ne 70, [5]), (1, .aload_n 1, []), (2, .iload 6, []), (1, .iload_n 3, []), (1, .iconst 1, [0, 1]), (1, .isub, []), (3, .invokevirtual 57, [0, 6, 27, 3, 1, 482]), (2, .iload 4, []), (3, .if_icmp .eq 6, [3]), (3, .goto 53, [5])]),
  (51, [0, 1, 2, 3, 4, 5, 6], [(2, .iload 5, []), (1, .iconst (-1), [1, 1]), (3, .if_icmp .ne 13, [4]), (1, .aload_n 0, []), (1, .iload_n 2, []), (2, .iload 4, []), (1, .iload_n 3, []), (3, .invokevirtual 61, [0, 0, 58, 4, 1, 486]), (2, .istore 5, []), (0, .nop, [4])]),
  (67, [0, 1, 2, 3, 4, 5, 6], [(1, .aload_n 0, []), (3, .getfield 37, [2, 0, 8, 118]), (2, .iload 6, []), (2, .iload 5, []), (1, .iastore, []), (1, .aload_n 0, []), (3, .getfield 31, [2, 0, 6, 115]), (2, .iload 6, []), (1, .iaload, [0]), (1, .iload_n 3, []), (3, .if_icmp .ne 17, [5]), (1, .aload_n 0, []), (3, .getfield 28, [2, 0, 5, 113]), (2, .iload 5, []), (1, .dup2, []), (1, .iaload, [0]), (1, .iconst 1, [0, 1]), (2, .iload 6, []), (1, .ishl, []), (1, .ior, []), (1, .iastore, []), (0, .nop, [5])]),
  (101, [0, 1, 2, 3, 4, 5, 6], [(3, .iinc 6 1, [0, 1]), (3, .goto (-88), [2])]),
  (107, [0, 1, 2, 3, 4], [(3, .iinc 4 1, [0, 1]), (3, .goto (-107), [1])]),
  (113, [], [(1, .return_, [])])]
def bk_A_fewestLettersToWord : List jx_B := [
  (0, [0, 1], [(1, .lconst 1, []), (1, .iload_n 1, []), (1, .lshl, []), (1, .lstore_n 2, []), (1, .iconst 1, [0, 1]), (2, .istore 4, []), (0, .nop, [1])]),
  (7, [0, 2, 4], [(2, .iload 4, []), (2, .bipush 8, [0, 8]), (3, .if_icmp .gt 26, [3]), (1, .aload_n 0, []), (1, .lload_n 2, []), (3, .invokevirtual 81, [0, 0, 60, 2, 2, 697]), (1, .lstore_n 2, []), (1, .aload_n 0, []), (1, .lload_n 2, []), (3, .invokevirtual 85, [0, 0, 12, 2, 1, 794]), (3, .ifCond .eq 6, [2]), (2, .iload 4, []), (1, .ireturn, [0])]),
  (31, [0, 2, 4], [(3, .iinc 4 1, [0, 1]), (3, .goto (-27), [1])]),
  (37, [], [(2, .bipush (-9), [1, 9]), (1, .ireturn, [0])])]
def bk_A_spread : List jx_B := [
  (0, [0, 1, 3], [(1, .lload_n 1, []), (2, .lstore 4, []), (1, .iconst 0, [0, 0]), (2, .istore 6, []), (0, .nop, [1])]),
  (6, [0, 3, 4, 6], [(2, .iload 6, []), (1, .iload_n 3, []), (3, .if_icmp .ge 37, [3]), (2, .lload 4, []), (1, .aload_n 0, []), (2, .lload 4, []), (3, .invokevirtual 81, [0, 0, 60, 2, 2, 697]), (1, .lor, []), (1, .lconst 1, []), (1, .lor, []), (2, .lstore 7, []), (2, .lload 7, []), (2, .lload 4, []), (1, .lcmp, []), (3, .ifCond .ne 6, [2]), (3, .goto 13, [3])]),
  (36, [0, 3, 6, 7], [(2, .lload 7, []), (2, .lstore 4, []), (3, .iinc 6 1, [0, 1]), (3, .goto (-37), [1])]),
  (46, [4], [(2, .lload 4, []), (1, .lreturn, [])])]
def bk_Fl_init : List jx_B := [
  (0, [0, 1, 2], [(1, .aload_n 0, []), (3, .invokespecial 3, [2, 200, 95, 96]), (1, .aload_n 0, []), (3, .new 9, [4, 201, 202, 81]), (1, .dup, []), (2, .bipush 6, [0, 6]), (3, .invokespecial 11, [0, 68, 2, 203]), (3, .putfield 14, [2, 2, 4, 298]), (1, .aload_n 0, []), (3, .new 9, [4, 201, 202, 81]), (1, .dup, []), (2, .bipush 10, [0, 10]), (3, .invokespecial 11, [0, 68, 2, 203]), (3, .putfield 20, [2, 2, 5, 300]), (1, .aload_n 0, []), (3, .new 23, [3, 227, 228, 82]), (1, .dup, []), (1, .aload_n 1, []), (1, .aload_n 2, []), (3, .invokespecial 25, [0, 64, 3, 229]), (3, .putfield 28, [2, 2, 6, 302]), (1, .return_, [])])]
def bk_Fl_begin : List jx_B := [
  (0, [0, 1, 2, 3, 4], [(1, .aload_n 0, []), (1, .iload_n 1, []), (3, .putfield 32, [0, 2, 0, 290]), (1, .aload_n 0, []), (1, .iload_n 2, []), (3, .putfield 36, [0, 2, 1, 293]), (1, .aload_n 0, []), (2, .iload 4, []), (3, .putfield 39, [0, 2, 2, 294]), (1, .aload_n 0, []), (1, .iconst 0, [0, 0]), (3, .putfield 42, [0, 2, 3, 296]), (0, .nop, [1])]),
  (21, [0, 1, 3], [(1, .aload_n 0, []), (3, .getfield 14, [2, 2, 4, 298]), (1, .iconst 0, [0, 0]), (3, .putfield 45, [0, 4, 0, 208]), (1, .aload_n 0, []), (3, .getfield 20, [2, 2, 5, 300]), (1, .iconst 0, [0, 0]), (3, .putfield 45, [0, 4, 0, 208]), (1, .aload_n 0, []), (3, .getfield 28, [2, 2, 6, 302]), (1, .iload_n 1, []), (1, .iload_n 3, []), (3, .invokevirtual 48, [0, 3, 65, 3, 0, 586]), (1, .aload_n 0, []), (1, .iconst 0, [0, 0]), (3, .putfield 52, [0, 2, 7, 304]), (1, .aload_n 0, []), (1, .iconst 0, [0, 0]), (3, .putfield 55, [0, 2, 8, 305]), (0, .nop, [2])]),
  (56, [0], [(1, .aload_n 0, []), (1, .iconst 0, [0, 0]), (3, .putfield 58, [0, 2, 9, 306]), (1, .aload_n 0, []), (1, .iconst 0, [0, 0]), (3, .putfield 61, [0, 2, 10, 307]), (1, .aload_n 0, []), (1, .iconst 0, [0, 0]), (3, .putfield 64, [0, 2, 11, 308]), (1, .return_, [])])]
def bk_Fl_chosenByte : List jx_B := [
  (0, [0, 1], [(1, .iload_n 1, []), (1, .aload_n 0, []), (3, .getfield 42, [0, 2, 3, 296]), (3, .if_icmp .ge 6, [1]), (2, .bipush (-9), [1, 9]), (1, .ireturn, [0])]),
  (11, [0, 1], [(1, .aload_n 0, []), (3, .getfield 14, [2, 2, 4, 298]), (1, .aload_n 0, []), (1, .iload_n 1, []), (3, .invokevirtual 91, [0, 2, 63, 2, 1, 600]), (1, .iload_n 1, []), (3, .invokevirtual 94, [0, 4, 69, 3, 1, 612]), (1, .ireturn, [0])])]
def bk_Fl_isDisputed : List jx_B := [
  (0, [0, 1, 2], [(1, .iconst 0, [0, 0]), (1, .istore_n 3, []), (0, .nop, [1])]),
  (2, [0, 1, 2, 3], [(1, .iload_n 3, []), (1, .aload_n 0, []), (3, .getfield 14, [2, 2, 4, 298]), (3, .getfield 45, [0, 4, 0, 208]), (3, .if_icmp .ge 35, [3]), (1, .aload_n 0, []), (3, .getfield 14, [2, 2, 4, 298]), (1, .iload_n 3, []), (1, .iload_n 1, []), (3, .invokevirtual 94, [0, 4, 69, 3, 1, 612]), (2, .istore 4, []), (2, .iload 4, []), (2, .bipush (-9), [1, 9]), (3, .if_icmp .eq 11, [2]), (2, .iload 4, []), (1, .iload_n 2, []), (3, .if_icmp .eq 5, [2]), (1, .iconst 1, [0, 1]), (1, .ireturn, [1])]),
  (39, [0, 1, 2, 3], [(3, .iinc 3 1, [0, 1]), (3, .goto (-40), [1])]),
  (45, [], [(1, .iconst 0, [0, 0]), (1, .ireturn, [1])])]
def bk_R_release : List jx_B := [
  (0, [0, 1], [(1, .aload_n 0, []), (3, .getfield 33, [0, 3, 4, 239]), (1, .istore_n 2, []), (1, .aload_n 0, []), (1, .iconst 0, [0, 0]), (3, .putfield 33, [0, 3, 4, 239]), (1, .iload_n 2, []), (3, .ifCond .le 17, [1]), (1, .aload_n 0, []), (2, .bipush 37, [0, 37]), (1, .iload_n 1, []), (1, .iload_n 2, []), (1, .isub, []), (1, .iload_n 1, []), (1, .iload_n 2, []), (1, .isub, []), (1, .iconst 1, [0, 1]), (1, .iadd, []), (3, .invokevirtual 71, [0, 3, 66, 4, 0, 625]), (0, .nop, [1])]),
  (28, [0, 1, 2], [(1, .iload_n 2, []), (1, .iconst 1, [0, 1]), (3, .if_icmp .le 15, [2]), (1, .aload_n 0, []), (1, .aload_n 0, []), (3, .getfield 62, [0, 3, 5, 241]), (1, .iload_n 1, []), (1, .iconst 1, [0, 1]), (1, .isub, []), (1, .iload_n 1, []), (3, .invokevirtual 71, [0, 3, 66, 4, 0, 625]), (0, .nop, [2])]),
  (45, [], [(1, .return_, [])])]
def bk_Sg_add : List jx_B := [
  (0, [0, 1, 2, 3, 4], [(1, .aload_n 0, []), (3, .invokevirtual 30, [0, 4, 23, 1, 1, 446]), (3, .ifCond .ne 25, [1]), (1, .iload_n 3, []), (3, .ifCond .lt 21, [1]), (1, .iload_n 3, []), (2, .bipush 40, [0, 40]), (3, .if_icmp .gt 15, [1]), (1, .iload_n 2, []), (3, .ifCond .lt 11, [1]), (1, .iload_n 2, []), (1, .aload_n 1, []), (1, .arraylength, [2]), (1, .iload_n 3, []), (1, .isub, []), (3, .if_icmp .le 4, [2]), (0, .nop, [1])]),
  (29, [], [(1, .return_, [])]),
  (30, [0, 1, 2, 3, 4], [(1, .aload_n 0, []), (1, .aload_n 0, []), (3, .getfield 9, [0, 4, 0, 207]), (1, .aload_n 1, []), (1, .iload_n 2, []), (1, .iload_n 3, []), (2, .iload 4, []), (3, .invokevirtual 34, [0, 4, 71, 6, 0, 450]), (1, .aload_n 0, []), (1, .dup, []), (3, .getfield 9, [0, 4, 0, 207]), (1, .iconst 1, [0, 1]), (1, .iadd, []), (3, .putfield 9, [0, 4, 0, 207]), (1, .return_, [])])]
def bk_Sg_coveredFrom : List jx_B := [
  (0, [0, 1], [(1, .iconst 0, [0, 0]), (1, .istore_n 2, []), (1, .iconst 0, [0, 0]), (1, .istore_n 3, []), (0, .nop, [1])]),
  (4, [0, 1, 2, 3], [(1, .iload_n 3, []), (1, .aload_n 0, []), (3, .getfield 9, [0, 4, 0, 207]), (3, .if_icmp .ge 62, [5]), (1, .aload_n 0, []), (3, .getfield 15, [2, 4, 1, 210]), (1, .iload_n 3, []), (1, .iaload, [0]), (1, .aload_n 0, []), (3, .getfield 19, [2, 4, 2, 213]), (1, .iload_n 3, []), (1, .iaload, [0]), (1, .iadd, []), (2, .istore 4, []), (1, .iload_n 1, []), (1, .aload_n 0, []), (3, .getfield 15, [2, 4, 1, 210]), (1, .iload_n 3, []), (1, .iaload, [0]), (3, .invokestatic 48, [5, 673, 674, 85, 675]), (2, .istore 5, []), (0, .nop, [2])]),
  (39, [0, 1, 2, 3, 4, 5], [(2, .iload 5, []), (2, .iload 4, []), (3, .if_icmp .ge 22, [4]), (1, .aload_n 0, []), (1, .iload_n 3, []), (2, .iload 5, []), (3, .invokevirtual 54, [0, 4, 70, 3, 1, 676]), (3, .ifCond .ne 6, [3]), (3, .iinc 2 1, [0, 1]), (0, .nop, [3])]),
  (59, [0, 1, 2, 3, 4, 5], [(3, .iinc 5 1, [0, 1]), (3, .goto (-23), [2])]),
  (65, [0, 1, 2, 3], [(3, .iinc 3 1, [0, 1]), (3, .goto (-64), [1])]),
  (71, [2], [(1, .iload_n 2, []), (1, .ireturn, [0])])]
def bk_Sg_dropBefore : List jx_B := [
  (0, [0, 1], [(1, .iconst 0, [0, 0]), (1, .istore_n 2, []), (1, .iconst 0, [0, 0]), (1, .istore_n 3, []), (0, .nop, [1])]),
  (4, [0, 1, 2, 3], [(1, .iload_n 3, []), (1, .aload_n 0, []), (3, .getfield 9, [0, 4, 0, 207]), (3, .if_icmp .ge 62, [5]), (1, .aload_n 0, []), (3, .getfield 15, [2, 4, 1, 210]), (1, .iload_n 3, []), (1, .iaload, [0]), (1, .aload_n 0, []), (3, .getfield 19, [2, 4, 2, 213]), (1, .iload_n 3, []), (1, .iaload, [0]), (1, .iadd, []), (1, .iload_n 1, []), (3, .if_icmp .gt 6, [2]), (3, .goto 36, [4])]),
  (32, [0, 1, 2, 3], [(1, .iload_n 2, []), (1, .iload_n 3, []), (3, .if_icmp .ge 28, [3]), (1, .aload_n 0, []), (1, .iload_n 2, []), (1, .aload_n 0, []), (3, .getfield 22, [2, 4, 3, 216]), (1, .iload_n 3, []), (2, .bipush 40, [0, 40]), (1, .imul, []), (1, .aload_n 0, []), (3, .getfield 19, [2, 4, 2, 213]), (1, .iload_n 3, []), (1, .iaload, [0]), (1, .aload_n 0, []), (3, .getfield 15, [2, 4, 1, 210]), (1, .iload_n 3, []), (1, .iaload, [0]), (3, .invokevirtual 34, [0, 4, 71, 6, 0, 450]), (0, .nop, [3])]),
  (62, [0, 1, 2, 3], [(3, .iinc 2 1, [0, 1]), (0, .nop, [4])]),
  (65, [0, 1, 2, 3], [(3, .iinc 3 1, [0, 1]), (3, .goto (-64), [1])]),
  (71, [0, 2], [(1, .aload_n 0, []), (1, .iload_n 2, []), (3, .putfield 9, [0, 4, 0, 207]), (1, .return_, [])])]
def bk_M_asked : List jx_B := [
  (0, [0, 1], [(1, .aload_n 0, []), (1, .iload_n 1, []), (3, .invokevirtual 195, [0, 8, 97, 2, 1, 973]), (1, .istore_n 2, []), (1, .iload_n 1, []), (1, .iconst 0, [0, 0]), (2, .bipush 99, [0, 99]), (3, .invokestatic 85, [0, 34, 3, 1, 911]), (3, .ifCond .ne 7, [1]), (1, .iconst (-1), [1, 1]), (3, .goto 15, [3])]),
  (20, [2], [(1, .iload_n 2, []), (2, .bipush (-9), [1, 9]), (3, .if_icmp .ne 8, [2]), (2, .bipush (-2), [1, 2]), (3, .goto 4, [3])]),
  (31, [2], [(1, .iload_n 2, []), (0, .nop, [3])]),
  (32, [], [(1, .ireturn, [0])])]
def bk_M_chosen : List jx_B := [
  (0, [0, 1], [(2, .bipush (-9), [1, 9]), (1, .istore_n 2, []), (1, .iconst 0, [0, 0]), (1, .istore_n 3, []), (0, .nop, [1])]),
  (5, [0, 1, 2, 3], [(1, .iload_n 3, []), (1, .aload_n 0, []), (1, .iconst 5, [0, 5]), (3, .invokevirtual 112, [0, 8, 39, 2, 1, 997]), (3, .if_icmp .ge 35, [4]), (1, .aload_n 0, []), (1, .iload_n 3, []), (1, .iload_n 1, []), (3, .invokevirtual 164, [0, 8, 80, 3, 1, 1025]), (3, .ifCond .eq 20, [3]), (1, .iload_n 2, []), (2, .bipush (-9), [1, 9]), (3, .if_icmp .eq 12, [2]), (1, .aload_n 0, []), (1, .iload_n 3, []), (1, .iload_n 2, []), (3, .invokevirtual 167, [0, 8, 90, 3, 1, 1029]), (3, .ifCond .eq 5, [3]), (0, .nop, [2])]),
  (38, [0, 1, 3], [(1, .iload_n 3, []), (1, .istore_n 2, []), (0, .nop, [3])]),
  (40, [0, 1, 2, 3], [(3, .iinc 3 1, [0, 1]), (3, .goto (-38), [1])]),
  (46, [2], [(1, .iload_n 2, []), (1, .ireturn, [0])])]
def bk_M_isConflict : List jx_B := [
  (0, [0, 1], [(2, .bipush (-9), [1, 9]), (1, .istore_n 2, []), (1, .iconst 0, [0, 0]), (1, .istore_n 3, []), (1, .iconst 0, [0, 0]), (2, .istore 4, []), (0, .nop, [1])]),
  (8, [0, 1, 2, 3, 4], [(2, .iload 4, []), (1, .aload_n 0, []), (1, .iconst 5, [0, 5]), (3, .invokevirtual 112, [0, 8, 39, 2, 1, 997]), (3, .if_icmp .ge 54, [6]), (1, .aload_n 0, []), (2, .iload 4, []), (1, .iload_n 1, []), (3, .invokevirtual 164, [0, 8, 80, 3, 1, 1025]), (3, .ifCond .eq 38, [5]), (1, .iload_n 3, []), (3, .ifCond .ne 25, [2]), (1, .iload_n 2, []), (2, .bipush (-9), [1, 9]), (3, .if_icmp .eq 23, [3]), (1, .aload_n 0, []), (2, .iload 4, []), (1, .iload_n 1, []), (3, .invokevirtual 170, [0, 8, 79, 3, 1, 1033]), (1, .aload_n 0, []), (1, .iload_n 2, []), (1, .iload_n 1, []), (3, .invokevirtual 170, [0, 8, 79, 3, 1, 1033]), (3, .if_icmp .eq 7, [3]), (0, .nop, [2])]),
  (54, [0, 1, 4], [(1, .iconst 1, [0, 1]), (3, .goto 4, [4])]),
  (58, [0, 1, 4], [(1, .iconst 0, [0, 0]), (0, .nop, [4])]),
  (59, [0, 1, 4], [(1, .istore_n 3, []), (2, .iload 4, []), (1, .istore_n 2, []), (0, .nop, [5])]),
  (63, [0, 1, 2, 3, 4], [(3, .iinc 4 1, [0, 1]), (3, .goto (-58), [1])]),
  (69, [3], [(1, .iload_n 3, []), (1, .ireturn, [1])])]
def bk_M_lays : List jx_B := [
  (0, [0], [(1, .aload_n 0, []), (1, .iconst 1, [0, 1]), (3, .putfield 54, [0, 8, 4, 859]), (1, .aload_n 0, []), (3, .getfield 16, [2, 8, 5, 860]), (1, .iconst 0, [0, 0]), (1, .iconst 0, [0, 0]), (1, .iastore, []), (1, .iconst 0, [0, 0]), (1, .istore_n 1, []), (0, .nop, [1])]),
  (14, [0, 1], [(1, .iload_n 1, []), (2, .bipush 6, [0, 6]), (3, .if_icmp .ge 56, [6]), (1, .iconst 1, [0, 1]), (1, .istore_n 2, []), (0, .nop, [2])]),
  (22, [0, 1, 2], [(1, .iload_n 2, []), (1, .aload_n 0, []), (1, .iload_n 1, []), (3, .invokevirtual 64, [0, 8, 45, 2, 1, 823]), (3, .if_icmp .gt 39, [5]), (1, .iconst 0, [0, 0]), (1, .istore_n 3, []), (0, .nop, [3])]),
  (33, [0, 1, 2, 3], [(1, .iload_n 3, []), (1, .iload_n 2, []), (3, .if_icmp .ge 21, [4]), (1, .aload_n 0, []), (3, .getfield 34, [2, 8, 11, 866]), (1, .iload_n 3, []), (1, .aload_n 0, []), (1, .iload_n 1, []), (1, .iload_n 3, []), (3, .invokevirtual 68, [0, 8, 36, 3, 1, 827]), (1, .iastore, []), (3, .iinc 3 1, [0, 1]), (3, .goto (-20), [3])]),
  (56, [0, 1, 2], [(1, .aload_n 0, []), (1, .iload_n 2, []), (3, .invokevirtual 71, [0, 8, 89, 2, 0, 831]), (3, .iinc 2 1, [0, 1]), (3, .goto (-42), [2])]),
  (67, [0, 1], [(3, .iinc 1 1, [0, 1]), (3, .goto (-56), [1])]),
  (73, [0], [(1, .iconst 0, [0, 0]), (1, .istore_n 1, []), (0, .nop, [7])]),
  (75, [0, 1], [(1, .iload_n 1, []), (1, .aload_n 0, []), (3, .getfield 54, [0, 8, 4, 859]), (3, .if_icmp .ge 172, [18]), (1, .aload_n 0, []), (3, .getfield 28, [2, 8, 9, 864]), (1, .iload_n 1, []), (1, .iconst 0, [0, 0]), (1, .iastore, []), (1, .iconst 0, [0, 0]), (1, .istore_n 2, []), (0, .nop, [8])]),
  (92, [0, 1, 2], [(1, .iload_n 2, []), (2, .bipush 6, [0, 6]), (3, .if_icmp .ge 34, [11]), (1, .aload_n 0, []), (3, .getfield 28, [2, 8, 9, 864]), (1, .iload_n 1, []), (1, .dup2, []), (1, .iaload, [0]), (1, .aload_n 0, []), (1, .iload_n 1, []), (1, .iload_n 2, []), (3, .invokevirtual 75, [0, 8, 83, 3, 1, 839]), (3, .ifCond .eq 9, [9]), (1, .iconst 1, [0, 1]), (1, .iload_n 2, []), (1, .ishl, []), (3, .goto 4, [10])]),
  (120, [0, 1, 2], [(1, .iconst 0, [0, 0]), (0, .nop, [10])]),
  (121, [0, 1, 2], [(1, .ior, []), (1, .iastore, []), (3, .iinc 2 1, [0, 1]), (3, .goto (-34), [8])]),
  (129, [0, 1], [(1, .aload_n 0, []), (1, .iload_n 1, []), (3, .invokevirtual 79, [0, 8, 44, 2, 0, 843]), (1, .aload_n 0, []), (3, .getfield 22, [2, 8, 7, 862]), (1, .iload_n 1, []), (1, .iload_n 1, []), (3, .ifCond .ne 8, [12]), (2, .bipush (-9), [1, 9]), (3, .goto 16, [13])]),
  (148, [0, 1], [(1, .aload_n 0, []), (1, .iconst 0, [0, 0]), (1, .aload_n 0, []), (3, .getfield 16, [2, 8, 5, 860]), (1, .iload_n 1, []), (1, .iaload, [0]), (1, .iconst 1, [0, 1]), (1, .isub, []), (3, .invokevirtual 61, [0, 8, 38, 3, 1, 847]), (0, .nop, [13])]),
  (161, [0, 1], [(1, .iastore, []), (1, .aload_n 0, []), (3, .getfield 25, [2, 8, 8, 863]), (1, .iload_n 1, []), (1, .iload_n 1, []), (3, .ifCond .ne 8, [14]), (2, .bipush (-9), [1, 9]), (3, .goto 21, [15])]),
  (176, [0, 1], [(1, .aload_n 0, []), (1, .aload_n 0, []), (3, .getfield 16, [2, 8, 5, 860]), (1, .iload_n 1, []), (1, .iaload, [0]), (1, .aload_n 0, []), (3, .getfield 16, [2, 8, 5, 860]), (1, .iload_n 1, []), (1, .iaload, [0]), (1, .iconst 1, [0, 1]), (1, .isub, []), (3, .invokevirtual 82, [0, 8, 94, 3, 1, 851]), (0, .nop, [15])]),
  (194, [0, 1], [(1, .iastore, []), (1, .iconst 0, [0, 0]), (1, .istore_n 2, []), (0, .nop, [16])]),
  (197, [0, 1, 2], [(1, .iload_n 2, []), (2, .bipush 26, [0, 26]), (3, .if_icmp .ge 46, [17]), (1, .aload_n 0, []), (3, .getfield 34, [2, 8, 11, 866]), (1, .aload_n 0, []), (3, .getfield 16, [2, 8, 5, 860]), (1, .iload_n 1, []), (1, .iaload, [0]), (1, .iload_n 2, []), (1, .iastore, []), (1, .aload_n 0, []), (3, .getfield 31, [2, 8, 10, 865]), (2, .bipush 26, [0, 26]), (1, .iload_n 1, []), (1, .imul, []), (1, .iload_n 2, []), (1, .iadd, []), (1, .aload_n 0, []), (1, .aload_n 0, []), (3, .getfield 16, [2, 8, 5, 860]), (1, .iload_n 1, []), (1, .iaload, [0]), (1, .iconst 1, [0, 1]), (1, .iadd, []), (2, .bipush 8, [0, 8]), (3, .invokevirtual 82, [0, 8, 94, 3, 1, 851]), (1, .iastore, []), (3, .iinc 2 1, [0, 1]), (3, .goto (-46), [16])]),
  (246, [0, 1], [(3, .iinc 1 1, [0, 1]), (3, .goto (-174), [7])]),
  (252, [], [(1, .return_, [])])]
def bk_M_letter : List jx_B := [
  (0, [0, 1, 2], [(1, .iload_n 1, []), (3, .invokestatic 95, [0, 92, 1, 1, 922]), (3, .ifCond .eq 7, [1]), (1, .iload_n 2, []), (3, .ifCond .ge 5, [2]), (0, .nop, [1])]),
  (11, [], [(1, .iconst (-1), [1, 1]), (1, .ireturn, [0])]),
  (13, [0, 1, 2], [(1, .aload_n 0, []), (1, .iload_n 1, []), (3, .invokevirtual 64, [0, 8, 45, 2, 1, 823]), (3, .ifCond .ne 8, [3]), (2, .bipush (-2), [1, 2]), (3, .goto 23, [5])]),
  (26, [0, 1, 2], [(1, .iload_n 2, []), (1, .aload_n 0, []), (1, .iload_n 1, []), (3, .invokevirtual 64, [0, 8, 45, 2, 1, 823]), (3, .if_icmp .ge 12, [4]), (1, .aload_n 0, []), (1, .iload_n 1, []), (1, .iload_n 2, []), (3, .invokevirtual 68, [0, 8, 36, 3, 1, 827]), (3, .goto 5, [5])]),
  (44, [], [(2, .bipush (-9), [1, 9]), (0, .nop, [5])]),
  (46, [], [(1, .ireturn, [0])])]
def bk_M_possibleMany : List jx_B := [
  (0, [0], [(1, .iconst 0, [0, 0]), (1, .istore_n 1, []), (1, .iconst 0, [0, 0]), (1, .istore_n 2, []), (0, .nop, [1])]),
  (4, [0, 1, 2], [(1, .iload_n 2, []), (1, .aload_n 0, []), (3, .getfield 54, [0, 8, 4, 859]), (3, .if_icmp .ge 25, [4]), (1, .iload_n 1, []), (1, .aload_n 0, []), (1, .iload_n 2, []), (3, .invokevirtual 127, [0, 8, 91, 2, 1, 1064]), (3, .ifCond .eq 7, [2]), (1, .iconst 1, [0, 1]), (3, .goto 4, [3])]),
  (25, [0, 2], [(1, .iconst 0, [0, 0]), (0, .nop, [3])]),
  (26, [0, 2], [(1, .iadd, []), (1, .istore_n 1, []), (3, .iinc 2 1, [0, 1]), (3, .goto (-27), [1])]),
  (34, [1], [(1, .iload_n 1, []), (1, .ireturn, [0])])]
def bk_M_set : List jx_B := [
  (0, [0, 1, 2], [(1, .iload_n 1, []), (1, .iconst 0, [0, 0]), (1, .iconst 2, [0, 2]), (3, .invokestatic 85, [0, 34, 3, 1, 911]), (3, .ifCond .eq 40, [6]), (1, .iload_n 2, []), (1, .iload_n 1, []), (1, .iconst 2, [0, 2]), (3, .if_icmp .ne 7, [1]), (1, .iconst 1, [0, 1]), (3, .goto 4, [2])]),
  (19, [0, 1, 2], [(1, .iconst 0, [0, 0]), (0, .nop, [2])]),
  (20, [0, 1, 2], [(1, .iload_n 1, []), (3, .ifCond .ne 7, [3]), (1, .iconst 3, [0, 3]), (3, .goto 15, [5])]),
  (28, [0, 1, 2], [(1, .iload_n 1, []), (1, .iconst 1, [0, 1]), (3, .if_icmp .ne 8, [4]), (2, .bipush 15, [0, 15]), (3, .goto 5, [5])]),
  (38, [0, 1, 2], [(2, .bipush 40, [0, 40]), (0, .nop, [5])]),
  (40, [0, 1, 2], [(3, .invokestatic 85, [0, 34, 3, 1, 911]), (3, .ifCond .ne 5, [7]), (0, .nop, [6])]),
  (46, [], [(1, .iconst (-1), [1, 1]), (1, .ireturn, [0])]),
  (48, [0, 1, 2], [(1, .aload_n 0, []), (3, .invokevirtual 103, [0, 8, 78, 1, 0, 929]), (1, .aload_n 0, []), (3, .getfield 7, [2, 8, 0, 855]), (2, .bipush 54, [0, 54]), (1, .iload_n 1, []), (1, .iadd, []), (1, .iaload, [0]), (1, .istore_n 3, []), (1, .aload_n 0, []), (3, .getfield 7, [2, 8, 0, 855]), (2, .bipush 54, [0, 54]), (1, .iload_n 1, []), (1, .iadd, []), (1, .iload_n 2, []), (1, .iastore, []), (1, .iload_n 3, []), (1, .ireturn, [0])])]
def bk_M_steps : List jx_B := [
  (0, [0, 1], [(1, .iconst 0, [0, 0]), (1, .istore_n 2, []), (1, .iconst 0, [0, 0]), (1, .istore_n 3, []), (1, .iconst 0, [0, 0]), (2, .istore 4, []), (0, .nop, [1])]),
  (7, [0, 1, 2, 3, 4], [(2, .iload 4, []), (1, .aload_n 0, []), (3, .getfield 54, [0, 8, 4, 859]), (3, .if_icmp .ge 54, [3]), (1, .aload_n 0, []), (2, .iload 4, []), (3, .invokevirtual 127, [0, 8, 91, 2, 1, 1064]), (3, .ifCond .eq 39, [2]), (1, .iload_n 2, []), (1, .aload_n 0, []), (3, .getfield 31, [2, 8, 10, 865]), (2, .bipush 26, [0, 26]), (2, .iload 4, []), (1, .imul, []), (1, .iload_n 1, []), (1, .iadd, []), (1, .iaload, [0]), (3, .invokestatic 130, [0, 37, 1, 1, 1068]), (1, .ior, []), (1, .istore_n 2, []), (1, .iload_n 3, []), (1, .aload_n 0, []), (3, .getfield 31, [2, 8, 10, 865]), (2, .bipush 26, [0, 26]), (2, .iload 4, []), (1, .imul, []), (1, .iload_n 1, []), (1, .iadd, []), (1, .iaload, [0]), (3, .invokestatic 133, [0, 33, 1, 1, 1071]), (1, .ior, []), (1, .istore_n 3, []), (0, .nop, [2])]),
  (61, [0, 1, 2, 3, 4], [(3, .iinc 4 1, [0, 1]), (3, .goto (-57), [1])]),
  (67, [0, 1, 2, 3], [(1, .aload_n 0, []), (1, .iload_n 2, []), (1, .iload_n 3, []), (3, .invokevirtual 136, [0, 8, 93, 3, 0, 1074]), (1, .aload_n 0, []), (2, .bipush 6, [0, 6]), (1, .aload_n 0, []), (3, .getfield 31, [2, 8, 10, 865]), (2, .bipush 26, [0, 26]), (1, .aload_n 0, []), (2, .bipush 6, [0, 6]), (3, .invokevirtual 112, [0, 8, 39, 2, 1, 997]), (1, .imul, []), (1, .iload_n 1, []), (1, .iadd, []), (1, .iaload, [0]), (3, .invokevirtual 115, [0, 8, 42, 3, 0, 993]), (1, .return_, [])])]
def bk_M_told : List jx_B := [
  (0, [0, 1], [(1, .iload_n 1, []), (63, .tableswitch 135 0 11 #[63, 68, 73, 73, 73, 85, 93, 101, 109, 117, 125, 130], [11, 1, 2, 3, 3, 3, 4, 5, 6, 7, 8, 9, 10])]),
  (64, [0], [(1, .aload_n 0, []), (3, .invokevirtual 239, [0, 8, 81, 1, 1, 1154]), (1, .ireturn, [0])]),
  (69, [0], [(1, .aload_n 0, []), (3, .getfield 54, [0, 8, 4, 859]), (1, .ireturn, [0])]),
  (74, [0, 1], [(1, .aload_n 0, []), (3, .getfield 7, [2, 8, 0, 855]), (2, .bipush 54, [0, 54]), (1, .iload_n 1, []), (1, .iadd, []), (1, .iconst 2, [0, 2]), (1, .isub, []), (1, .iaload, [0]), (1, .ireturn, [0])]),
  (86, [0], [(1, .aload_n 0, []), (3, .getfield 7, [2, 8, 0, 855]), (2, .bipush 57, [0, 57]), (1, .iaload, [0]), (1, .ireturn, [0])]),
  (94, [0], [(1, .aload_n 0, []), (3, .getfield 7, [2, 8, 0, 855]), (2, .bipush 62, [0, 62]), (1, .iaload, [0]), (1, .ireturn, [0])]),
  (102, [0], [(1, .aload_n 0, []), (3, .getfield 7, [2, 8, 0, 855]), (2, .bipush 63, [0, 63]), (1, .iaload, [0]), (1, .ireturn, [0])]),
  (110, [0], [(1, .aload_n 0, []), (3, .getfield 7, [2, 8, 0, 855]), (2, .bipush 64, [0, 64]), (1, .iaload, [0]), (1, .ireturn, [0])]),
  (118, [0], [(1, .aload_n 0, []), (3, .getfield 7, [2, 8, 0, 855]), (2, .bipush 65, [0, 65]), (1, .iaload, [0]), (1, .ireturn, [0])]),
  (126, [0], [(1, .aload_n 0, []), (3, .getfield 46, [0, 8, 1, 856]), (1, .ireturn, [0])]),
  (131, [0], [(1, .aload_n 0, []), (3, .getfield 89, [0, 8, 3, 858]), (1, .ireturn, [0])]),
  (136, [], [(1, .iconst (-1), [1, 1]), (1, .ireturn, [0])])]
def bk_M_wrong : List jx_B := [
  (0, [0, 1, 2], [(1, .iload_n 1, []), (1, .iconst 0, [0, 0]), (2, .bipush 99, [0, 99]), (3, .invokestatic 85, [0, 34, 3, 1, 911]), (3, .ifCond .eq 14, [1]), (1, .iload_n 2, []), (1, .iconst 0, [0, 0]), (3, .sipush 999, [0, 999]), (3, .invokestatic 85, [0, 34, 3, 1, 911]), (3, .ifCond .ne 5, [2]), (0, .nop, [1])]),
  (21, [], [(1, .iconst (-1), [1, 1]), (1, .ireturn, [0])]),
  (23, [0, 1], [(1, .aload_n 0, []), (3, .getfield 89, [0, 8, 3, 858]), (3, .ifCond .ne 6, [3]), (2, .bipush (-2), [1, 2]), (1, .ireturn, [0])]),
  (33, [0, 1], [(1, .aload_n 0, []), (1, .iload_n 1, []), (3, .invokevirtual 195, [0, 8, 97, 2, 1, 973]), (1, .istore_n 3, []), (1, .iload_n 3, []), (2, .bipush (-9), [1, 9]), (3, .if_icmp .eq 25, [4]), (1, .aload_n 0, []), (3, .getfield 7, [2, 8, 0, 855]), (1, .aload_n 0, []), (1, .iload_n 3, []), (3, .invokevirtual 92, [0, 8, 43, 2, 1, 941]), (1, .iconst 5, [0, 5]), (1, .iadd, []), (1, .iaload, [0]), (2, .bipush 6, [0, 6]), (3, .if_icmp .ne 8, [4]), (2, .bipush (-3), [1, 3]), (3, .goto 4, [5])]),
  (67, [], [(1, .iconst 0, [0, 0]), (0, .nop, [5])]),
  (68, [], [(1, .ireturn, [0])])]
def bk_T_byteAt : List jx_B := [
  (0, [0, 1, 2], [(1, .iload_n 1, []), (3, .invokestatic 129, [0, 3, 1, 1, 553]), (3, .ifCond .eq 14, [1]), (1, .iload_n 2, []), (3, .ifCond .lt 10, [1]), (1, .iload_n 2, []), (3, .sipush 1101, [0, 1101]), (3, .if_icmp .lt 5, [2]), (0, .nop, [1])]),
  (18, [], [(1, .iconst (-1), [1, 1]), (1, .ireturn, [0])]),
  (20, [0, 1, 2], [(1, .aload_n 0, []), (3, .getfield 32, [2, 7, 3, 365]), (1, .iload_n 1, []), (3, .invokevirtual 132, [0, 5, 25, 2, 1, 556]), (1, .istore_n 3, []), (1, .iload_n 3, []), (1, .iconst (-1), [1, 1]), (3, .if_icmp .ne 8, [3]), (2, .bipush (-2), [1, 2]), (3, .goto 16, [4])]),
  (39, [0, 2, 3], [(1, .aload_n 0, []), (3, .getfield 32, [2, 7, 3, 365]), (3, .getfield 143, [2, 5, 3, 341]), (1, .iload_n 3, []), (1, .aaload, [2]), (1, .iload_n 2, []), (3, .invokevirtual 160, [0, 2, 109, 2, 1, 734]), (0, .nop, [4])]),
  (52, [], [(1, .ireturn, [0])])]
def bk_T_nearest : List jx_B := [
  (0, [0, 1], [(1, .iload_n 1, []), (3, .invokestatic 129, [0, 3, 1, 1, 553]), (3, .ifCond .ne 5, [1]), (1, .iconst (-1), [1, 1]), (1, .ireturn, [0])]),
  (9, [0, 1], [(1, .aload_n 0, []), (3, .getfield 32, [2, 7, 3, 365]), (1, .iload_n 1, []), (3, .invokevirtual 132, [0, 5, 25, 2, 1, 556]), (1, .istore_n 2, []), (1, .iload_n 2, []), (1, .iconst (-1), [1, 1]), (3, .if_icmp .ne 8, [2]), (2, .bipush (-2), [1, 2]), (3, .goto 25, [3])]),
  (28, [0, 2], [(1, .aload_n 0, []), (3, .getfield 20, [2, 7, 2, 364]), (1, .aload_n 0, []), (3, .getfield 32, [2, 7, 3, 365]), (3, .getfield 143, [2, 5, 3, 341]), (1, .iload_n 2, []), (1, .aaload, [2]), (3, .getfield 167, [2, 2, 6, 303]), (3, .getfield 205, [0, 3, 7, 245]), (3, .invokevirtual 208, [0, 0, 105, 2, 1, 790]), (0, .nop, [3])]),
  (50, [], [(1, .ireturn, [0])])]
def bk_A_build : List jx_B := [
  (0, [0, 1], [(1, .aload_n 0, []), (1, .iconst 1, [0, 1]), (3, .putfield 9, [0, 0, 0, 103]), (1, .aload_n 0, []), (3, .getfield 34, [2, 0, 7, 117]), (1, .iconst 0, [0, 0]), (3, .invokestatic 40, [0, 48, 2, 0, 475]), (1, .iconst 0, [0, 0]), (1, .istore_n 2, []), (0, .nop, [1])]),
  (15, [0, 1, 2], [(1, .iload_n 2, []), (2, .bipush 6, [0, 6]), (3, .if_icmp .ge 28, [2]), (1, .aload_n 0, []), (3, .getfield 37, [2, 0, 8, 118]), (1, .iload_n 2, []), (1, .iconst 0, [0, 0]), (1, .iastore, []), (1, .aload_n 0, []), (3, .getfield 31, [2, 0, 6, 115]), (1, .iload_n 2, []), (1, .aload_n 1, []), (3, .getfield 46, [2, 6, 0, 187]), (1, .iload_n 2, []), (1, .iaload, [0]), (1, .iastore, []), (3, .iinc 2 1, [0, 1]), (3, .goto (-28), [1])]),
  (46, [0, 1], [(1, .iconst 0, [0, 0]), (1, .istore_n 2, []), (1, .iconst 1, [0, 1]), (1, .istore_n 3, []), (0, .nop, [3])]),
  (50, [0, 1, 2, 3], [(1, .iload_n 3, []), (2, .bipush 8, [0, 8]), (3, .if_icmp .gt 42, [6]), (1, .aload_n 0, []), (3, .getfield 9, [0, 0, 0, 103]), (2, .istore 4, []), (1, .iload_n 2, []), (2, .istore 5, []), (0, .nop, [4])]),
  (65, [0, 1, 3, 4, 5], [(2, .iload 5, []), (2, .iload 4, []), (3, .if_icmp .ge 17, [5]), (1, .aload_n 0, []), (1, .aload_n 1, []), (2, .iload 5, []), (1, .iload_n 3, []), (3, .invokevirtual 49, [0, 0, 104, 4, 0, 478]), (3, .iinc 5 1, [0, 1]), (3, .goto (-18), [4])]),
  (86, [0, 1, 3, 4], [(2, .iload 4, []), (1, .istore_n 2, []), (3, .iinc 3 1, [0, 1]), (3, .goto (-42), [3])]),
  (95, [0], [(1, .iconst 1, [0, 1]), (1, .istore_n 3, []), (0, .nop, [7])]),
  (97, [0, 3], [(1, .iload_n 3, []), (1, .aload_n 0, []), (3, .getfield 9, [0, 0, 0, 103]), (3, .if_icmp .ge 14, [8]), (1, .aload_n 0, []), (1, .iload_n 3, []), (3, .invokevirtual 53, [0, 0, 59, 2, 0, 491]), (3, .iinc 3 1, [0, 1]), (3, .goto (-16), [7])]),
  (116, [], [(1, .return_, [])])]
def bk_Fl_end : List jx_B := [
  (0, [0], [(1, .aload_n 0, []), (3, .getfield 28, [2, 2, 6, 302]), (1, .aload_n 0, []), (3, .getfield 42, [0, 2, 3, 296]), (3, .invokevirtual 88, [0, 3, 111, 2, 0, 710]), (1, .return_, [])])]
def bk_Fl_tell : List jx_B := [
  (0, [0, 1], [(1, .iload_n 1, []), (83, .tableswitch 202 0 16 #[83, 88, 96, 108, 113, 121, 126, 134, 145, 153, 158, 163, 168, 173, 178, 186, 194], [18, 1, 2, 3, 4, 5, 6, 7, 8, 9, 10, 11, 12, 13, 14, 15, 16, 17])]),
  (84, [0], [(1, .aload_n 0, []), (3, .getfield 42, [0, 2, 3, 296]), (1, .ireturn, [0])]),
  (89, [0], [(1, .aload_n 0, []), (3, .getfield 14, [2, 2, 4, 298]), (3, .getfield 45, [0, 4, 0, 208]), (1, .ireturn, [0])]),
  (97, [0], [(1, .aload_n 0, []), (3, .getfield 14, [2, 2, 4, 298]), (1, .aload_n 0, []), (3, .getfield 42, [0, 2, 3, 296]), (3, .invokevirtual 81, [0, 4, 113, 2, 1, 669]), (1, .ireturn, [0])]),
  (109, [0], [(1, .aload_n 0, []), (3, .getfield 36, [0, 2, 1, 293]), (1, .ireturn, [0])]),
  (114, [0], [(1, .aload_n 0, []), (3, .getfield 28, [2, 2, 6, 302]), (3, .getfield 128, [0, 3, 3, 237]), (1, .ireturn, [0])]),
  (122, [0], [(1, .aload_n 0, []), (3, .getfield 39, [0, 2, 2, 294]), (1, .ireturn, [0])]),
  (127, [0], [(1, .aload_n 0, []), (3, .getfield 28, [2, 2, 6, 302]), (3, .getfield 131, [0, 3, 7, 244]), (1, .ireturn, [0])]),
  (135, [0], [(1, .aload_n 0, []), (3, .getfield 28, [2, 2, 6, 302]), (3, .getfield 134, [1, 3, 8, 247]), (3, .invokestatic 138, [0, 47, 1, 1, 724]), (1, .ireturn, [0])]),
  (146, [0], [(1, .aload_n 0, []), (3, .getfield 28, [2, 2, 6, 302]), (3, .getfield 144, [0, 3, 4, 240]), (1, .ireturn, [0])]),
  (154, [0], [(1, .aload_n 0, []), (3, .getfield 52, [0, 2, 7, 304]), (1, .ireturn, [0])]),
  (159, [0], [(1, .aload_n 0, []), (3, .getfield 55, [0, 2, 8, 305]), (1, .ireturn, [0])]),
  (164, [0], [(1, .aload_n 0, []), (3, .getfield 58, [0, 2, 9, 306]), (1, .ireturn, [0])]),
  (169, [0], [(1, .aload_n 0, []), (3, .getfield 61, [0, 2, 10, 307]), (1, .ireturn, [0])]),
  (174, [0], [(1, .aload_n 0, []), (3, .getfield 64, [0, 2, 11, 308]), (1, .ireturn, [0])]),
  (179, [0], [(1, .aload_n 0, []), (3, .getfield 28, [2, 2, 6, 302]), (3, .getfield 147, [0, 3, 11, 252]), (1, .ireturn, [0])]),
  (187, [0], [(1, .aload_n 0, []), (3, .getfield 28, [2, 2, 6, 302]), (3, .getfield 150, [0, 3, 12, 254]), (1, .ireturn, [0])]),
  (195, [0], [(1, .aload_n 0, []), (3, .getfield 28, [2, 2, 6, 302]), (3, .getfield 153, [0, 3, 13, 256]), (1, .ireturn, [0])]),
  (203, [0], [(1, .aload_n 0, []), (3, .getfield 20, [2, 2, 5, 300]), (3, .getfield 45, [0, 4, 0, 208]), (1, .ireturn, [0])])]
def bk_R_skip : List jx_B := [
  (0, [0, 1, 2], [(1, .aload_n 0, []), (1, .iload_n 1, []), (3, .invokevirtual 79, [0, 3, 111, 2, 0, 661]), (1, .aload_n 0, []), (1, .iconst 0, [0, 0]), (3, .putfield 36, [3, 3, 6, 242]), (1, .aload_n 0, []), (1, .iconst 0, [0, 0]), (3, .putfield 55, [0, 3, 7, 243]), (1, .aload_n 0, []), (1, .aload_n 0, []), (3, .getfield 18, [2, 3, 0, 233]), (1, .aload_n 0, []), (3, .getfield 58, [1, 3, 8, 246]), (1, .iload_n 2, []), (3, .invokevirtual 83, [0, 0, 106, 3, 2, 693]), (3, .putfield 58, [1, 3, 8, 246]), (1, .return_, [])])]
def bk_R_take : List jx_B := [
  (0, [0, 1, 2], [(1, .aload_n 0, []), (3, .getfield 30, [0, 3, 3, 236]), (1, .iconst 2, [0, 2]), (1, .iand, []), (3, .ifCond .ne 13, [1]), (1, .aload_n 0, []), (1, .iload_n 1, []), (1, .iload_n 2, []), (1, .iload_n 2, []), (1, .iconst 1, [0, 1]), (1, .iadd, []), (3, .invokevirtual 71, [0, 3, 66, 4, 0, 625]), (1, .return_, [])]),
  (19, [0, 1, 2], [(1, .iload_n 1, []), (3, .invokestatic 75, [0, 18, 1, 1, 658]), (1, .istore_n 3, []), (1, .aload_n 0, []), (3, .getfield 33, [0, 3, 4, 239]), (1, .iconst 2, [0, 2]), (3, .if_icmp .ne 40, [2]), (1, .iload_n 3, []), (3, .ifCond .lt 36, [2]), (1, .aload_n 0, []), (1, .iconst 0, [0, 0]), (3, .putfield 33, [0, 3, 4, 239]), (1, .aload_n 0, []), (1, .aload_n 0, []), (3, .getfield 62, [0, 3, 5, 241]), (3, .invokestatic 75, [0, 18, 1, 1, 658]), (2, .bipush 16, [0, 16]), (1, .imul, []), (1, .iload_n 3, []), (1, .iadd, []), (2, .bipush 127, [0, 127]), (1, .iand, []), (1, .iload_n 2, []), (1, .iconst 2, [0, 2]), (1, .isub, []), (1, .iload_n 2, []), (1, .iconst 1, [0, 1]), (1, .iadd, []), (3, .invokevirtual 71, [0, 3, 66, 4, 0, 625]), (3, .goto 56, [5])]),
  (69, [0, 1, 2, 3], [(1, .aload_n 0, []), (3, .getfield 33, [0, 3, 4, 239]), (1, .iconst 1, [0, 1]), (3, .if_icmp .ne 20, [3]), (1, .iload_n 3, []), (3, .ifCond .lt 16, [3]), (1, .aload_n 0, []), (1, .iconst 2, [0, 2]), (3, .putfield 33, [0, 3, 4, 239]), (1, .aload_n 0, []), (1, .iload_n 1, []), (3, .putfield 62, [0, 3, 5, 241]), (3, .goto 31, [5])]),
  (94, [0, 1, 2], [(1, .aload_n 0, []), (1, .iload_n 2, []), (3, .invokevirtual 79, [0, 3, 111, 2, 0, 661]), (1, .iload_n 1, []), (2, .bipush 37, [0, 37]), (3, .if_icmp .ne 11, [4]), (1, .aload_n 0, []), (1, .iconst 1, [0, 1]), (3, .putfield 33, [0, 3, 4, 239]), (3, .goto 12, [5])]),
  (113, [0, 1, 2], [(1, .aload_n 0, []), (1, .iload_n 1, []), (1, .iload_n 2, []), (1, .iload_n 2, []), (1, .iconst 1, [0, 1]), (1, .iadd, []), (3, .invokevirtual 71, [0, 3, 66, 4, 0, 625]), (0, .nop, [5])]),
  (122, [], [(1, .return_, [])])]
def bk_Sg_copyFrom : List jx_B := [
  (0, [0, 1], [(1, .aload_n 0, []), (1, .iconst 0, [0, 0]), (3, .putfield 9, [0, 4, 0, 207]), (1, .iconst 0, [0, 0]), (1, .istore_n 2, []), (0, .nop, [1])]),
  (7, [0, 1, 2], [(1, .iload_n 2, []), (1, .aload_n 1, []), (3, .getfield 9, [0, 4, 0, 207]), (3, .if_icmp .ge 42, [2]), (1, .iload_n 2, []), (1, .aload_n 1, []), (3, .getfield 15, [2, 4, 1, 210]), (1, .arraylength, [0]), (3, .if_icmp .ge 33, [2]), (1, .aload_n 0, []), (1, .aload_n 1, []), (3, .getfield 22, [2, 4, 3, 216]), (1, .iload_n 2, []), (2, .bipush 40, [0, 40]), (1, .imul, []), (1, .aload_n 1, []), (3, .getfield 19, [2, 4, 2, 213]), (1, .iload_n 2, []), (1, .iaload, [0]), (1, .aload_n 1, []), (3, .getfield 15, [2, 4, 1, 210]), (1, .iload_n 2, []), (1, .iaload, [0]), (3, .invokevirtual 26, [0, 4, 112, 5, 0, 442]), (3, .iinc 2 1, [0, 1]), (3, .goto (-44), [1])]),
  (54, [], [(1, .return_, [])])]
def bk_St_init : List jx_B := [
  (0, [0, 1, 2], [(1, .aload_n 0, []), (3, .invokespecial 3, [2, 179, 95, 96]), (1, .aload_n 0, []), (3, .new 9, [6, 180, 181, 79]), (1, .dup, []), (3, .invokespecial 11, [1, 74, 1, 2]), (3, .putfield 12, [2, 5, 0, 334]), (0, .nop, [1])]),
  (15, [0, 1, 2], [(1, .aload_n 0, []), (1, .iconst 3, [0, 3]), (2, .newarray .int, [139]), (3, .putfield 18, [2, 5, 1, 336]), (0, .nop, [2])]),
  (22, [0, 1, 2], [(1, .aload_n 0, []), (1, .iconst 4, [0, 4]), (3, .anewarray 22, [2, 194]), (3, .putfield 24, [2, 5, 3, 340]), (0, .nop, [3])]),
  (30, [0, 1, 2], [(1, .aload_n 0, []), (1, .iconst 0, [0, 0]), (3, .putfield 28, [0, 5, 4, 342]), (0, .nop, [4])]),
  (35, [0, 1, 2], [(1, .aload_n 0, []), (1, .iconst 0, [0, 0]), (3, .putfield 32, [0, 5, 5, 344]), (0, .nop, [5])]),
  (40, [0, 1, 2], [(1, .aload_n 0, []), (1, .aload_n 2, []), (3, .putfield 35, [2, 5, 2, 338]), (0, .nop, [6])]),
  (45, [0, 1, 2], [(1, .aload_n 0, []), (3, .getfield 18, [2, 5, 1, 336]), (1, .iconst 2, [0, 2]), (2, .bipush 10, [0, 10]), (1, .iastore, []), (0, .nop, [7])]),
  (53, [0, 1, 2], [(1, .iconst 0, [0, 0]), (1, .istore_n 3, []), (0, .nop, [8])]),
  (55, [0, 1, 2, 3], [(1, .iload_n 3, []), (1, .iconst 4, [0, 4]), (3, .if_icmp .ge 24, [10]), (1, .aload_n 0, []), (3, .getfield 24, [2, 5, 3, 340]), (1, .iload_n 3, []), (3, .new 22, [2, 194, 196, 80]), (1, .dup, []), (1, .aload_n 1, []), (1, .aload_n 2, []), (3, .invokespecial 39, [0, 107, 3, 197]), (1, .aastore, [2]), (0, .nop, [9])]),
  (75, [0, 1, 2, 3], [(3, .iinc 3 1, [0, 1]), (3, .goto (-23), [8])]),
  (81, [], [(1, .return_, [])])]
def bk_St_flowOfSegment : List jx_B := [
  (0, [0, 1], [(1, .aload_n 0, []), (1, .iload_n 1, []), (3, .invokevirtual 63, [0, 5, 25, 2, 1, 573]), (1, .istore_n 2, []), (1, .iload_n 2, []), (1, .iconst (-1), [1, 1]), (3, .if_icmp .ne 69, [2]), (1, .aload_n 0, []), (3, .getfield 28, [0, 5, 4, 342]), (1, .iconst 4, [0, 4]), (3, .if_icmp .lt 18, [1]), (1, .aload_n 0, []), (1, .iconst 0, [0, 0]), (3, .invokevirtual 67, [0, 5, 73, 2, 0, 574]), (1, .aload_n 0, []), (1, .dup, []), (3, .getfield 32, [0, 5, 5, 344]), (1, .iconst 1, [0, 1]), (1, .iadd, []), (3, .putfield 32, [0, 5, 5, 344]), (0, .nop, [1])]),
  (34, [0, 1], [(1, .aload_n 0, []), (3, .getfield 28, [0, 5, 4, 342]), (1, .istore_n 2, []), (1, .aload_n 0, []), (3, .getfield 24, [2, 5, 3, 340]), (1, .iload_n 2, []), (1, .aaload, [2]), (1, .iload_n 1, []), (1, .aload_n 0, []), (3, .getfield 18, [2, 5, 1, 336]), (1, .iconst 0, [0, 0]), (1, .iaload, [0]), (1, .aload_n 0, []), (3, .getfield 18, [2, 5, 1, 336]), (1, .iconst 1, [0, 1]), (1, .iaload, [0]), (1, .aload_n 0, []), (3, .getfield 18, [2, 5, 1, 336]), (1, .iconst 2, [0, 2]), (1, .iaload, [0]), (3, .invokevirtual 71, [0, 2, 108, 5, 0, 582]), (1, .aload_n 0, []), (1, .dup, []), (3, .getfield 28, [0, 5, 4, 342]), (1, .iconst 1, [0, 1]), (1, .iadd, []), (3, .putfield 28, [0, 5, 4, 342]), (0, .nop, [2])]),
  (77, [0, 2], [(1, .aload_n 0, []), (1, .iload_n 2, []), (3, .invokevirtual 75, [0, 5, 24, 2, 3, 578]), (1, .areturn, [])])]
def bk_M_init : List jx_B := [
  (0, [0], [(1, .aload_n 0, []), (3, .invokespecial 1, [2, 818, 95, 96]), (1, .aload_n 0, []), (3, .sipush 22416, [0, 22416]), (2, .newarray .int, [139]), (3, .putfield 7, [2, 8, 0, 855]), (0, .nop, [1])]),
  (13, [0], [(1, .aload_n 0, []), (2, .bipush 40, [0, 40]), (2, .newarray .int, [139]), (3, .putfield 13, [2, 8, 2, 857]), (0, .nop, [2])]),
  (21, [0], [(1, .aload_n 0, []), (2, .bipush 49, [0, 49]), (2, .newarray .int, [139]), (3, .putfield 16, [2, 8, 5, 860]), (0, .nop, [3])]),
  (29, [0], [(1, .aload_n 0, []), (3, .sipush 392, [0, 392]), (2, .newarray .int, [139]), (3, .putfield 19, [2, 8, 6, 861]), (0, .nop, [4])]),
  (38, [0], [(1, .aload_n 0, []), (2, .bipush 49, [0, 49]), (2, .newarray .int, [139]), (3, .putfield 22, [2, 8, 7, 862]), (0, .nop, [5])]),
  (46, [0], [(1, .aload_n 0, []), (2, .bipush 49, [0, 49]), (2, .newarray .int, [139]), (3, .putfield 25, [2, 8, 8, 863]), (0, .nop, [6])]),
  (54, [0], [(1, .aload_n 0, []), (2, .bipush 49, [0, 49]), (2, .newarray .int, [139]), (3, .putfield 28, [2, 8, 9, 864]), (0, .nop, [7])]),
  (62, [0], [(1, .aload_n 0, []), (3, .sipush 1274, [0, 1274]), (2, .newarray .int, [139]), (3, .putfield 31, [2, 8, 10, 865]), (0, .nop, [8])]),
  (71, [0], [(1, .aload_n 0, []), (2, .bipush 9, [0, 9]), (2, .newarray .int, [139]), (3, .putfield 34, [2, 8, 11, 866]), (0, .nop, [9])]),
  (79, [0], [(1, .aload_n 0, []), (2, .bipush 49, [0, 49]), (2, .newarray .int, [139]), (3, .putfield 37, [2, 8, 15, 870]), (0, .nop, [10])]),
  (87, [0], [(1, .aload_n 0, []), (2, .bipush 49, [0, 49]), (2, .newarray .int, [139]), (3, .putfield 40, [2, 8, 16, 871]), (0, .nop, [11])]),
  (95, [0], [(1, .aload_n 0, []), (3, .getfield 7, [2, 8, 0, 855]), (2, .bipush 56, [0, 56]), (2, .bipush 10, [0, 10]), (1, .iastore, []), (0, .nop, [12])]),
  (104, [0], [(1, .aload_n 0, []), (3, .invokevirtual 43, [0, 8, 118, 1, 0, 819]), (1, .return_, [])])]
def bk_M_byteNow : List jx_B := [
  (0, [0, 1], [(1, .aload_n 0, []), (1, .iload_n 1, []), (3, .invokevirtual 173, [0, 8, 116, 2, 1, 1021]), (1, .istore_n 2, []), (1, .iload_n 2, []), (2, .bipush (-9), [1, 9]), (3, .if_icmp .ne 8, [1]), (2, .bipush (-9), [1, 9]), (3, .goto 9, [2])]),
  (17, [0, 1, 2], [(1, .aload_n 0, []), (1, .iload_n 2, []), (1, .iload_n 1, []), (3, .invokevirtual 170, [0, 8, 79, 3, 1, 1033]), (0, .nop, [2])]),
  (23, [], [(1, .ireturn, [0])])]
def bk_M_covered : List jx_B := [
  (0, [0, 1], [(1, .iconst 0, [0, 0]), (1, .istore_n 2, []), (1, .aload_n 0, []), (1, .iconst 4, [0, 4]), (3, .invokevirtual 112, [0, 8, 39, 2, 1, 997]), (1, .istore_n 3, []), (1, .iconst 0, [0, 0]), (2, .istore 4, []), (0, .nop, [1])]),
  (11, [0, 1, 2, 3, 4], [(2, .iload 4, []), (1, .aload_n 0, []), (1, .iconst 5, [0, 5]), (3, .invokevirtual 112, [0, 8, 39, 2, 1, 997]), (3, .if_icmp .ge 49, [4]), (1, .aload_n 0, []), (3, .getfield 7, [2, 8, 0, 855]), (1, .aload_n 0, []), (2, .iload 4, []), (3, .invokevirtual 161, [0, 8, 41, 2, 1, 1013]), (1, .iaload, [0]), (1, .aload_n 0, []), (3, .getfield 7, [2, 8, 0, 855]), (1, .aload_n 0, []), (2, .iload 4, []), (3, .invokevirtual 161, [0, 8, 41, 2, 1, 1013]), (1, .iconst 1, [0, 1]), (1, .iadd, []), (1, .iaload, [0]), (1, .iadd, []), (2, .istore 5, []), (2, .iload 5, []), (1, .iload_n 3, []), (3, .if_icmp .le 8, [2]), (2, .iload 5, []), (3, .goto 4, [3])]),
  (59, [0, 1, 2, 3, 4], [(1, .iload_n 3, []), (0, .nop, [3])]),
  (60, [0, 1, 2, 4], [(1, .istore_n 3, []), (3, .iinc 4 1, [0, 1]), (3, .goto (-53), [1])]),
  (67, [0, 1, 2, 3], [(1, .aload_n 0, []), (1, .iconst 4, [0, 4]), (3, .invokevirtual 112, [0, 8, 39, 2, 1, 997]), (2, .istore 4, []), (0, .nop, [5])]),
  (74, [0, 1, 2, 3, 4], [(2, .iload 4, []), (1, .iload_n 3, []), (3, .if_icmp .ge 30, [8]), (1, .aload_n 0, []), (2, .iload 4, []), (3, .invokevirtual 173, [0, 8, 116, 2, 1, 1021]), (2, .bipush (-9), [1, 9]), (3, .if_icmp .eq 13, [7]), (1, .iload_n 1, []), (3, .ifCond .eq 6, [6]), (2, .iload 4, []), (1, .ireturn, [0])]),
  (98, [0, 1, 2, 3, 4], [(3, .iinc 2 1, [0, 1]), (0, .nop, [7])]),
  (101, [0, 1, 2, 3, 4], [(3, .iinc 4 1, [0, 1]), (3, .goto (-30), [5])]),
  (107, [1, 2], [(1, .iload_n 1, []), (3, .ifCond .eq 8, [9]), (2, .bipush (-9), [1, 9]), (3, .goto 4, [10])]),
  (116, [2], [(1, .iload_n 2, []), (0, .nop, [10])]),
  (117, [], [(1, .ireturn, [0])])]
def bk_M_nearest : List jx_B := [
  (0, [0, 1], [(1, .aload_n 0, []), (1, .iload_n 1, []), (3, .invokevirtual 220, [0, 8, 115, 2, 1, 1102]), (1, .istore_n 2, []), (1, .iload_n 2, []), (3, .ifCond .ge 5, [1]), (1, .iload_n 2, []), (1, .ireturn, [0])]),
  (12, [0, 2], [(1, .iconst 0, [0, 0]), (1, .istore_n 3, []), (0, .nop, [2])]),
  (14, [0, 2, 3], [(1, .iload_n 3, []), (1, .aload_n 0, []), (3, .getfield 54, [0, 8, 4, 859]), (3, .if_icmp .ge 16, [3]), (1, .aload_n 0, []), (3, .getfield 37, [2, 8, 15, 870]), (1, .iload_n 3, []), (1, .iconst 0, [0, 0]), (1, .iastore, []), (3, .iinc 3 1, [0, 1]), (3, .goto (-18), [2])]),
  (35, [0, 2], [(1, .iconst 1, [0, 1]), (1, .istore_n 3, []), (1, .aload_n 0, []), (3, .getfield 40, [2, 8, 16, 871]), (1, .iconst 0, [0, 0]), (1, .aload_n 0, []), (3, .getfield 7, [2, 8, 0, 855]), (1, .aload_n 0, []), (1, .iload_n 2, []), (3, .invokevirtual 92, [0, 8, 43, 2, 1, 941]), (2, .bipush 6, [0, 6]), (1, .iadd, []), (1, .iaload, [0]), (1, .iastore, []), (1, .iconst 1, [0, 1]), (2, .istore 4, []), (1, .iconst 0, [0, 0]), (2, .istore 5, []), (0, .nop, [4])]),
  (62, [0, 3, 4, 5], [(2, .iload 5, []), (1, .iload_n 3, []), (3, .if_icmp .ge 128, [11]), (1, .aload_n 0, []), (3, .getfield 40, [2, 8, 16, 871]), (2, .iload 5, []), (1, .iaload, [0]), (2, .istore 6, []), (2, .iload 4, []), (3, .ifCond .eq 7, [5]), (1, .iconst 0, [0, 0]), (3, .goto 10, [6])]),
  (86, [0, 3, 5, 6], [(1, .aload_n 0, []), (3, .getfield 37, [2, 8, 15, 870]), (2, .iload 6, []), (1, .iaload, [0]), (0, .nop, [6])]),
  (93, [0, 3, 5, 6], [(2, .istore 7, []), (1, .iconst 0, [0, 0]), (2, .istore 4, []), (1, .iconst 0, [0, 0]), (2, .istore 8, []), (0, .nop, [7])]),
  (101, [0, 3, 4, 5, 6, 7, 8], [(2, .iload 8, []), (2, .bipush 26, [0, 26]), (3, .if_icmp .ge 82, [10]), (1, .aload_n 0, []), (3, .getfield 31, [2, 8, 10, 865]), (2, .bipush 26, [0, 26]), (2, .iload 6, []), (1, .imul, []), (2, .iload 8, []), (1, .iadd, []), (1, .iaload, [0]), (2, .istore 9, []), (1, .aload_n 0, []), (3, .getfield 28, [2, 8, 9, 864]), (2, .iload 9, []), (1, .iaload, [0]), (3, .ifCond .eq 8, [8]), (2, .iload 7, []), (1, .iconst 1, [0, 1]), (1, .iadd, []), (1, .ireturn, [0])]),
  (138, [0, 3, 4, 5, 6, 7, 8, 9], [(1, .aload_n 0, []), (3, .getfield 37, [2, 8, 15, 870]), (2, .iload 9, []), (1, .iaload, [0]), (3, .ifCond .ne 36, [9]), (2, .iload 9, []), (1, .aload_n 0, []), (3, .getfield 40, [2, 8, 16, 871]), (1, .iconst 0, [0, 0]), (1, .iaload, [0]), (3, .if_icmp .eq 25, [9]), (1, .aload_n 0, []), (3, .getfield 37, [2, 8, 15, 870]), (2, .iload 9, []), (2, .iload 7, []), (1, .iconst 1, [0, 1]), (1, .iadd, []), (1, .iastore, []), (1, .aload_n 0, []), (3, .getfield 40, [2, 8, 16, 871]), (1, .iload_n 3, []), (2, .iload 9, []), (1, .iastore, []), (3, .iinc 3 1, [0, 1]), (0, .nop, [9])]),
  (181, [0, 3, 4, 5, 6, 7, 8], [(3, .iinc 8 1, [0, 1]), (3, .goto (-83), [7])]),
  (187, [0, 3, 4, 5], [(3, .iinc 5 1, [0, 1]), (3, .goto (-128), [4])]),
  (193, [], [(2, .bipush (-9), [1, 9]), (1, .ireturn, [0])])]
def bk_M_others : List jx_B := [
  (0, [0], [(1, .aload_n 0, []), (3, .invokevirtual 43, [0, 8, 118, 1, 0, 819]), (1, .iconst 0, [0, 0]), (1, .istore_n 1, []), (0, .nop, [1])]),
  (6, [0, 1], [(1, .iload_n 1, []), (1, .aload_n 0, []), (3, .getfield 7, [2, 8, 0, 855]), (2, .bipush 57, [0, 57]), (1, .iaload, [0]), (3, .if_icmp .ge 51, [2]), (1, .aload_n 0, []), (3, .getfield 7, [2, 8, 0, 855]), (1, .aload_n 0, []), (1, .iload_n 1, []), (3, .invokevirtual 92, [0, 8, 43, 2, 1, 941]), (2, .bipush 6, [0, 6]), (1, .iadd, []), (1, .iconst 0, [0, 0]), (1, .iastore, []), (1, .aload_n 0, []), (3, .getfield 7, [2, 8, 0, 855]), (1, .aload_n 0, []), (1, .iload_n 1, []), (3, .invokevirtual 92, [0, 8, 43, 2, 1, 941]), (2, .bipush 7, [0, 7]), (1, .iadd, []), (1, .iconst 1, [0, 1]), (1, .iastore, []), (1, .aload_n 0, []), (3, .getfield 7, [2, 8, 0, 855]), (1, .aload_n 0, []), (1, .iload_n 1, []), (3, .invokevirtual 92, [0, 8, 43, 2, 1, 941]), (2, .bipush 8, [0, 8]), (1, .iadd, []), (1, .iconst 0, [0, 0]), (1, .iastore, []), (3, .iinc 1 1, [0, 1]), (3, .goto (-56), [1])]),
  (65, [0], [(1, .aload_n 0, []), (3, .getfield 54, [0, 8, 4, 859]), (1, .ireturn, [0])])]
def bk_M_possible : List jx_B := [
  (0, [0, 1], [(1, .aload_n 0, []), (1, .iload_n 1, []), (3, .invokevirtual 220, [0, 8, 115, 2, 1, 1102]), (1, .istore_n 2, []), (1, .iload_n 2, []), (3, .ifCond .ge 6, [1]), (1, .iload_n 2, []), (1, .i2l, []), (1, .lreturn, [])]),
  (13, [0, 2], [(1, .aload_n 0, []), (1, .aload_n 0, []), (1, .iload_n 2, []), (3, .invokevirtual 92, [0, 8, 43, 2, 1, 941]), (3, .putfield 109, [0, 8, 12, 867]), (1, .aload_n 0, []), (3, .invokevirtual 232, [0, 8, 98, 1, 2, 1134]), (1, .lreturn, [])])]
def bk_M_read : List jx_B := [
  (0, [0, 1, 2], [(1, .iload_n 2, []), (1, .iconst 0, [0, 0]), (2, .bipush 7, [0, 7]), (3, .invokestatic 85, [0, 34, 3, 1, 911]), (3, .ifCond .eq 11, [1]), (1, .aload_n 0, []), (1, .iload_n 1, []), (3, .invokevirtual 220, [0, 8, 115, 2, 1, 1102]), (3, .goto 4, [2])]),
  (18, [0, 2], [(1, .iconst (-1), [1, 1]), (0, .nop, [2])]),
  (19, [0, 2], [(1, .istore_n 3, []), (1, .iload_n 3, []), (3, .ifCond .ge 5, [3]), (1, .iload_n 3, []), (1, .ireturn, [0])]),
  (26, [0, 2, 3], [(1, .aload_n 0, []), (1, .aload_n 0, []), (1, .iload_n 3, []), (3, .invokevirtual 92, [0, 8, 43, 2, 1, 941]), (3, .putfield 109, [0, 8, 12, 867]), (1, .aload_n 0, []), (1, .iload_n 2, []), (3, .invokevirtual 236, [0, 8, 99, 2, 1, 1142]), (1, .ireturn, [0])])]
def bk_M_reads : List jx_B := [
  (0, [0, 1, 2, 3], [(1, .aload_n 0, []), (2, .bipush 18, [0, 18]), (1, .iconst 1, [0, 1]), (3, .invokevirtual 121, [0, 8, 29, 3, 0, 1001]), (2, .bipush 7, [0, 7]), (2, .istore 4, []), (0, .nop, [1])]),
  (11, [0, 1, 2, 3, 4], [(2, .iload 4, []), (3, .ifCond .le 49, [2]), (1, .aload_n 0, []), (2, .bipush 22, [0, 22]), (2, .iload 4, []), (1, .iadd, []), (1, .aload_n 0, []), (2, .bipush 22, [0, 22]), (2, .iload 4, []), (1, .iadd, []), (1, .iconst 1, [0, 1]), (1, .isub, []), (3, .invokevirtual 112, [0, 8, 39, 2, 1, 997]), (3, .invokevirtual 115, [0, 8, 42, 3, 0, 993]), (1, .aload_n 0, []), (2, .bipush 30, [0, 30]), (2, .iload 4, []), (1, .iadd, []), (1, .aload_n 0, []), (2, .bipush 30, [0, 30]), (2, .iload 4, []), (1, .iadd, []), (1, .iconst 1, [0, 1]), (1, .isub, []), (3, .invokevirtual 112, [0, 8, 39, 2, 1, 997]), (3, .invokevirtual 115, [0, 8, 42, 3, 0, 993]), (3, .iinc 4 (-1), [1, 1]), (3, .goto (-48), [1])]),
  (62, [0, 1, 2, 3], [(1, .aload_n 0, []), (2, .bipush 22, [0, 22]), (1, .iload_n 1, []), (3, .invokevirtual 115, [0, 8, 42, 3, 0, 993]), (1, .aload_n 0, []), (2, .bipush 30, [0, 30]), (1, .iload_n 2, []), (3, .invokevirtual 115, [0, 8, 42, 3, 0, 993]), (1, .iload_n 1, []), (2, .bipush 97, [0, 97]), (2, .bipush 122, [0, 122]), (3, .invokestatic 85, [0, 34, 3, 1, 911]), (3, .ifCond .eq 14, [3]), (1, .aload_n 0, []), (1, .iload_n 1, []), (2, .bipush 97, [0, 97]), (1, .isub, []), (3, .invokevirtual 139, [0, 8, 122, 2, 0, 1060]), (3, .goto 16, [4])]),
  (98, [0, 3], [(1, .aload_n 0, []), (2, .bipush 6, [0, 6]), (1, .iconst 0, [0, 0]), (3, .invokevirtual 115, [0, 8, 42, 3, 0, 993]), (1, .aload_n 0, []), (1, .iconst 1, [0, 1]), (1, .iconst 0, [0, 0]), (3, .invokevirtual 136, [0, 8, 93, 3, 0, 1074]), (0, .nop, [4])]),
  (111, [0, 3], [(1, .aload_n 0, []), (3, .getfield 28, [2, 8, 9, 864]), (1, .aload_n 0, []), (2, .bipush 6, [0, 6]), (3, .invokevirtual 112, [0, 8, 39, 2, 1, 997]), (1, .iaload, [0]), (2, .istore 4, []), (1, .iconst 0, [0, 0]), (2, .istore 5, []), (1, .iconst 0, [0, 0]), (2, .istore 6, []), (0, .nop, [5])]),
  (130, [0, 3, 4, 5, 6], [(2, .iload 6, []), (1, .aload_n 0, []), (3, .getfield 54, [0, 8, 4, 859]), (3, .if_icmp .ge 34, [8]), (2, .iload 5, []), (1, .aload_n 0, []), (2, .iload 6, []), (3, .invokevirtual 127, [0, 8, 91, 2, 1, 1064]), (3, .ifCond .eq 13, [6]), (1, .aload_n 0, []), (3, .getfield 28, [2, 8, 9, 864]), (2, .iload 6, []), (1, .iaload, [0]), (3, .goto 4, [7])]),
  (160, [0, 3, 4, 6], [(1, .iconst 0, [0, 0]), (0, .nop, [7])]),
  (161, [0, 3, 4, 6], [(1, .ior, []), (2, .istore 5, []), (3, .iinc 6 1, [0, 1]), (3, .goto (-37), [5])]),
  (170, [0, 3, 4, 5], [(1, .iconst 0, [0, 0]), (2, .istore 6, []), (0, .nop, [9])]),
  (173, [0, 3, 4, 5, 6], [(2, .iload 6, []), (2, .bipush 6, [0, 6]), (3, .if_icmp .ge 42, [11]), (2, .iload 4, []), (2, .iload 6, []), (1, .ishr, []), (1, .iconst 1, [0, 1]), (1, .iand, []), (1, .iconst 1, [0, 1]), (3, .if_icmp .ne 25, [10]), (1, .aload_n 0, []), (2, .iload 6, []), (1, .aload_n 0, []), (2, .bipush 30, [0, 30]), (1, .aload_n 0, []), (2, .iload 6, []), (3, .invokevirtual 64, [0, 8, 45, 2, 1, 823]), (1, .iadd, []), (1, .iconst 1, [0, 1]), (1, .isub, []), (3, .invokevirtual 112, [0, 8, 39, 2, 1, 997]), (1, .iload_n 3, []), (3, .invokevirtual 142, [0, 8, 100, 4, 0, 1078]), (0, .nop, [10])]),
  (213, [0, 3, 4, 5, 6], [(3, .iinc 6 1, [0, 1]), (3, .goto (-43), [9])]),
  (219, [0, 3, 4, 5], [(1, .iconst 0, [0, 0]), (2, .istore 6, []), (0, .nop, [12])]),
  (222, [0, 3, 4, 5, 6], [(2, .iload 6, []), (2, .bipush 6, [0, 6]), (3, .if_icmp .ge 48, [15]), (2, .iload 5, []), (2, .iload 4, []), (1, .iconst (-1), [1, 1]), (1, .ixor, []), (1, .iand, []), (2, .iload 6, []), (1, .ishr, []), (3, .ifCond .ne 4, [13]), (1, .return_, [])]),
  (243, [0, 3, 4, 5, 6], [(2, .iload 5, []), (2, .iload 4, []), (1, .iconst (-1), [1, 1]), (1, .ixor, []), (1, .iand, []), (2, .iload 6, []), (1, .ishr, []), (1, .iconst 1, [0, 1]), (1, .iand, []), (1, .iconst 1, [0, 1]), (3, .if_icmp .ne 12, [14]), (1, .aload_n 0, []), (2, .iload 6, []), (2, .bipush (-9), [1, 9]), (1, .iload_n 3, []), (3, .invokevirtual 142, [0, 8, 100, 4, 0, 1078]), (0, .nop, [14])]),
  (268, [0, 3, 4, 5, 6], [(3, .iinc 6 1, [0, 1]), (3, .goto (-49), [12])]),
  (274, [], [(1, .return_, [])])]
def bk_M_undo : List jx_B := [
  (0, [0], [(1, .aload_n 0, []), (3, .getfield 46, [0, 8, 1, 856]), (3, .ifCond .ne 6, [1]), (2, .bipush (-2), [1, 2]), (1, .ireturn, [0])]),
  (10, [0], [(1, .aload_n 0, []), (1, .aload_n 0, []), (3, .getfield 46, [0, 8, 1, 856]), (1, .iconst 0, [0, 0]), (3, .invokevirtual 50, [0, 8, 31, 3, 0, 933]), (1, .aload_n 0, []), (1, .dup, []), (3, .getfield 46, [0, 8, 1, 856]), (1, .iconst 1, [0, 1]), (1, .isub, []), (3, .putfield 46, [0, 8, 1, 856]), (1, .aload_n 0, []), (3, .invokevirtual 43, [0, 8, 118, 1, 0, 819]), (1, .aload_n 0, []), (3, .getfield 46, [0, 8, 1, 856]), (1, .ireturn, [0])])]
def bk_T_init : List jx_B := [
  (0, [0], [(1, .aload_n 0, []), (3, .invokespecial 3, [2, 94, 95, 96]), (1, .aload_n 0, []), (2, .bipush 40, [0, 40]), (2, .newarray .byte, [138]), (3, .putfield 9, [2, 7, 0, 362]), (0, .nop, [1])]),
  (12, [0], [(1, .aload_n 0, []), (1, .iconst 0, [0, 0]), (3, .putfield 13, [0, 7, 1, 363]), (0, .nop, [2])]),
  (17, [0], [(1, .aload_n 0, []), (3, .new 17, [0, 97, 98, 76]), (1, .dup, []), (3, .invokespecial 19, [1, 57, 1, 0]), (3, .putfield 20, [2, 7, 2, 364]), (0, .nop, [3])]),
  (28, [0], [(1, .aload_n 0, []), (3, .new 24, [5, 140, 141, 77]), (1, .dup, []), (1, .aload_n 0, []), (3, .getfield 20, [2, 7, 2, 364]), (3, .new 26, [1, 142, 143, 78]), (1, .dup, []), (3, .invokespecial 28, [1, 61, 1, 1]), (3, .invokespecial 29, [0, 133, 3, 176]), (3, .putfield 32, [2, 7, 3, 365]), (0, .nop, [4])]),
  (50, [0], [(1, .aload_n 0, []), (3, .new 24, [5, 140, 141, 77]), (1, .dup, []), (1, .aload_n 0, []), (3, .getfield 20, [2, 7, 2, 364]), (3, .new 26, [1, 142, 143, 78]), (1, .dup, []), (3, .invokespecial 28, [1, 61, 1, 1]), (3, .invokespecial 29, [0, 133, 3, 176]), (3, .putfield 36, [2, 7, 4, 366]), (0, .nop, [5])]),
  (72, [0], [(1, .aload_n 0, []), (3, .new 39, [2, 359, 196, 80]), (1, .dup, []), (1, .aload_n 0, []), (3, .getfield 20, [2, 7, 2, 364]), (3, .new 26, [1, 142, 143, 78]), (1, .dup, []), (3, .invokespecial 28, [1, 61, 1, 1]), (3, .invokespecial 41, [0, 107, 3, 360]), (3, .putfield 42, [2, 7, 5, 367]), (0, .nop, [6])]),
  (94, [0], [(1, .aload_n 0, []), (1, .iconst 4, [0, 4]), (3, .anewarray 24, [5, 140]), (3, .putfield 46, [2, 7, 6, 368]), (0, .nop, [7])]),
  (102, [0], [(1, .aload_n 0, []), (1, .iconst 0, [0, 0]), (3, .putfield 50, [0, 7, 7, 369]), (0, .nop, [8])]),
  (107, [0], [(1, .iconst 0, [0, 0]), (1, .istore_n 1, []), (0, .nop, [9])]),
  (109, [0, 1], [(1, .iload_n 1, []), (1, .iconst 4, [0, 4]), (3, .if_icmp .ge 33, [11]), (1, .aload_n 0, []), (3, .getfield 46, [2, 7, 6, 368]), (1, .iload_n 1, []), (3, .new 24, [5, 140, 141, 77]), (1, .dup, []), (1, .aload_n 0, []), (3, .getfield 20, [2, 7, 2, 364]), (3, .new 26, [1, 142, 143, 78]), (1, .dup, []), (3, .invokespecial 28, [1, 61, 1, 1]), (3, .invokespecial 29, [0, 133, 3, 176]), (1, .aastore, [5]), (0, .nop, [10])]),
  (138, [0, 1], [(3, .iinc 1 1, [0, 1]), (3, .goto (-32), [9])]),
  (144, [], [(1, .return_, [])])]
def bk_T_mixedWithFlow : List jx_B := [
  (0, [0, 2], [(1, .lload_n 0, []), (1, .aload_n 2, []), (3, .getfield 154, [0, 2, 0, 292]), (1, .i2l, []), (3, .invokestatic 220, [0, 6, 2, 2, 805]), (1, .lstore_n 3, []), (1, .iconst 0, [0, 0]), (2, .istore 5, []), (0, .nop, [1])]),
  (13, [2, 3, 5], [(2, .iload 5, []), (2, .bipush 18, [0, 18]), (3, .if_icmp .ge 21, [2]), (1, .lload_n 3, []), (1, .aload_n 2, []), (2, .iload 5, []), (3, .invokevirtual 157, [0, 2, 129, 2, 1, 720]), (1, .i2l, []), (3, .invokestatic 220, [0, 6, 2, 2, 805]), (1, .lstore_n 3, []), (3, .iinc 5 1, [0, 1]), (3, .goto (-22), [1])]),
  (38, [2, 3], [(1, .lload_n 3, []), (1, .aload_n 2, []), (3, .getfield 167, [2, 2, 6, 303]), (3, .getfield 171, [1, 3, 8, 248]), (3, .invokestatic 220, [0, 6, 2, 2, 805]), (1, .lstore_n 3, []), (1, .iconst 0, [0, 0]), (2, .istore 5, []), (0, .nop, [3])]),
  (53, [2, 3, 5], [(2, .iload 5, []), (2, .bipush 8, [0, 8]), (3, .if_icmp .ge 24, [4]), (1, .lload_n 3, []), (1, .aload_n 2, []), (3, .getfield 167, [2, 2, 6, 303]), (2, .iload 5, []), (3, .invokevirtual 177, [0, 3, 20, 2, 1, 748]), (1, .i2l, []), (3, .invokestatic 220, [0, 6, 2, 2, 805]), (1, .lstore_n 3, []), (3, .iinc 5 1, [0, 1]), (3, .goto (-25), [3])]),
  (81, [2, 3], [(1, .iconst 0, [0, 0]), (2, .istore 5, []), (0, .nop, [5])]),
  (84, [2, 3, 5], [(2, .iload 5, []), (2, .bipush 50, [0, 50]), (3, .if_icmp .ge 26, [6]), (1, .lload_n 3, []), (1, .aload_n 2, []), (1, .aload_n 2, []), (3, .getfield 230, [0, 2, 3, 297]), (2, .iload 5, []), (1, .iadd, []), (3, .invokevirtual 160, [0, 2, 109, 2, 1, 734]), (1, .i2l, []), (3, .invokestatic 220, [0, 6, 2, 2, 805]), (1, .lstore_n 3, []), (3, .iinc 5 1, [0, 1]), (3, .goto (-27), [5])]),
  (114, [3], [(1, .lload_n 3, []), (1, .lreturn, [])])]
def bk_T_property : List jx_B := [
  (0, [0, 1, 2], [(1, .iload_n 1, []), (3, .invokestatic 129, [0, 3, 1, 1, 553]), (3, .ifCond .eq 13, [1]), (1, .iload_n 2, []), (3, .ifCond .lt 9, [1]), (1, .iload_n 2, []), (2, .bipush 18, [0, 18]), (3, .if_icmp .lt 5, [2]), (0, .nop, [1])]),
  (17, [], [(1, .iconst (-1), [1, 1]), (1, .ireturn, [0])]),
  (19, [0, 1, 2], [(1, .aload_n 0, []), (3, .getfield 32, [2, 7, 3, 365]), (1, .iload_n 1, []), (3, .invokevirtual 132, [0, 5, 25, 2, 1, 556]), (1, .istore_n 3, []), (1, .iload_n 3, []), (1, .iconst (-1), [1, 1]), (3, .if_icmp .ne 8, [3]), (2, .bipush (-2), [1, 2]), (3, .goto 16, [4])]),
  (38, [0, 2, 3], [(1, .aload_n 0, []), (3, .getfield 32, [2, 7, 3, 365]), (3, .getfield 143, [2, 5, 3, 341]), (1, .iload_n 3, []), (1, .aaload, [2]), (1, .iload_n 2, []), (3, .invokevirtual 157, [0, 2, 129, 2, 1, 720]), (0, .nop, [4])]),
  (51, [], [(1, .ireturn, [0])])]
def bk_T_undo : List jx_B := [
  (0, [0], [(1, .aload_n 0, []), (3, .getfield 50, [0, 7, 7, 369]), (3, .ifCond .le 11, [1]), (1, .aload_n 0, []), (3, .getfield 50, [0, 7, 7, 369]), (1, .iconst 4, [0, 4]), (3, .if_icmp .le 6, [2]), (0, .nop, [1])]),
  (15, [], [(2, .bipush (-2), [1, 2]), (1, .ireturn, [0])]),
  (18, [0], [(1, .aload_n 0, []), (1, .dup, []), (3, .getfield 50, [0, 7, 7, 369]), (1, .iconst 1, [0, 1]), (1, .isub, []), (3, .putfield 50, [0, 7, 7, 369]), (1, .aload_n 0, []), (3, .getfield 46, [2, 7, 6, 368]), (1, .aload_n 0, []), (3, .getfield 50, [0, 7, 7, 369]), (1, .aaload, [5]), (1, .astore_n 1, []), (1, .aload_n 0, []), (3, .getfield 46, [2, 7, 6, 368]), (1, .aload_n 0, []), (3, .getfield 50, [0, 7, 7, 369]), (1, .aload_n 0, []), (3, .getfield 32, [2, 7, 3, 365]), (1, .aastore, [5]), (1, .aload_n 0, []), (1, .aload_n 1, []), (3, .putfield 32, [2, 7, 3, 365]), (1, .aload_n 0, []), (3, .getfield 20, [2, 7, 2, 364]), (1, .aload_n 0, []), (3, .getfield 32, [2, 7, 3, 365]), (3, .getfield 64, [2, 5, 0, 335]), (3, .invokevirtual 211, [0, 0, 127, 2, 0, 471]), (1, .aload_n 0, []), (3, .getfield 50, [0, 7, 7, 369]), (1, .ireturn, [0])])]
def bk_T_wordsChanged : List jx_B := [
  (0, [0], [(1, .aload_n 0, []), (3, .getfield 20, [2, 7, 2, 364]), (1, .aload_n 0, []), (3, .getfield 32, [2, 7, 3, 365]), (3, .getfield 64, [2, 5, 0, 335]), (3, .invokevirtual 211, [0, 0, 127, 2, 0, 471]), (1, .iconst 0, [0, 0]), (1, .istore_n 1, []), (0, .nop, [1])]),
  (16, [0, 1], [(1, .iload_n 1, []), (1, .aload_n 0, []), (3, .getfield 32, [2, 7, 3, 365]), (3, .getfield 151, [0, 5, 4, 343]), (3, .if_icmp .ge 29, [2]), (1, .iload_n 1, []), (1, .iconst 4, [0, 4]), (3, .if_icmp .ge 24, [2]), (1, .aload_n 0, []), (3, .getfield 32, [2, 7, 3, 365]), (3, .getfield 143, [2, 5, 3, 341]), (1, .iload_n 1, []), (1, .aaload, [2]), (3, .getfield 167, [2, 2, 6, 303]), (3, .invokevirtual 238, [0, 3, 21, 1, 0, 503]), (3, .iinc 1 1, [0, 1]), (3, .goto (-34), [1])]),
  (53, [], [(1, .return_, [])])]
def bk_Fl_copyFrom : List jx_B := [
  (0, [0, 1], [(1, .aload_n 0, []), (1, .aload_n 1, []), (3, .getfield 32, [0, 2, 0, 290]), (3, .putfield 32, [0, 2, 0, 290]), (1, .aload_n 0, []), (1, .aload_n 1, []), (3, .getfield 36, [0, 2, 1, 293]), (3, .putfield 36, [0, 2, 1, 293]), (1, .aload_n 0, []), (1, .aload_n 1, []), (3, .getfield 39, [0, 2, 2, 294]), (3, .putfield 39, [0, 2, 2, 294]), (1, .aload_n 0, []), (1, .aload_n 1, []), (3, .getfield 42, [0, 2, 3, 296]), (3, .putfield 42, [0, 2, 3, 296]), (0, .nop, [1])]),
  (32, [0, 1], [(1, .aload_n 0, []), (3, .getfield 14, [2, 2, 4, 298]), (1, .aload_n 1, []), (3, .getfield 14, [2, 2, 4, 298]), (3, .invokevirtual 67, [0, 4, 132, 2, 0, 438]), (1, .aload_n 0, []), (3, .getfield 20, [2, 2, 5, 300]), (1, .aload_n 1, []), (3, .getfield 20, [2, 2, 5, 300]), (3, .invokevirtual 67, [0, 4, 132, 2, 0, 438]), (1, .aload_n 0, []), (3, .getfield 28, [2, 2, 6, 302]), (1, .aload_n 1, []), (3, .getfield 28, [2, 2, 6, 302]), (3, .invokevirtual 71, [0, 3, 67, 2, 0, 455]), (1, .aload_n 0, []), (1, .aload_n 1, []), (3, .getfield 52, [0, 2, 7, 304]), (3, .putfield 52, [0, 2, 7, 304]), (1, .aload_n 0, []), (1, .aload_n 1, []), (3, .getfield 55, [0, 2, 8, 305]), (3, .putfield 55, [0, 2, 8, 305]), (1, .aload_n 0, []), (1, .aload_n 1, []), (3, .getfield 58, [0, 2, 9, 306]), (3, .putfield 58, [0, 2, 9, 306]), (1, .aload_n 0, []), (1, .aload_n 1, []), (3, .getfield 61, [0, 2, 10, 307]), (3, .putfield 61, [0, 2, 10, 307]), (0, .nop, [2])]),
  (97, [0, 1], [(1, .aload_n 0, []), (1, .aload_n 1, []), (3, .getfield 64, [0, 2, 11, 308]), (3, .putfield 64, [0, 2, 11, 308]), (1, .return_, [])])]
def bk_Fl_deliver : List jx_B := [
  (0, [0], [(1, .aload_n 0, []), (3, .getfield 42, [0, 2, 3, 296]), (3, .sipush 1040, [0, 1040]), (3, .if_icmp .ge 80, [3]), (1, .aload_n 0, []), (1, .aload_n 0, []), (3, .getfield 42, [0, 2, 3, 296]), (3, .invokevirtual 91, [0, 2, 63, 2, 1, 600]), (1, .istore_n 1, []), (1, .iload_n 1, []), (1, .iconst (-1), [1, 1]), (3, .if_icmp .ne 6, [1]), (3, .goto 63, [3])]),
  (27, [0, 1], [(1, .aload_n 0, []), (3, .getfield 14, [2, 2, 4, 298]), (1, .iload_n 1, []), (1, .aload_n 0, []), (3, .getfield 42, [0, 2, 3, 296]), (3, .invokevirtual 94, [0, 4, 69, 3, 1, 612]), (1, .istore_n 2, []), (1, .aload_n 0, []), (1, .aload_n 0, []), (3, .getfield 42, [0, 2, 3, 296]), (1, .iload_n 2, []), (3, .invokevirtual 98, [0, 2, 110, 3, 1, 617]), (3, .ifCond .eq 13, [2]), (1, .aload_n 0, []), (1, .dup, []), (3, .getfield 58, [0, 2, 9, 306]), (1, .iconst 1, [0, 1]), (1, .iadd, []), (3, .putfield 58, [0, 2, 9, 306]), (0, .nop, [2])]),
  (62, [0, 2], [(1, .aload_n 0, []), (3, .getfield 28, [2, 2, 6, 302]), (1, .iload_n 2, []), (1, .aload_n 0, []), (3, .getfield 42, [0, 2, 3, 296]), (3, .invokevirtual 102, [0, 3, 131, 3, 0, 621]), (1, .aload_n 0, []), (1, .dup, []), (3, .getfield 42, [0, 2, 3, 296]), (1, .iconst 1, [0, 1]), (1, .iadd, []), (3, .putfield 42, [0, 2, 3, 296]), (3, .goto (-84), [0])]),
  (87, [0], [(1, .aload_n 0, []), (3, .getfield 14, [2, 2, 4, 298]), (1, .aload_n 0, []), (3, .getfield 42, [0, 2, 3, 296]), (3, .invokevirtual 105, [0, 4, 114, 2, 0, 665]), (1, .return_, [])])]
def bk_Fl_skipGap : List jx_B := [
  (0, [0], [(1, .aload_n 0, []), (3, .getfield 14, [2, 2, 4, 298]), (3, .invokevirtual 108, [0, 4, 72, 1, 1, 684]), (1, .istore_n 1, []), (1, .aload_n 0, []), (1, .dup, []), (3, .getfield 61, [0, 2, 10, 307]), (1, .iconst 1, [0, 1]), (1, .iadd, []), (3, .putfield 61, [0, 2, 10, 307]), (1, .aload_n 0, []), (1, .dup, []), (3, .getfield 64, [0, 2, 11, 308]), (1, .iload_n 1, []), (1, .aload_n 0, []), (3, .getfield 42, [0, 2, 3, 296]), (1, .isub, []), (1, .iadd, []), (3, .putfield 64, [0, 2, 11, 308]), (1, .aload_n 0, []), (3, .getfield 28, [2, 2, 6, 302]), (1, .aload_n 0, []), (3, .getfield 42, [0, 2, 3, 296]), (1, .iload_n 1, []), (1, .aload_n 0, []), (3, .getfield 42, [0, 2, 3, 296]), (1, .isub, []), (3, .invokevirtual 112, [0, 3, 130, 3, 0, 689]), (1, .aload_n 0, []), (1, .iload_n 1, []), (3, .putfield 42, [0, 2, 3, 296]), (1, .return_, [])])]
def bk_M_byteAt : List jx_B := [
  (0, [0, 1, 2], [(1, .iload_n 2, []), (1, .iconst 0, [0, 0]), (3, .sipush 1100, [0, 1100]), (3, .invokestatic 85, [0, 34, 3, 1, 911]), (3, .ifCond .eq 11, [1]), (1, .aload_n 0, []), (1, .iload_n 1, []), (3, .invokevirtual 220, [0, 8, 115, 2, 1, 1102]), (3, .goto 4, [2])]),
  (19, [0, 2], [(1, .iconst (-1), [1, 1]), (0, .nop, [2])]),
  (20, [0, 2], [(1, .istore_n 3, []), (1, .iload_n 3, []), (3, .ifCond .ge 5, [3]), (1, .iload_n 3, []), (1, .ireturn, [0])]),
  (27, [0, 2, 3], [(1, .aload_n 0, []), (1, .aload_n 0, []), (1, .iload_n 3, []), (3, .invokevirtual 92, [0, 8, 43, 2, 1, 941]), (3, .putfield 109, [0, 8, 12, 867]), (1, .aload_n 0, []), (1, .iload_n 2, []), (3, .invokevirtual 229, [0, 8, 136, 2, 1, 1126]), (1, .ireturn, [0])])]
def bk_M_character : List jx_B := [
  (0, [0, 1, 2, 3], [(1, .aload_n 0, []), (1, .iconst 1, [0, 1]), (3, .invokevirtual 146, [0, 8, 87, 2, 1, 1052]), (3, .ifCond .eq 21, [1]), (1, .iload_n 1, []), (2, .bipush 65, [0, 65]), (2, .bipush 90, [0, 90]), (3, .invokestatic 85, [0, 34, 3, 1, 911]), (3, .ifCond .eq 10, [1]), (1, .iload_n 1, []), (2, .bipush 32, [0, 32]), (1, .iadd, []), (3, .goto 4, [2])]),
  (26, [0, 1, 2, 3], [(1, .iload_n 1, []), (0, .nop, [2])]),
  (27, [0, 2, 3], [(2, .istore 4, []), (1, .aload_n 0, []), (2, .bipush 8, [0, 8]), (3, .invokevirtual 146, [0, 8, 87, 2, 1, 1052]), (3, .ifCond .eq 18, [4]), (2, .iload 4, []), (2, .bipush 45, [0, 45]), (3, .if_icmp .eq 10, [3]), (2, .iload 4, []), (2, .bipush 46, [0, 46]), (3, .if_icmp .ne 4, [4]), (0, .nop, [3])]),
  (52, [], [(1, .return_, [])]),
  (53, [0, 2, 3, 4], [(1, .aload_n 0, []), (1, .iconst 4, [0, 4]), (3, .invokevirtual 146, [0, 8, 87, 2, 1, 1052]), (3, .ifCond .eq 21, [5]), (2, .iload 4, []), (2, .bipush 32, [0, 32]), (3, .if_icmp .ne 14, [5]), (1, .aload_n 0, []), (2, .bipush 12, [0, 12]), (3, .invokevirtual 112, [0, 8, 39, 2, 1, 997]), (1, .iconst 1, [0, 1]), (3, .if_icmp .ne 4, [5]), (1, .return_, [])]),
  (79, [0, 2, 3, 4], [(1, .aload_n 0, []), (2, .bipush 12, [0, 12]), (2, .iload 4, []), (2, .bipush 32, [0, 32]), (3, .if_icmp .ne 7, [6]), (1, .iconst 1, [0, 1]), (3, .goto 4, [7])]),
  (93, [0, 2, 3, 4], [(1, .iconst 0, [0, 0]), (0, .nop, [7])]),
  (94, [0, 2, 3, 4], [(3, .invokevirtual 115, [0, 8, 42, 3, 0, 993]), (1, .aload_n 0, []), (2, .iload 4, []), (1, .iload_n 2, []), (1, .iload_n 3, []), (3, .invokevirtual 149, [0, 8, 142, 4, 0, 1056]), (1, .return_, [])])]
def bk_M_define : List jx_B := [
  (0, [0, 1], [(1, .iload_n 1, []), (3, .invokestatic 95, [0, 92, 1, 1, 922]), (3, .ifCond .ne 5, [1]), (1, .iconst (-1), [1, 1]), (1, .ireturn, [0])]),
  (9, [0, 1], [(1, .aload_n 0, []), (3, .invokevirtual 99, [0, 8, 84, 1, 1, 925]), (1, .istore_n 2, []), (1, .iload_n 2, []), (2, .bipush (-9), [1, 9]), (3, .if_icmp .eq 8, [2]), (2, .bipush (-10), [1, 10]), (1, .iload_n 2, []), (1, .isub, []), (1, .ireturn, [0])]),
  (25, [0, 1], [(1, .aload_n 0, []), (3, .invokevirtual 103, [0, 8, 78, 1, 0, 929]), (1, .aload_n 0, []), (3, .getfield 7, [2, 8, 0, 855]), (2, .bipush 9, [0, 9]), (1, .iload_n 1, []), (1, .imul, []), (1, .aload_n 0, []), (3, .getfield 89, [0, 8, 3, 858]), (1, .iastore, []), (1, .iconst 0, [0, 0]), (1, .istore_n 3, []), (0, .nop, [3])]),
  (44, [0, 1, 3], [(1, .iload_n 3, []), (1, .aload_n 0, []), (3, .getfield 89, [0, 8, 3, 858]), (3, .if_icmp .ge 31, [4]), (1, .aload_n 0, []), (3, .getfield 7, [2, 8, 0, 855]), (2, .bipush 9, [0, 9]), (1, .iload_n 1, []), (1, .imul, []), (1, .iconst 1, [0, 1]), (1, .iadd, []), (1, .iload_n 3, []), (1, .iadd, []), (1, .aload_n 0, []), (3, .getfield 13, [2, 8, 2, 857]), (1, .iload_n 3, []), (1, .iaload, [0]), (2, .bipush 97, [0, 97]), (1, .isub, []), (1, .iastore, []), (3, .iinc 3 1, [0, 1]), (3, .goto (-33), [3])]),
  (80, [0], [(1, .aload_n 0, []), (3, .invokevirtual 106, [0, 8, 139, 1, 1, 937]), (1, .ireturn, [0])])]
def bk_M_forget : List jx_B := [
  (0, [0, 1], [(1, .iload_n 1, []), (3, .invokestatic 95, [0, 92, 1, 1, 922]), (3, .ifCond .ne 5, [1]), (1, .iconst (-1), [1, 1]), (1, .ireturn, [0])]),
  (9, [0, 1], [(1, .aload_n 0, []), (1, .iload_n 1, []), (3, .invokevirtual 64, [0, 8, 45, 2, 1, 823]), (3, .ifCond .ne 6, [2]), (2, .bipush (-2), [1, 2]), (1, .ireturn, [0])]),
  (20, [0, 1], [(1, .aload_n 0, []), (3, .invokevirtual 103, [0, 8, 78, 1, 0, 929]), (1, .aload_n 0, []), (3, .getfield 7, [2, 8, 0, 855]), (2, .bipush 9, [0, 9]), (1, .iload_n 1, []), (1, .imul, []), (1, .iconst 0, [0, 0]), (1, .iastore, []), (1, .aload_n 0, []), (3, .invokevirtual 106, [0, 8, 139, 1, 1, 937]), (1, .ireturn, [0])])]
def bk_M_propertyNow : List jx_B := [
  (0, [0, 1], [(1, .iload_n 1, []), (51, .tableswitch 106 0 8 #[51, 57, 63, 69, 75, 81, 87, 94, 99], [10, 1, 2, 3, 4, 5, 6, 7, 8, 9])]),
  (52, [0], [(1, .aload_n 0, []), (1, .iconst 4, [0, 4]), (3, .invokevirtual 112, [0, 8, 39, 2, 1, 997]), (1, .ireturn, [0])]),
  (58, [0], [(1, .aload_n 0, []), (1, .iconst 5, [0, 5]), (3, .invokevirtual 112, [0, 8, 39, 2, 1, 997]), (1, .ireturn, [0])]),
  (64, [0], [(1, .aload_n 0, []), (1, .iconst 0, [0, 0]), (3, .invokevirtual 188, [0, 8, 137, 2, 1, 1090]), (1, .ireturn, [0])]),
  (70, [0], [(1, .aload_n 0, []), (1, .iconst 1, [0, 1]), (3, .invokevirtual 112, [0, 8, 39, 2, 1, 997]), (1, .ireturn, [0])]),
  (76, [0], [(1, .aload_n 0, []), (1, .iconst 2, [0, 2]), (3, .invokevirtual 112, [0, 8, 39, 2, 1, 997]), (1, .ireturn, [0])]),
  (82, [0], [(1, .aload_n 0, []), (1, .iconst 3, [0, 3]), (3, .invokevirtual 112, [0, 8, 39, 2, 1, 997]), (1, .ireturn, [0])]),
  (88, [0], [(1, .aload_n 0, []), (2, .bipush 6, [0, 6]), (3, .invokevirtual 112, [0, 8, 39, 2, 1, 997]), (1, .ireturn, [0])]),
  (95, [0], [(1, .aload_n 0, []), (3, .invokevirtual 223, [0, 8, 120, 1, 1, 1118]), (1, .ireturn, [0])]),
  (100, [0], [(1, .aload_n 0, []), (2, .bipush 9, [0, 9]), (3, .invokevirtual 112, [0, 8, 39, 2, 1, 997]), (1, .ireturn, [0])]),
  (107, [0, 1], [(1, .aload_n 0, []), (2, .bipush 13, [0, 13]), (1, .iload_n 1, []), (1, .iadd, []), (2, .bipush 9, [0, 9]), (1, .isub, []), (3, .invokevirtual 112, [0, 8, 39, 2, 1, 997]), (1, .ireturn, [0])])]
def bk_T_digest : List jx_B := [
  (0, [0], [(3, .ldc2_w 215, [0, 12572, 803]), (1, .lstore_n 1, []), (1, .iconst 0, [0, 0]), (1, .istore_n 3, []), (0, .nop, [1])]),
  (6, [0, 1, 3], [(1, .iload_n 3, []), (2, .bipush 12, [0, 12]), (3, .if_icmp .ge 20, [2]), (1, .lload_n 1, []), (1, .aload_n 0, []), (1, .iload_n 3, []), (3, .invokevirtual 217, [0, 7, 103, 2, 1, 804]), (1, .i2l, []), (3, .invokestatic 220, [0, 6, 2, 2, 805]), (1, .lstore_n 1, []), (3, .iinc 3 1, [0, 1]), (3, .goto (-20), [1])]),
  (29, [0, 1], [(1, .iconst 0, [0, 0]), (1, .istore_n 3, []), (0, .nop, [3])]),
  (31, [0, 1, 3], [(1, .iload_n 3, []), (1, .aload_n 0, []), (3, .getfield 20, [2, 7, 2, 364]), (3, .getfield 77, [0, 0, 0, 104]), (3, .if_icmp .ge 37, [6]), (1, .iconst 0, [0, 0]), (2, .istore 4, []), (0, .nop, [4])]),
  (45, [0, 1, 3, 4], [(2, .iload 4, []), (1, .iconst 5, [0, 5]), (3, .if_icmp .ge 22, [5]), (1, .lload_n 1, []), (1, .aload_n 0, []), (1, .iload_n 3, []), (2, .iload 4, []), (3, .invokevirtual 224, [0, 7, 53, 3, 1, 809]), (1, .i2l, []), (3, .invokestatic 220, [0, 6, 2, 2, 805]), (1, .lstore_n 1, []), (3, .iinc 4 1, [0, 1]), (3, .goto (-22), [4])]),
  (70, [0, 1, 3], [(3, .iinc 3 1, [0, 1]), (3, .goto (-42), [3])]),
  (76, [0, 1], [(1, .iconst 0, [0, 0]), (1, .istore_n 3, []), (0, .nop, [7])]),
  (78, [0, 1, 3], [(1, .iload_n 3, []), (1, .aload_n 0, []), (3, .getfield 32, [2, 7, 3, 365]), (3, .getfield 151, [0, 5, 4, 343]), (3, .if_icmp .ge 28, [8]), (1, .iload_n 3, []), (1, .iconst 4, [0, 4]), (3, .if_icmp .ge 23, [8]), (1, .lload_n 1, []), (1, .aload_n 0, []), (3, .getfield 32, [2, 7, 3, 365]), (3, .getfield 143, [2, 5, 3, 341]), (1, .iload_n 3, []), (1, .aaload, [2]), (3, .invokestatic 226, [0, 145, 2, 2, 810]), (1, .lstore_n 1, []), (3, .iinc 3 1, [0, 1]), (3, .goto (-33), [7])]),
  (114, [0, 1], [(1, .iconst 0, [0, 0]), (1, .istore_n 3, []), (0, .nop, [9])]),
  (116, [0, 1, 3], [(1, .iload_n 3, []), (1, .aload_n 0, []), (3, .getfield 32, [2, 7, 3, 365]), (3, .getfield 136, [2, 5, 2, 339]), (3, .getfield 185, [0, 1, 2, 153]), (3, .if_icmp .ge 43, [12]), (1, .iconst 0, [0, 0]), (2, .istore 4, []), (0, .nop, [10])]),
  (133, [0, 1, 3, 4], [(2, .iload 4, []), (1, .iconst 4, [0, 4]), (3, .if_icmp .ge 28, [11]), (1, .lload_n 1, []), (1, .aload_n 0, []), (3, .getfield 32, [2, 7, 3, 365]), (3, .getfield 136, [2, 5, 2, 339]), (1, .iload_n 3, []), (2, .iload 4, []), (3, .invokevirtual 180, [0, 1, 15, 3, 1, 756]), (1, .i2l, []), (3, .invokestatic 220, [0, 6, 2, 2, 805]), (1, .lstore_n 1, []), (3, .iinc 4 1, [0, 1]), (3, .goto (-28), [10])]),
  (164, [0, 1, 3], [(3, .iinc 3 1, [0, 1]), (3, .goto (-51), [9])]),
  (170, [1], [(1, .lload_n 1, []), (1, .lreturn, [])])]
def bk_Fl_accept : List jx_B := [
  (0, [0, 1, 2, 3, 4], [(1, .aload_n 0, []), (1, .dup, []), (3, .getfield 52, [0, 2, 7, 304]), (1, .iconst 1, [0, 1]), (1, .iadd, []), (3, .putfield 52, [0, 2, 7, 304]), (1, .aload_n 0, []), (3, .getfield 20, [2, 2, 5, 300]), (1, .aload_n 1, []), (1, .iload_n 2, []), (1, .iload_n 3, []), (2, .iload 4, []), (3, .invokevirtual 74, [0, 4, 112, 5, 0, 595]), (2, .iload 4, []), (1, .iload_n 3, []), (1, .iadd, []), (1, .aload_n 0, []), (3, .getfield 42, [0, 2, 3, 296]), (3, .if_icmp .gt 14, [1]), (1, .aload_n 0, []), (1, .dup, []), (3, .getfield 55, [0, 2, 8, 305]), (1, .iconst 1, [0, 1]), (1, .iadd, []), (3, .putfield 55, [0, 2, 8, 305]), (1, .return_, [])]),
  (44, [0, 1, 2, 3, 4], [(1, .aload_n 0, []), (3, .getfield 14, [2, 2, 4, 298]), (1, .aload_n 1, []), (1, .iload_n 2, []), (1, .iload_n 3, []), (2, .iload 4, []), (3, .invokevirtual 74, [0, 4, 112, 5, 0, 595]), (1, .aload_n 0, []), (3, .invokevirtual 78, [0, 2, 150, 1, 0, 596]), (1, .iconst 0, [0, 0]), (2, .istore 5, []), (0, .nop, [2])]),
  (63, [0, 5], [(2, .iload 5, []), (2, .bipush 6, [0, 6]), (3, .if_icmp .ge 35, [3]), (1, .aload_n 0, []), (3, .getfield 14, [2, 2, 4, 298]), (1, .aload_n 0, []), (3, .getfield 42, [0, 2, 3, 296]), (3, .invokevirtual 81, [0, 4, 113, 2, 1, 669]), (1, .aload_n 0, []), (3, .getfield 39, [0, 2, 2, 294]), (3, .if_icmp .le 17, [3]), (1, .aload_n 0, []), (3, .invokevirtual 85, [0, 2, 151, 1, 0, 680]), (1, .aload_n 0, []), (3, .invokevirtual 78, [0, 2, 150, 1, 0, 596]), (3, .iinc 5 1, [0, 1]), (3, .goto (-36), [2])]),
  (102, [], [(1, .return_, [])])]
def bk_St_copyFrom : List jx_B := [
  (0, [0, 1], [(1, .aload_n 0, []), (3, .getfield 12, [2, 5, 0, 334]), (1, .aload_n 1, []), (3, .getfield 12, [2, 5, 0, 334]), (3, .invokevirtual 42, [0, 6, 75, 2, 0, 421]), (1, .aload_n 1, []), (3, .getfield 18, [2, 5, 1, 336]), (1, .iconst 0, [0, 0]), (1, .aload_n 0, []), (3, .getfield 18, [2, 5, 1, 336]), (1, .iconst 0, [0, 0]), (1, .iconst 3, [0, 3]), (3, .invokestatic 46, [2, 428, 427, 426, 84]), (1, .aload_n 0, []), (3, .getfield 35, [2, 5, 2, 338]), (1, .aload_n 1, []), (3, .getfield 35, [2, 5, 2, 338]), (3, .invokevirtual 52, [0, 1, 62, 2, 0, 429]), (1, .aload_n 0, []), (1, .aload_n 1, []), (3, .getfield 28, [0, 5, 4, 342]), (3, .putfield 28, [0, 5, 4, 342]), (1, .iconst 0, [0, 0]), (1, .istore_n 2, []), (0, .nop, [1])]),
  (46, [0, 1, 2], [(1, .iload_n 2, []), (1, .aload_n 0, []), (3, .getfield 28, [0, 5, 4, 342]), (3, .if_icmp .ge 29, [2]), (1, .iload_n 2, []), (1, .iconst 4, [0, 4]), (3, .if_icmp .ge 24, [2]), (1, .aload_n 0, []), (3, .getfield 24, [2, 5, 3, 340]), (1, .iload_n 2, []), (1, .aaload, [2]), (1, .aload_n 1, []), (3, .getfield 24, [2, 5, 3, 340]), (1, .iload_n 2, []), (1, .aaload, [2]), (3, .invokevirtual 57, [0, 2, 149, 2, 0, 434]), (3, .iinc 2 1, [0, 1]), (3, .goto (-31), [1])]),
  (80, [0, 1], [(1, .aload_n 0, []), (1, .aload_n 1, []), (3, .getfield 32, [0, 5, 5, 344]), (3, .putfield 32, [0, 5, 5, 344]), (1, .return_, [])])]
def bk_M_lets : List jx_B := [
  (0, [0], [(1, .aload_n 0, []), (2, .bipush 9, [0, 9]), (3, .invokevirtual 112, [0, 8, 39, 2, 1, 997]), (1, .istore_n 1, []), (1, .aload_n 0, []), (2, .bipush 9, [0, 9]), (1, .iconst 0, [0, 0]), (3, .invokevirtual 115, [0, 8, 42, 3, 0, 993]), (1, .iload_n 1, []), (3, .ifCond .le 23, [1]), (1, .aload_n 0, []), (2, .bipush 37, [0, 37]), (1, .aload_n 0, []), (2, .bipush 10, [0, 10]), (3, .invokevirtual 112, [0, 8, 39, 2, 1, 997]), (1, .aload_n 0, []), (2, .bipush 10, [0, 10]), (3, .invokevirtual 112, [0, 8, 39, 2, 1, 997]), (1, .iconst 1, [0, 1]), (1, .iadd, []), (3, .invokevirtual 152, [0, 8, 153, 4, 0, 1048]), (0, .nop, [1])]),
  (38, [0, 1], [(1, .iload_n 1, []), (1, .iconst 1, [0, 1]), (3, .if_icmp .le 29, [2]), (1, .aload_n 0, []), (1, .aload_n 0, []), (2, .bipush 11, [0, 11]), (3, .invokevirtual 112, [0, 8, 39, 2, 1, 997]), (1, .aload_n 0, []), (2, .bipush 10, [0, 10]), (3, .invokevirtual 112, [0, 8, 39, 2, 1, 997]), (1, .iconst 1, [0, 1]), (1, .iadd, []), (1, .aload_n 0, []), (2, .bipush 10, [0, 10]), (3, .invokevirtual 112, [0, 8, 39, 2, 1, 997]), (1, .iconst 2, [0, 2]), (1, .iadd, []), (3, .invokevirtual 152, [0, 8, 153, 4, 0, 1048]), (0, .nop, [2])]),
  (69, [], [(1, .return_, [])])]
def bk_M_mixedFlow : List jx_B := [
  (0, [0, 1, 3], [(1, .aload_n 0, []), (1, .aload_n 0, []), (1, .iload_n 3, []), (3, .invokevirtual 92, [0, 8, 43, 2, 1, 941]), (3, .putfield 109, [0, 8, 12, 867]), (3, .ldc2_w 245, [0, 31, 1187]), (1, .lload_n 1, []), (1, .lmul, []), (1, .aload_n 0, []), (1, .iconst 0, [0, 0]), (3, .invokevirtual 112, [0, 8, 39, 2, 1, 997]), (1, .i2l, []), (1, .ladd, []), (2, .lstore 4, []), (1, .iconst 0, [0, 0]), (2, .istore 6, []), (0, .nop, [1])]),
  (26, [0, 4, 6], [(2, .iload 6, []), (2, .bipush 17, [0, 17]), (3, .if_icmp .gt 25, [2]), (3, .ldc2_w 245, [0, 31, 1187]), (2, .lload 4, []), (1, .lmul, []), (1, .aload_n 0, []), (2, .iload 6, []), (3, .invokevirtual 226, [0, 8, 156, 2, 1, 1114]), (1, .i2l, []), (1, .ladd, []), (2, .lstore 4, []), (3, .iinc 6 1, [0, 1]), (3, .goto (-26), [1])]),
  (55, [0, 4], [(3, .ldc2_w 245, [0, 31, 1187]), (2, .lload 4, []), (1, .lmul, []), (1, .aload_n 0, []), (3, .invokevirtual 232, [0, 8, 98, 1, 2, 1134]), (1, .ladd, []), (2, .lstore 4, []), (1, .iconst 0, [0, 0]), (2, .istore 6, []), (0, .nop, [3])]),
  (71, [0, 4, 6], [(2, .iload 6, []), (2, .bipush 7, [0, 7]), (3, .if_icmp .gt 25, [4]), (3, .ldc2_w 245, [0, 31, 1187]), (2, .lload 4, []), (1, .lmul, []), (1, .aload_n 0, []), (2, .iload 6, []), (3, .invokevirtual 236, [0, 8, 99, 2, 1, 1142]), (1, .i2l, []), (1, .ladd, []), (2, .lstore 4, []), (3, .iinc 6 1, [0, 1]), (3, .goto (-26), [3])]),
  (100, [0, 4], [(1, .iconst 0, [0, 0]), (2, .istore 6, []), (0, .nop, [5])]),
  (103, [0, 4, 6], [(2, .iload 6, []), (2, .bipush 50, [0, 50]), (3, .if_icmp .ge 31, [6]), (3, .ldc2_w 245, [0, 31, 1187]), (2, .lload 4, []), (1, .lmul, []), (1, .aload_n 0, []), (1, .aload_n 0, []), (1, .iconst 4, [0, 4]), (3, .invokevirtual 112, [0, 8, 39, 2, 1, 997]), (2, .iload 6, []), (1, .iadd, []), (3, .invokevirtual 229, [0, 8, 136, 2, 1, 1126]), (1, .i2l, []), (1, .ladd, []), (2, .lstore 4, []), (3, .iinc 6 1, [0, 1]), (3, .goto (-32), [5])]),
  (138, [4], [(2, .lload 4, []), (1, .lreturn, [])])]
def bk_M_property : List jx_B := [
  (0, [0, 1, 2], [(1, .iload_n 2, []), (1, .iconst 0, [0, 0]), (2, .bipush 17, [0, 17]), (3, .invokestatic 85, [0, 34, 3, 1, 911]), (3, .ifCond .eq 11, [1]), (1, .aload_n 0, []), (1, .iload_n 1, []), (3, .invokevirtual 220, [0, 8, 115, 2, 1, 1102]), (3, .goto 4, [2])]),
  (18, [0, 2], [(1, .iconst (-1), [1, 1]), (0, .nop, [2])]),
  (19, [0, 2], [(1, .istore_n 3, []), (1, .iload_n 3, []), (3, .ifCond .ge 5, [3]), (1, .iload_n 3, []), (1, .ireturn, [0])]),
  (26, [0, 2, 3], [(1, .aload_n 0, []), (1, .aload_n 0, []), (1, .iload_n 3, []), (3, .invokevirtual 92, [0, 8, 43, 2, 1, 941]), (3, .putfield 109, [0, 8, 12, 867]), (1, .aload_n 0, []), (1, .iload_n 2, []), (3, .invokevirtual 226, [0, 8, 156, 2, 1, 1114]), (1, .ireturn, [0])])]
def bk_T_handled : List jx_B := [
  (0, [0, 1, 2, 3], [(1, .aload_n 1, []), (3, .getfield 136, [2, 5, 2, 339]), (3, .invokevirtual 140, [0, 1, 14, 1, 1, 565]), (2, .istore 4, []), (1, .aload_n 1, []), (1, .iload_n 2, []), (3, .invokevirtual 251, [0, 5, 134, 2, 3, 569]), (1, .aload_n 0, []), (3, .getfield 9, [2, 7, 0, 362]), (1, .iconst 0, [0, 0]), (1, .aload_n 0, []), (3, .getfield 13, [0, 7, 1, 363]), (1, .iload_n 3, []), (3, .invokevirtual 255, [0, 2, 158, 5, 0, 591]), (1, .aload_n 1, []), (3, .getfield 136, [2, 5, 2, 339]), (3, .invokevirtual 140, [0, 1, 14, 1, 1, 565]), (2, .iload 4, []), (1, .isub, []), (1, .ireturn, [0])])]
def bk_T_record : List jx_B := [
  (0, [0], [(1, .aload_n 0, []), (3, .getfield 50, [0, 7, 7, 369]), (3, .ifCond .lt 11, [1]), (1, .aload_n 0, []), (3, .getfield 50, [0, 7, 7, 369]), (1, .iconst 4, [0, 4]), (3, .if_icmp .lt 7, [2]), (0, .nop, [1])]),
  (15, [0], [(1, .aload_n 0, []), (3, .invokevirtual 285, [0, 7, 1, 1, 0, 413]), (0, .nop, [2])]),
  (19, [0], [(1, .aload_n 0, []), (3, .getfield 46, [2, 7, 6, 368]), (1, .aload_n 0, []), (3, .getfield 50, [0, 7, 7, 369]), (1, .aaload, [5]), (1, .aload_n 0, []), (3, .getfield 32, [2, 7, 3, 365]), (3, .invokevirtual 197, [0, 5, 159, 2, 0, 417]), (1, .aload_n 0, []), (1, .dup, []), (3, .getfield 50, [0, 7, 7, 369]), (1, .iconst 1, [0, 1]), (1, .iadd, []), (3, .putfield 50, [0, 7, 7, 369]), (1, .return_, [])])]
def bk_T_wordsBy : List jx_B := [
  (0, [0, 1, 2], [(1, .aload_n 0, []), (3, .getfield 42, [2, 7, 5, 367]), (1, .aload_n 1, []), (3, .getfield 154, [0, 2, 0, 292]), (1, .iload_n 2, []), (1, .aload_n 1, []), (3, .getfield 167, [2, 2, 6, 303]), (3, .getfield 259, [0, 3, 3, 238]), (1, .aload_n 1, []), (3, .getfield 262, [0, 2, 2, 295]), (3, .invokevirtual 265, [0, 2, 108, 5, 0, 781]), (1, .aload_n 1, []), (3, .getfield 269, [2, 2, 5, 301]), (1, .astore_n 3, []), (1, .iconst 0, [0, 0]), (2, .istore 4, []), (0, .nop, [1])]),
  (31, [0, 3, 4], [(2, .iload 4, []), (1, .aload_n 3, []), (3, .getfield 272, [0, 4, 0, 209]), (3, .if_icmp .ge 46, [2]), (2, .iload 4, []), (2, .bipush 10, [0, 10]), (3, .if_icmp .ge 39, [2]), (1, .aload_n 0, []), (3, .getfield 42, [2, 7, 5, 367]), (1, .aload_n 3, []), (3, .getfield 275, [2, 4, 3, 217]), (2, .iload 4, []), (2, .bipush 40, [0, 40]), (1, .imul, []), (1, .aload_n 3, []), (3, .getfield 278, [2, 4, 2, 215]), (2, .iload 4, []), (1, .iaload, [0]), (1, .aload_n 3, []), (3, .getfield 279, [2, 4, 1, 212]), (2, .iload 4, []), (1, .iaload, [0]), (3, .invokevirtual 255, [0, 2, 158, 5, 0, 591]), (3, .iinc 4 1, [0, 1]), (3, .goto (-49), [1])]),
  (83, [0], [(1, .aload_n 0, []), (3, .getfield 42, [2, 7, 5, 367]), (3, .getfield 167, [2, 2, 6, 303]), (3, .getfield 282, [0, 3, 14, 258]), (1, .ireturn, [0])])]
def bk_M_delivers : List jx_B := [
  (0, [0, 1, 2], [(1, .iload_n 1, []), (3, .invokestatic 155, [0, 88, 1, 1, 1045]), (1, .istore_n 3, []), (1, .aload_n 0, []), (2, .bipush 9, [0, 9]), (3, .invokevirtual 112, [0, 8, 39, 2, 1, 997]), (1, .iconst 2, [0, 2]), (3, .if_icmp .ne 47, [1]), (1, .iload_n 3, []), (2, .bipush (-9), [1, 9]), (3, .if_icmp .eq 41, [1]), (1, .aload_n 0, []), (2, .bipush 9, [0, 9]), (1, .iconst 0, [0, 0]), (3, .invokevirtual 115, [0, 8, 42, 3, 0, 993]), (1, .aload_n 0, []), (2, .bipush 16, [0, 16]), (1, .aload_n 0, []), (2, .bipush 11, [0, 11]), (3, .invokevirtual 112, [0, 8, 39, 2, 1, 997]), (3, .invokestatic 155, [0, 88, 1, 1, 1045]), (1, .imul, []), (1, .iload_n 3, []), (1, .iadd, []), (2, .bipush 127, [0, 127]), (1, .iand, []), (1, .aload_n 0, []), (2, .bipush 10, [0, 10]), (3, .invokevirtual 112, [0, 8, 39, 2, 1, 997]), (1, .iload_n 2, []), (1, .iconst 1, [0, 1]), (1, .iadd, []), (3, .invokevirtual 152, [0, 8, 153, 4, 0, 1048]), (1, .return_, [])]),
  (59, [0, 1, 2, 3], [(1, .aload_n 0, []), (2, .bipush 9, [0, 9]), (3, .invokevirtual 112, [0, 8, 39, 2, 1, 997]), (1, .iconst 1, [0, 1]), (3, .if_icmp .ne 24, [2]), (1, .iload_n 3, []), (2, .bipush (-9), [1, 9]), (3, .if_icmp .eq 18, [2]), (1, .aload_n 0, []), (2, .bipush 9, [0, 9]), (1, .iconst 2, [0, 2]), (3, .invokevirtual 115, [0, 8, 42, 3, 0, 993]), (1, .aload_n 0, []), (2, .bipush 11, [0, 11]), (1, .iload_n 1, []), (3, .invokevirtual 115, [0, 8, 42, 3, 0, 993]), (1, .return_, [])]),
  (90, [0, 1, 2], [(1, .aload_n 0, []), (3, .invokevirtual 158, [0, 8, 160, 1, 0, 1082]), (1, .aload_n 0, []), (1, .iconst 2, [0, 2]), (3, .invokevirtual 146, [0, 8, 87, 2, 1, 1052]), (3, .ifCond .eq 26, [3]), (1, .iload_n 1, []), (2, .bipush 37, [0, 37]), (3, .if_icmp .ne 20, [3]), (1, .aload_n 0, []), (2, .bipush 9, [0, 9]), (1, .iconst 1, [0, 1]), (3, .invokevirtual 115, [0, 8, 42, 3, 0, 993]), (1, .aload_n 0, []), (2, .bipush 10, [0, 10]), (1, .iload_n 2, []), (3, .invokevirtual 115, [0, 8, 42, 3, 0, 993]), (3, .goto 12, [4])]),
  (125, [0, 1, 2], [(1, .aload_n 0, []), (1, .iload_n 1, []), (1, .iload_n 2, []), (1, .iload_n 2, []), (1, .iconst 1, [0, 1]), (1, .iadd, []), (3, .invokevirtual 152, [0, 8, 153, 4, 0, 1048]), (0, .nop, [4])]),
  (134, [], [(1, .return_, [])])]
def bk_M_digest : List jx_B := [
  (0, [0], [(3, .ldc2_w 247, [0, 12572, 1186]), (1, .lstore_n 1, []), (1, .iconst 0, [0, 0]), (1, .istore_n 3, []), (0, .nop, [1])]),
  (6, [0, 1, 3], [(1, .iload_n 3, []), (2, .bipush 11, [0, 11]), (3, .if_icmp .gt 22, [2]), (3, .ldc2_w 245, [0, 31, 1187]), (1, .lload_n 1, []), (1, .lmul, []), (1, .aload_n 0, []), (1, .iload_n 3, []), (3, .invokevirtual 249, [0, 8, 123, 2, 1, 1188]), (1, .i2l, []), (1, .ladd, []), (1, .lstore_n 1, []), (3, .iinc 3 1, [0, 1]), (3, .goto (-22), [1])]),
  (31, [0, 1], [(1, .iconst 0, [0, 0]), (1, .istore_n 3, []), (0, .nop, [3])]),
  (33, [0, 1, 3], [(1, .iload_n 3, []), (1, .aload_n 0, []), (3, .getfield 54, [0, 8, 4, 859]), (3, .if_icmp .ge 39, [6]), (1, .iconst 0, [0, 0]), (2, .istore 4, []), (0, .nop, [4])]),
  (44, [0, 1, 3, 4], [(2, .iload 4, []), (1, .iconst 4, [0, 4]), (3, .if_icmp .gt 24, [5]), (3, .ldc2_w 245, [0, 31, 1187]), (1, .lload_n 1, []), (1, .lmul, []), (1, .aload_n 0, []), (1, .iload_n 3, []), (2, .iload 4, []), (3, .invokevirtual 252, [0, 8, 96, 3, 1, 1189]), (1, .i2l, []), (1, .ladd, []), (1, .lstore_n 1, []), (3, .iinc 4 1, [0, 1]), (3, .goto (-24), [4])]),
  (71, [0, 1, 3], [(3, .iinc 3 1, [0, 1]), (3, .goto (-41), [3])]),
  (77, [0, 1], [(1, .iconst 0, [0, 0]), (1, .istore_n 3, []), (0, .nop, [7])]),
  (79, [0, 1, 3], [(1, .iload_n 3, []), (1, .aload_n 0, []), (3, .getfield 7, [2, 8, 0, 855]), (2, .bipush 57, [0, 57]), (1, .iaload, [0]), (3, .if_icmp .ge 16, [8]), (1, .aload_n 0, []), (1, .lload_n 1, []), (1, .iload_n 3, []), (3, .invokevirtual 255, [0, 8, 161, 3, 2, 1190]), (1, .lstore_n 1, []), (3, .iinc 3 1, [0, 1]), (3, .goto (-21), [7])]),
  (103, [0, 1], [(1, .iconst 0, [0, 0]), (1, .istore_n 3, []), (0, .nop, [9])]),
  (105, [0, 1, 3], [(1, .iload_n 3, []), (1, .aload_n 0, []), (3, .getfield 7, [2, 8, 0, 855]), (2, .bipush 62, [0, 62]), (1, .iaload, [0]), (3, .if_icmp .ge 39, [12]), (1, .iconst 0, [0, 0]), (2, .istore 4, []), (0, .nop, [10])]),
  (119, [0, 1, 3, 4], [(2, .iload 4, []), (1, .iconst 3, [0, 3]), (3, .if_icmp .gt 24, [11]), (3, .ldc2_w 245, [0, 31, 1187]), (1, .lload_n 1, []), (1, .lmul, []), (1, .aload_n 0, []), (1, .iload_n 3, []), (2, .iload 4, []), (3, .invokevirtual 259, [0, 8, 85, 3, 1, 1194]), (1, .i2l, []), (1, .ladd, []), (1, .lstore_n 1, []), (3, .iinc 4 1, [0, 1]), (3, .goto (-24), [10])]),
  (146, [0, 1, 3], [(3, .iinc 3 1, [0, 1]), (3, .goto (-44), [9])]),
  (152, [1], [(1, .lload_n 1, []), (1, .lreturn, [])])]
def bk_M_finish : List jx_B := [
  (0, [0, 1], [(1, .aload_n 0, []), (1, .iload_n 1, []), (3, .invokevirtual 220, [0, 8, 115, 2, 1, 1102]), (1, .istore_n 2, []), (1, .iload_n 2, []), (3, .ifCond .ge 5, [1]), (1, .iload_n 2, []), (1, .ireturn, [0])]),
  (12, [0, 2], [(1, .aload_n 0, []), (3, .invokevirtual 103, [0, 8, 78, 1, 0, 929]), (1, .aload_n 0, []), (1, .aload_n 0, []), (1, .iload_n 2, []), (3, .invokevirtual 92, [0, 8, 43, 2, 1, 941]), (3, .putfield 109, [0, 8, 12, 867]), (1, .aload_n 0, []), (1, .iconst 0, [0, 0]), (3, .putfield 118, [0, 8, 13, 868]), (1, .aload_n 0, []), (3, .invokevirtual 158, [0, 8, 160, 1, 0, 1082]), (1, .aload_n 0, []), (1, .iload_n 2, []), (3, .invokevirtual 198, [0, 8, 35, 2, 0, 981]), (1, .aload_n 0, []), (3, .getfield 118, [0, 8, 13, 868]), (1, .ireturn, [0])])]
def bk_M_gap : List jx_B := [
  (0, [0, 1], [(1, .iload_n 1, []), (1, .aload_n 0, []), (1, .iconst 4, [0, 4]), (3, .invokevirtual 112, [0, 8, 39, 2, 1, 997]), (1, .isub, []), (1, .istore_n 2, []), (1, .aload_n 0, []), (2, .bipush 16, [0, 16]), (1, .iconst 1, [0, 1]), (3, .invokevirtual 121, [0, 8, 29, 3, 0, 1001]), (1, .aload_n 0, []), (2, .bipush 17, [0, 17]), (1, .iload_n 2, []), (3, .invokevirtual 121, [0, 8, 29, 3, 0, 1001]), (1, .aload_n 0, []), (3, .invokevirtual 158, [0, 8, 160, 1, 0, 1082]), (1, .aload_n 0, []), (2, .bipush 12, [0, 12]), (1, .iconst 0, [0, 0]), (3, .invokevirtual 115, [0, 8, 42, 3, 0, 993]), (1, .aload_n 0, []), (2, .bipush 6, [0, 6]), (1, .iconst 0, [0, 0]), (3, .invokevirtual 115, [0, 8, 42, 3, 0, 993]), (1, .aload_n 0, []), (1, .iconst 4, [0, 4]), (1, .iload_n 1, []), (3, .invokevirtual 115, [0, 8, 42, 3, 0, 993]), (1, .iconst 1, [0, 1]), (1, .istore_n 3, []), (1, .iconst 0, [0, 0]), (2, .istore 4, []), (0, .nop, [1])]),
  (51, [0, 2, 3, 4], [(2, .iload 4, []), (1, .iload_n 2, []), (3, .if_icmp .ge 152, [9]), (1, .iload_n 3, []), (3, .ifCond .eq 148, [9]), (1, .aload_n 0, []), (2, .bipush 7, [0, 7]), (3, .invokevirtual 112, [0, 8, 39, 2, 1, 997]), (1, .iconst 1, [0, 1]), (1, .ior, []), (2, .istore 5, []), (1, .aload_n 0, []), (2, .bipush 8, [0, 8]), (3, .invokevirtual 112, [0, 8, 39, 2, 1, 997]), (2, .istore 6, []), (1, .iconst 0, [0, 0]), (2, .istore 7, []), (0, .nop, [2])]),
  (82, [0, 2, 4, 5, 6, 7], [(2, .iload 7, []), (1, .aload_n 0, []), (3, .getfield 54, [0, 8, 4, 859]), (3, .if_icmp .ge 76, [5]), (1, .iconst 0, [0, 0]), (2, .istore 8, []), (0, .nop, [3])]),
  (94, [0, 2, 4, 5, 6, 7, 8], [(2, .iload 8, []), (2, .bipush 26, [0, 26]), (3, .if_icmp .ge 60, [4]), (1, .aload_n 0, []), (2, .iload 7, []), (3, .invokevirtual 127, [0, 8, 91, 2, 1, 1064]), (3, .ifCond .eq 51, [4]), (2, .iload 5, []), (1, .aload_n 0, []), (3, .getfield 31, [2, 8, 10, 865]), (2, .bipush 26, [0, 26]), (2, .iload 7, []), (1, .imul, []), (2, .iload 8, []), (1, .iadd, []), (1, .iaload, [0]), (3, .invokestatic 130, [0, 37, 1, 1, 1068]), (1, .ior, []), (2, .istore 5, []), (2, .iload 6, []), (1, .aload_n 0, []), (3, .getfield 31, [2, 8, 10, 865]), (2, .bipush 26, [0, 26]), (2, .iload 7, []), (1, .imul, []), (2, .iload 8, []), (1, .iadd, []), (1, .iaload, [0]), (3, .invokestatic 133, [0, 33, 1, 1, 1071]), (1, .ior, []), (2, .istore 6, []), (3, .iinc 8 1, [0, 1]), (3, .goto (-61), [3])]),
  (158, [0, 2, 4, 5, 6, 7], [(3, .iinc 7 1, [0, 1]), (3, .goto (-79), [2])]),
  (164, [0, 2, 4, 5, 6], [(2, .iload 5, []), (1, .aload_n 0, []), (2, .bipush 7, [0, 7]), (3, .invokevirtual 112, [0, 8, 39, 2, 1, 997]), (3, .if_icmp .ne 14, [6]), (2, .iload 6, []), (1, .aload_n 0, []), (2, .bipush 8, [0, 8]), (3, .invokevirtual 112, [0, 8, 39, 2, 1, 997]), (3, .if_icmp .eq 7, [7]), (0, .nop, [6])]),
  (186, [0, 2, 4, 5, 6], [(1, .iconst 1, [0, 1]), (3, .goto 4, [8])]),
  (190, [0, 2, 4, 5, 6], [(1, .iconst 0, [0, 0]), (0, .nop, [8])]),
  (191, [0, 2, 4, 5, 6], [(1, .istore_n 3, []), (1, .aload_n 0, []), (2, .iload 5, []), (2, .iload 6, []), (3, .invokevirtual 136, [0, 8, 93, 3, 0, 1074]), (3, .iinc 4 1, [0, 1]), (3, .goto (-152), [1])]),
  (206, [], [(1, .return_, [])])]
def bk_T_define : List jx_B := [
  (0, [0, 1], [(1, .iload_n 1, []), (3, .invokestatic 53, [0, 5, 1, 1, 399]), (3, .ifCond .ne 5, [1]), (1, .iconst (-1), [1, 1]), (1, .ireturn, [0])]),
  (9, [0, 1], [(1, .aload_n 0, []), (3, .invokevirtual 57, [0, 7, 50, 1, 1, 402]), (1, .istore_n 2, []), (1, .iload_n 2, []), (1, .iconst (-1), [1, 1]), (3, .if_icmp .eq 8, [2]), (2, .bipush (-10), [1, 10]), (1, .iload_n 2, []), (1, .isub, []), (1, .ireturn, [0])]),
  (24, [0, 1], [(1, .aload_n 0, []), (3, .invokevirtual 61, [0, 7, 164, 1, 0, 409]), (1, .aload_n 0, []), (3, .getfield 32, [2, 7, 3, 365]), (3, .getfield 64, [2, 5, 0, 335]), (1, .iload_n 1, []), (1, .aload_n 0, []), (3, .getfield 9, [2, 7, 0, 362]), (1, .aload_n 0, []), (3, .getfield 13, [0, 7, 1, 363]), (3, .invokevirtual 68, [0, 6, 77, 4, 0, 460]), (1, .aload_n 0, []), (3, .invokevirtual 74, [0, 7, 148, 1, 0, 467]), (1, .aload_n 0, []), (3, .getfield 20, [2, 7, 2, 364]), (3, .getfield 77, [0, 0, 0, 104]), (1, .ireturn, [0])])]
def bk_T_evasions : List jx_B := [
  (0, [0, 1], [(1, .iload_n 1, []), (3, .invokestatic 129, [0, 3, 1, 1, 553]), (3, .ifCond .ne 5, [1]), (1, .iconst (-1), [1, 1]), (1, .ireturn, [0])]),
  (9, [0, 1], [(1, .aload_n 0, []), (3, .getfield 32, [2, 7, 3, 365]), (1, .iload_n 1, []), (3, .invokevirtual 132, [0, 5, 25, 2, 1, 556]), (1, .istore_n 2, []), (1, .iload_n 2, []), (1, .iconst (-1), [1, 1]), (3, .if_icmp .ne 6, [2]), (2, .bipush (-2), [1, 2]), (1, .ireturn, [0])]),
  (26, [0, 2], [(1, .iconst 0, [0, 0]), (1, .istore_n 3, []), (2, .bipush 63, [0, 63]), (2, .istore 4, []), (1, .iconst 0, [0, 0]), (2, .istore 5, []), (0, .nop, [3])]),
  (35, [0, 2, 3, 4, 5], [(2, .iload 5, []), (1, .iconst 4, [0, 4]), (3, .if_icmp .ge 38, [4]), (1, .aload_n 0, []), (1, .aload_n 0, []), (3, .getfield 32, [2, 7, 3, 365]), (3, .getfield 143, [2, 5, 3, 341]), (1, .iload_n 2, []), (1, .aaload, [2]), (2, .iload 5, []), (3, .invokevirtual 201, [0, 7, 165, 3, 1, 777]), (2, .istore 6, []), (1, .iload_n 3, []), (2, .iload 6, []), (1, .ior, []), (1, .istore_n 3, []), (2, .iload 4, []), (2, .iload 6, []), (1, .iand, []), (2, .istore 4, []), (3, .iinc 5 1, [0, 1]), (3, .goto (-38), [3])]),
  (76, [3, 4], [(1, .iload_n 3, []), (2, .iload 4, []), (1, .iconst (-1), [1, 1]), (1, .ixor, []), (1, .iand, []), (1, .ireturn, [0])])]
def bk_T_finish : List jx_B := [
  (0, [0, 1], [(1, .iload_n 1, []), (3, .invokestatic 129, [0, 3, 1, 1, 553]), (3, .ifCond .ne 5, [1]), (1, .iconst (-1), [1, 1]), (1, .ireturn, [0])]),
  (9, [0, 1], [(1, .aload_n 0, []), (3, .getfield 32, [2, 7, 3, 365]), (1, .iload_n 1, []), (3, .invokevirtual 132, [0, 5, 25, 2, 1, 556]), (1, .istore_n 2, []), (1, .iload_n 2, []), (1, .iconst (-1), [1, 1]), (3, .if_icmp .ne 6, [2]), (2, .bipush (-2), [1, 2]), (1, .ireturn, [0])]),
  (26, [0, 2], [(1, .aload_n 0, []), (3, .invokevirtual 61, [0, 7, 164, 1, 0, 409]), (1, .aload_n 0, []), (3, .getfield 32, [2, 7, 3, 365]), (3, .getfield 136, [2, 5, 2, 339]), (3, .invokevirtual 140, [0, 1, 14, 1, 1, 565]), (1, .istore_n 3, []), (1, .aload_n 0, []), (3, .getfield 32, [2, 7, 3, 365]), (3, .getfield 143, [2, 5, 3, 341]), (1, .iload_n 2, []), (1, .aaload, [2]), (3, .invokevirtual 147, [0, 2, 128, 1, 0, 706]), (1, .aload_n 0, []), (3, .getfield 32, [2, 7, 3, 365]), (1, .iload_n 2, []), (3, .invokevirtual 150, [0, 5, 73, 2, 0, 711]), (1, .aload_n 0, []), (3, .getfield 32, [2, 7, 3, 365]), (3, .getfield 136, [2, 5, 2, 339]), (3, .invokevirtual 140, [0, 1, 14, 1, 1, 565]), (1, .iload_n 3, []), (1, .isub, []), (1, .ireturn, [0])])]
def bk_T_forget : List jx_B := [
  (0, [0, 1], [(1, .iload_n 1, []), (3, .invokestatic 53, [0, 5, 1, 1, 399]), (3, .ifCond .ne 5, [1]), (1, .iconst (-1), [1, 1]), (1, .ireturn, [0])]),
  (9, [0, 1], [(1, .aload_n 0, []), (3, .getfield 32, [2, 7, 3, 365]), (3, .getfield 64, [2, 5, 0, 335]), (1, .iload_n 1, []), (3, .invokevirtual 80, [0, 6, 26, 2, 1, 511]), (3, .ifCond .ne 6, [2]), (2, .bipush (-2), [1, 2]), (1, .ireturn, [0])]),
  (26, [0, 1], [(1, .aload_n 0, []), (3, .invokevirtual 61, [0, 7, 164, 1, 0, 409]), (1, .aload_n 0, []), (3, .getfield 32, [2, 7, 3, 365]), (3, .getfield 64, [2, 5, 0, 335]), (1, .iload_n 1, []), (3, .invokevirtual 83, [0, 6, 28, 2, 0, 515]), (1, .aload_n 0, []), (3, .invokevirtual 74, [0, 7, 148, 1, 0, 467]), (1, .aload_n 0, []), (3, .getfield 20, [2, 7, 2, 364]), (3, .getfield 77, [0, 0, 0, 104]), (1, .ireturn, [0])])]
def bk_T_ifSegment : List jx_B := [
  (0, [0, 1, 2], [(1, .aload_n 0, []), (1, .iload_n 1, []), (1, .iload_n 2, []), (3, .invokevirtual 122, [0, 7, 56, 3, 1, 549]), (1, .istore_n 3, []), (1, .iload_n 3, []), (3, .ifCond .eq 5, [1]), (1, .iload_n 3, []), (1, .ireturn, [0])]),
  (13, [0, 1, 2], [(1, .aload_n 0, []), (3, .getfield 36, [2, 7, 4, 366]), (1, .aload_n 0, []), (3, .getfield 32, [2, 7, 3, 365]), (3, .invokevirtual 197, [0, 5, 159, 2, 0, 417]), (1, .aload_n 0, []), (1, .aload_n 0, []), (3, .getfield 36, [2, 7, 4, 366]), (1, .iload_n 1, []), (1, .iload_n 2, []), (3, .invokevirtual 125, [0, 7, 163, 4, 1, 561]), (1, .ireturn, [0])])]
def bk_T_replay : List jx_B := [
  (0, [0, 1, 2], [(1, .iload_n 1, []), (3, .invokestatic 129, [0, 3, 1, 1, 553]), (3, .ifCond .eq 12, [1]), (1, .iload_n 2, []), (3, .ifCond .lt 8, [1]), (1, .iload_n 2, []), (1, .iconst 4, [0, 4]), (3, .if_icmp .lt 5, [2]), (0, .nop, [1])]),
  (16, [], [(1, .iconst (-1), [1, 1]), (1, .ireturn, [0])]),
  (18, [0, 1, 2], [(1, .aload_n 0, []), (3, .getfield 32, [2, 7, 3, 365]), (1, .iload_n 1, []), (3, .invokevirtual 132, [0, 5, 25, 2, 1, 556]), (1, .istore_n 3, []), (1, .iload_n 3, []), (1, .iconst (-1), [1, 1]), (3, .if_icmp .ne 8, [3]), (2, .bipush (-2), [1, 2]), (3, .goto 17, [4])]),
  (37, [0, 2, 3], [(1, .aload_n 0, []), (1, .aload_n 0, []), (3, .getfield 32, [2, 7, 3, 365]), (3, .getfield 143, [2, 5, 3, 341]), (1, .iload_n 3, []), (1, .aaload, [2]), (1, .iload_n 2, []), (3, .invokevirtual 201, [0, 7, 165, 3, 1, 777]), (0, .nop, [4])]),
  (51, [], [(1, .ireturn, [0])])]
def bk_T_segment : List jx_B := [
  (0, [0, 1, 2], [(1, .aload_n 0, []), (1, .iload_n 1, []), (1, .iload_n 2, []), (3, .invokevirtual 122, [0, 7, 56, 3, 1, 549]), (1, .istore_n 3, []), (1, .iload_n 3, []), (3, .ifCond .eq 5, [1]), (1, .iload_n 3, []), (1, .ireturn, [0])]),
  (13, [0, 1, 2], [(1, .aload_n 0, []), (3, .invokevirtual 61, [0, 7, 164, 1, 0, 409]), (1, .aload_n 0, []), (1, .aload_n 0, []), (3, .getfield 32, [2, 7, 3, 365]), (1, .iload_n 1, []), (1, .iload_n 2, []), (3, .invokevirtual 125, [0, 7, 163, 4, 1, 561]), (1, .ireturn, [0])])]
def bk_T_set : List jx_B := [
  (0, [0, 1, 2], [(1, .iload_n 1, []), (3, .ifCond .lt 26, [1]), (1, .iload_n 1, []), (1, .iconst 2, [0, 2]), (3, .if_icmp .gt 21, [1]), (1, .iload_n 2, []), (3, .getstatic 113, [0, 541]), (1, .iload_n 1, []), (1, .iaload, [1]), (3, .if_icmp .lt 12, [1]), (1, .iload_n 2, []), (3, .getstatic 116, [1, 543]), (1, .iload_n 1, []), (1, .iaload, [1]), (3, .if_icmp .le 5, [2]), (0, .nop, [1])]),
  (27, [], [(1, .iconst (-1), [1, 1]), (1, .ireturn, [0])]),
  (29, [0, 1, 2], [(1, .aload_n 0, []), (3, .invokevirtual 61, [0, 7, 164, 1, 0, 409]), (1, .aload_n 0, []), (3, .getfield 32, [2, 7, 3, 365]), (3, .getfield 119, [2, 5, 1, 337]), (1, .iload_n 1, []), (1, .iaload, [0]), (1, .istore_n 3, []), (1, .aload_n 0, []), (3, .getfield 32, [2, 7, 3, 365]), (3, .getfield 119, [2, 5, 1, 337]), (1, .iload_n 1, []), (1, .iload_n 2, []), (1, .iastore, []), (1, .iload_n 3, []), (1, .ireturn, [0])])]
def bk_M_deliversAll : List jx_B := [
  (0, [0], [(1, .aload_n 0, []), (1, .aload_n 0, []), (1, .iconst 4, [0, 4]), (3, .invokevirtual 112, [0, 8, 39, 2, 1, 997]), (3, .invokevirtual 173, [0, 8, 116, 2, 1, 1021]), (1, .istore_n 1, []), (0, .nop, [1])]),
  (10, [0, 1], [(1, .iload_n 1, []), (2, .bipush (-9), [1, 9]), (3, .if_icmp .eq 68, [4]), (1, .aload_n 0, []), (1, .iload_n 1, []), (1, .aload_n 0, []), (1, .iconst 4, [0, 4]), (3, .invokevirtual 112, [0, 8, 39, 2, 1, 997]), (3, .invokevirtual 170, [0, 8, 79, 3, 1, 1033]), (1, .istore_n 2, []), (1, .aload_n 0, []), (2, .bipush 15, [0, 15]), (1, .aload_n 0, []), (1, .aload_n 0, []), (1, .iconst 4, [0, 4]), (3, .invokevirtual 112, [0, 8, 39, 2, 1, 997]), (3, .invokevirtual 176, [0, 8, 117, 2, 1, 1037]), (3, .ifCond .eq 7, [2]), (1, .iconst 1, [0, 1]), (3, .goto 4, [3])]),
  (46, [0, 2], [(1, .iconst 0, [0, 0]), (0, .nop, [3])]),
  (47, [0, 2], [(3, .invokevirtual 121, [0, 8, 29, 3, 0, 1001]), (1, .aload_n 0, []), (1, .iconst 4, [0, 4]), (3, .invokevirtual 112, [0, 8, 39, 2, 1, 997]), (1, .istore_n 3, []), (1, .aload_n 0, []), (1, .iconst 4, [0, 4]), (1, .iconst 1, [0, 1]), (3, .invokevirtual 121, [0, 8, 29, 3, 0, 1001]), (1, .aload_n 0, []), (1, .iload_n 2, []), (1, .iload_n 3, []), (3, .invokevirtual 179, [0, 8, 166, 3, 0, 1041]), (1, .aload_n 0, []), (1, .aload_n 0, []), (1, .iconst 4, [0, 4]), (3, .invokevirtual 112, [0, 8, 39, 2, 1, 997]), (3, .invokevirtual 173, [0, 8, 116, 2, 1, 1021]), (1, .istore_n 1, []), (3, .goto (-68), [1])]),
  (81, [0], [(1, .aload_n 0, []), (3, .invokevirtual 182, [0, 8, 82, 1, 0, 1086]), (1, .return_, [])])]
def bk_M_handles : List jx_B := [
  (0, [0, 1, 2, 3], [(1, .aload_n 0, []), (2, .bipush 13, [0, 13]), (1, .iconst 1, [0, 1]), (3, .invokevirtual 121, [0, 8, 29, 3, 0, 1001]), (1, .iload_n 1, []), (1, .iload_n 2, []), (1, .iadd, []), (1, .aload_n 0, []), (1, .iconst 4, [0, 4]), (3, .invokevirtual 112, [0, 8, 39, 2, 1, 997]), (3, .if_icmp .gt 11, [1]), (1, .aload_n 0, []), (2, .bipush 14, [0, 14]), (1, .iconst 1, [0, 1]), (3, .invokevirtual 121, [0, 8, 29, 3, 0, 1001]), (1, .return_, [])]),
  (26, [0, 1, 2, 3], [(1, .aload_n 0, []), (1, .aload_n 0, []), (1, .iconst 5, [0, 5]), (3, .invokevirtual 112, [0, 8, 39, 2, 1, 997]), (3, .invokevirtual 161, [0, 8, 41, 2, 1, 1013]), (2, .istore 4, []), (1, .aload_n 0, []), (3, .getfield 7, [2, 8, 0, 855]), (2, .iload 4, []), (1, .iload_n 1, []), (1, .iastore, []), (1, .aload_n 0, []), (3, .getfield 7, [2, 8, 0, 855]), (2, .iload 4, []), (1, .iconst 1, [0, 1]), (1, .iadd, []), (1, .iload_n 2, []), (1, .iastore, []), (1, .iconst 0, [0, 0]), (2, .istore 5, []), (0, .nop, [2])]),
  (58, [0, 2, 3, 4, 5], [(2, .iload 5, []), (1, .iload_n 2, []), (3, .if_icmp .ge 30, [3]), (1, .aload_n 0, []), (3, .getfield 7, [2, 8, 0, 855]), (2, .iload 4, []), (1, .iconst 2, [0, 2]), (1, .iadd, []), (2, .iload 5, []), (1, .iadd, []), (1, .aload_n 0, []), (3, .getfield 7, [2, 8, 0, 855]), (1, .iload_n 3, []), (2, .iload 5, []), (1, .iadd, []), (1, .iaload, [0]), (1, .iastore, []), (3, .iinc 5 1, [0, 1]), (3, .goto (-30), [2])]),
  (91, [0], [(1, .aload_n 0, []), (1, .iconst 5, [0, 5]), (1, .iconst 1, [0, 1]), (3, .invokevirtual 121, [0, 8, 29, 3, 0, 1001]), (1, .aload_n 0, []), (3, .invokevirtual 185, [0, 8, 178, 1, 0, 1017]), (0, .nop, [4])]),
  (101, [0], [(1, .aload_n 0, []), (1, .iconst 0, [0, 0]), (3, .invokevirtual 188, [0, 8, 137, 2, 1, 1090]), (1, .aload_n 0, []), (1, .iconst 3, [0, 3]), (3, .invokevirtual 112, [0, 8, 39, 2, 1, 997]), (3, .if_icmp .le 19, [5]), (1, .aload_n 0, []), (1, .aload_n 0, []), (1, .iconst 1, [0, 1]), (3, .invokevirtual 188, [0, 8, 137, 2, 1, 1090]), (3, .invokevirtual 192, [0, 8, 169, 2, 0, 1094]), (1, .aload_n 0, []), (3, .invokevirtual 185, [0, 8, 178, 1, 0, 1017]), (3, .goto (-26), [4])]),
  (130, [], [(1, .return_, [])])]
def bk_M_handlesText : List jx_B := [
  (0, [0, 1], [(1, .iconst 0, [0, 0]), (1, .istore_n 2, []), (0, .nop, [1])]),
  (2, [0, 1, 2], [(1, .iload_n 2, []), (1, .aload_n 0, []), (3, .getfield 89, [0, 8, 3, 858]), (3, .if_icmp .ge 25, [2]), (1, .aload_n 0, []), (3, .getfield 7, [2, 8, 0, 855]), (3, .sipush 3026, [0, 3026]), (1, .iload_n 2, []), (1, .iadd, []), (1, .aload_n 0, []), (3, .getfield 13, [2, 8, 2, 857]), (1, .iload_n 2, []), (1, .iaload, [0]), (1, .iastore, []), (3, .iinc 2 1, [0, 1]), (3, .goto (-27), [1])]),
  (32, [0, 1], [(1, .aload_n 0, []), (1, .iload_n 1, []), (1, .aload_n 0, []), (3, .getfield 89, [0, 8, 3, 858]), (3, .sipush 3026, [0, 3026]), (3, .invokevirtual 211, [0, 8, 179, 4, 0, 1009]), (1, .return_, [])])]
def bk_M_replays : List jx_B := [
  (0, [0, 1, 2], [(1, .aload_n 0, []), (1, .iconst 0, [0, 0]), (1, .iconst 5, [0, 5]), (3, .invokevirtual 50, [0, 8, 31, 3, 0, 933]), (1, .aload_n 0, []), (1, .iload_n 1, []), (3, .invokevirtual 92, [0, 8, 43, 2, 1, 941]), (1, .istore_n 3, []), (1, .aload_n 0, []), (3, .sipush 3026, [0, 3026]), (3, .putfield 109, [0, 8, 12, 867]), (1, .aload_n 0, []), (1, .aload_n 0, []), (3, .getfield 7, [2, 8, 0, 855]), (1, .iload_n 3, []), (1, .iconst 0, [0, 0]), (1, .iadd, []), (1, .iaload, [0]), (1, .iload_n 2, []), (1, .aload_n 0, []), (3, .getfield 7, [2, 8, 0, 855]), (1, .iload_n 3, []), (1, .iconst 2, [0, 2]), (1, .iadd, []), (1, .iaload, [0]), (1, .aload_n 0, []), (3, .getfield 7, [2, 8, 0, 855]), (1, .iload_n 3, []), (1, .iconst 3, [0, 3]), (1, .iadd, []), (1, .iaload, [0]), (3, .invokevirtual 204, [0, 8, 101, 5, 0, 989]), (1, .aload_n 0, []), (1, .iconst 0, [0, 0]), (3, .putfield 124, [0, 8, 14, 869]), (1, .iconst 0, [0, 0]), (2, .istore 4, []), (0, .nop, [1])]),
  (56, [0, 3, 4], [(2, .iload 4, []), (1, .aload_n 0, []), (3, .getfield 7, [2, 8, 0, 855]), (1, .iload_n 3, []), (2, .bipush 21, [0, 21]), (1, .iadd, []), (1, .iaload, [0]), (3, .if_icmp .ge 46, [2]), (1, .iload_n 3, []), (3, .sipush 290, [0, 290]), (1, .iadd, []), (2, .bipush 42, [0, 42]), (2, .iload 4, []), (1, .imul, []), (1, .iadd, []), (2, .istore 5, []), (1, .aload_n 0, []), (1, .aload_n 0, []), (3, .getfield 7, [2, 8, 0, 855]), (2, .iload 5, []), (1, .iaload, [0]), (1, .aload_n 0, []), (3, .getfield 7, [2, 8, 0, 855]), (2, .iload 5, []), (1, .iconst 1, [0, 1]), (1, .iadd, []), (1, .iaload, [0]), (2, .iload 5, []), (1, .iconst 2, [0, 2]), (1, .iadd, []), (3, .invokevirtual 211, [0, 8, 179, 4, 0, 1009]), (3, .iinc 4 1, [0, 1]), (3, .goto (-54), [1])]),
  (113, [0], [(1, .aload_n 0, []), (1, .iconst 5, [0, 5]), (1, .iconst 0, [0, 0]), (3, .invokevirtual 50, [0, 8, 31, 3, 0, 933]), (1, .aload_n 0, []), (3, .getfield 124, [0, 8, 14, 869]), (1, .ireturn, [0])])]
def bk_M_evasions : List jx_B := [
  (0, [0, 1], [(1, .aload_n 0, []), (1, .iload_n 1, []), (3, .invokevirtual 220, [0, 8, 115, 2, 1, 1102]), (1, .istore_n 2, []), (1, .iload_n 2, []), (3, .ifCond .ge 5, [1]), (1, .iload_n 2, []), (1, .ireturn, [0])]),
  (12, [0, 2], [(1, .iconst 0, [0, 0]), (1, .istore_n 3, []), (1, .iconst (-1), [1, 1]), (2, .istore 4, []), (1, .iconst 0, [0, 0]), (2, .istore 5, []), (0, .nop, [2])]),
  (20, [0, 2, 3, 4, 5], [(2, .iload 5, []), (1, .iconst 3, [0, 3]), (3, .if_icmp .gt 30, [3]), (1, .aload_n 0, []), (1, .iload_n 2, []), (2, .iload 5, []), (3, .invokevirtual 242, [0, 8, 181, 3, 1, 1166]), (2, .istore 6, []), (1, .iload_n 3, []), (2, .iload 6, []), (1, .ior, []), (1, .istore_n 3, []), (2, .iload 4, []), (2, .iload 6, []), (1, .iand, []), (2, .istore 4, []), (3, .iinc 5 1, [0, 1]), (3, .goto (-30), [2])]),
  (53, [3, 4], [(1, .iload_n 3, []), (2, .iload 4, []), (1, .iconst (-1), [1, 1]), (1, .ixor, []), (1, .iand, []), (1, .ireturn, [0])])]
def bk_M_replay : List jx_B := [
  (0, [0, 1, 2], [(1, .iload_n 2, []), (1, .iconst 0, [0, 0]), (1, .iconst 3, [0, 3]), (3, .invokestatic 85, [0, 34, 3, 1, 911]), (3, .ifCond .eq 11, [1]), (1, .aload_n 0, []), (1, .iload_n 1, []), (3, .invokevirtual 220, [0, 8, 115, 2, 1, 1102]), (3, .goto 4, [2])]),
  (17, [0, 2], [(1, .iconst (-1), [1, 1]), (0, .nop, [2])]),
  (18, [0, 2], [(1, .istore_n 3, []), (1, .iload_n 3, []), (3, .ifCond .ge 7, [3]), (1, .iload_n 3, []), (3, .goto 9, [4])]),
  (27, [0, 2, 3], [(1, .aload_n 0, []), (1, .iload_n 3, []), (1, .iload_n 2, []), (3, .invokevirtual 242, [0, 8, 181, 3, 1, 1166]), (0, .nop, [4])]),
  (33, [], [(1, .ireturn, [0])])]
def bk_M_segments : List jx_B := [
  (0, [0, 1, 2], [(1, .aload_n 0, []), (1, .iload_n 1, []), (3, .invokevirtual 195, [0, 8, 97, 2, 1, 973]), (1, .istore_n 3, []), (1, .iload_n 3, []), (2, .bipush (-9), [1, 9]), (3, .if_icmp .ne 79, [2]), (1, .aload_n 0, []), (3, .getfield 7, [2, 8, 0, 855]), (2, .bipush 57, [0, 57]), (1, .iaload, [0]), (1, .iconst 4, [0, 4]), (3, .if_icmp .ne 19, [1]), (1, .aload_n 0, []), (1, .iconst 0, [0, 0]), (3, .invokevirtual 198, [0, 8, 35, 2, 0, 981]), (1, .aload_n 0, []), (3, .getfield 7, [2, 8, 0, 855]), (2, .bipush 65, [0, 65]), (1, .dup2, []), (1, .iaload, [0]), (1, .iconst 1, [0, 1]), (1, .iadd, []), (1, .iastore, []), (0, .nop, [1])]),
  (39, [0, 1, 2], [(1, .aload_n 0, []), (3, .invokevirtual 201, [0, 8, 32, 1, 1, 985]), (2, .istore 4, []), (1, .aload_n 0, []), (3, .sipush 186, [0, 186]), (3, .sipush 710, [0, 710]), (2, .iload 4, []), (1, .imul, []), (1, .iadd, []), (3, .putfield 109, [0, 8, 12, 867]), (1, .aload_n 0, []), (1, .iload_n 1, []), (1, .aload_n 0, []), (3, .getfield 7, [2, 8, 0, 855]), (2, .bipush 54, [0, 54]), (1, .iaload, [0]), (1, .aload_n 0, []), (3, .getfield 7, [2, 8, 0, 855]), (2, .bipush 55, [0, 55]), (1, .iaload, [0]), (1, .aload_n 0, []), (3, .getfield 7, [2, 8, 0, 855]), (2, .bipush 56, [0, 56]), (1, .iaload, [0]), (3, .invokevirtual 204, [0, 8, 101, 5, 0, 989]), (3, .goto 33, [3])]),
  (88, [0, 2, 3], [(1, .aload_n 0, []), (3, .getfield 7, [2, 8, 0, 855]), (2, .bipush 58, [0, 58]), (1, .iload_n 3, []), (1, .iadd, []), (1, .iaload, [0]), (2, .istore 4, []), (1, .aload_n 0, []), (1, .iload_n 3, []), (3, .invokevirtual 198, [0, 8, 35, 2, 0, 981]), (1, .aload_n 0, []), (3, .sipush 186, [0, 186]), (3, .sipush 710, [0, 710]), (2, .iload 4, []), (1, .imul, []), (1, .iadd, []), (3, .putfield 109, [0, 8, 12, 867]), (0, .nop, [3])]),
  (118, [0, 2, 4], [(1, .aload_n 0, []), (3, .getfield 7, [2, 8, 0, 855]), (2, .bipush 58, [0, 58]), (1, .aload_n 0, []), (3, .getfield 7, [2, 8, 0, 855]), (2, .bipush 57, [0, 57]), (1, .iaload, [0]), (1, .iadd, []), (2, .iload 4, []), (1, .iastore, []), (1, .aload_n 0, []), (3, .getfield 7, [2, 8, 0, 855]), (2, .bipush 57, [0, 57]), (1, .dup2, []), (1, .iaload, [0]), (1, .iconst 1, [0, 1]), (1, .iadd, []), (1, .iastore, []), (1, .aload_n 0, []), (3, .getfield 109, [0, 8, 12, 867]), (3, .sipush 290, [0, 290]), (1, .iadd, []), (2, .bipush 42, [0, 42]), (1, .aload_n 0, []), (2, .bipush 21, [0, 21]), (3, .invokevirtual 112, [0, 8, 39, 2, 1, 997]), (2, .bipush 10, [0, 10]), (3, .if_icmp .ge 12, [4]), (1, .aload_n 0, []), (2, .bipush 21, [0, 21]), (3, .invokevirtual 112, [0, 8, 39, 2, 1, 997]), (3, .goto 5, [5])]),
  (176, [0, 2], [(2, .bipush 9, [0, 9]), (0, .nop, [5])]),
  (178, [0, 2], [(1, .imul, []), (1, .iadd, []), (2, .istore 5, []), (1, .aload_n 0, []), (2, .bipush 21, [0, 21]), (3, .invokevirtual 112, [0, 8, 39, 2, 1, 997]), (2, .bipush 10, [0, 10]), (3, .if_icmp .ge 68, [8]), (1, .aload_n 0, []), (3, .getfield 7, [2, 8, 0, 855]), (2, .iload 5, []), (1, .iload_n 2, []), (1, .iastore, []), (1, .aload_n 0, []), (3, .getfield 7, [2, 8, 0, 855]), (2, .iload 5, []), (1, .iconst 1, [0, 1]), (1, .iadd, []), (1, .aload_n 0, []), (3, .getfield 89, [0, 8, 3, 858]), (1, .iastore, []), (1, .iconst 0, [0, 0]), (2, .istore 6, []), (0, .nop, [6])]),
  (217, [0, 2, 5, 6], [(2, .iload 6, []), (1, .aload_n 0, []), (3, .getfield 89, [0, 8, 3, 858]), (3, .if_icmp .ge 28, [7]), (1, .aload_n 0, []), (3, .getfield 7, [2, 8, 0, 855]), (2, .iload 5, []), (1, .iconst 2, [0, 2]), (1, .iadd, []), (2, .iload 6, []), (1, .iadd, []), (1, .aload_n 0, []), (3, .getfield 13, [2, 8, 2, 857]), (2, .iload 6, []), (1, .iaload, [0]), (1, .iastore, []), (3, .iinc 6 1, [0, 1]), (3, .goto (-31), [6])]),
  (251, [0, 2], [(1, .aload_n 0, []), (2, .bipush 21, [0, 21]), (1, .iconst 1, [0, 1]), (3, .invokevirtual 121, [0, 8, 29, 3, 0, 1001]), (0, .nop, [8])]),
  (258, [0, 2], [(1, .aload_n 0, []), (1, .iconst 0, [0, 0]), (3, .putfield 118, [0, 8, 13, 868]), (1, .aload_n 0, []), (1, .iload_n 2, []), (3, .invokevirtual 208, [0, 8, 180, 2, 0, 1005]), (1, .return_, [])])]
def bk_M_ifSegment : List jx_B := [
  (0, [0, 1, 2], [(1, .aload_n 0, []), (1, .iload_n 1, []), (1, .iload_n 2, []), (3, .invokevirtual 214, [0, 8, 124, 3, 1, 969]), (1, .istore_n 3, []), (1, .iload_n 3, []), (3, .ifCond .eq 5, [1]), (1, .iload_n 3, []), (1, .ireturn, [0])]),
  (13, [0, 1, 2], [(1, .aload_n 0, []), (1, .iconst 0, [0, 0]), (1, .iconst 5, [0, 5]), (3, .invokevirtual 50, [0, 8, 31, 3, 0, 933]), (1, .aload_n 0, []), (1, .iload_n 1, []), (1, .iload_n 2, []), (3, .invokevirtual 217, [0, 8, 184, 3, 0, 977]), (1, .aload_n 0, []), (1, .iconst 5, [0, 5]), (1, .iconst 0, [0, 0]), (3, .invokevirtual 50, [0, 8, 31, 3, 0, 933]), (1, .aload_n 0, []), (3, .getfield 118, [0, 8, 13, 868]), (1, .ireturn, [0])])]
def bk_M_segment : List jx_B := [
  (0, [0, 1, 2], [(1, .aload_n 0, []), (1, .iload_n 1, []), (1, .iload_n 2, []), (3, .invokevirtual 214, [0, 8, 124, 3, 1, 969]), (1, .istore_n 3, []), (1, .iload_n 3, []), (3, .ifCond .eq 5, [1]), (1, .iload_n 3, []), (1, .ireturn, [0])]),
  (13, [0, 1, 2], [(1, .aload_n 0, []), (3, .invokevirtual 103, [0, 8, 78, 1, 0, 929]), (1, .aload_n 0, []), (1, .iload_n 1, []), (1, .iload_n 2, []), (3, .invokevirtual 217, [0, 8, 184, 3, 0, 977]), (1, .aload_n 0, []), (3, .getfield 118, [0, 8, 13, 868]), (1, .ireturn, [0])])]
def bk_L_law : List jx_B := [
  (0, [0], [(3, .new 7, [7, 89, 90, 75]), (1, .dup, []), (3, .invokespecial 9, [0, 144, 1, 91]), (1, .astore_n 1, []), (3, .new 10, [8, 813, 814, 83]), (1, .dup, []), (3, .invokespecial 12, [0, 135, 1, 815]), (1, .astore_n 2, []), (1, .iconst 0, [0, 0]), (1, .istore_n 3, []), (0, .nop, [1])]),
  (18, [0, 1, 2, 3], [(1, .iload_n 3, []), (1, .aload_n 0, []), (1, .arraylength, [1]), (1, .iconst 3, [0, 3]), (1, .isub, []), (3, .if_icmp .gt 734, [26]), (1, .aload_n 0, []), (1, .iload_n 3, []), (1, .iaload, [1]), (2, .bipush 31, [0, 31]), (1, .iand, []), (108, .tableswitch 719 0 22 #[108, 131, 144, 167, 190, 223, 256, 289, 322, 355, 378, 401, 434, 467, 491, 524, 557, 580, 613, 646, 669, 692, 705], [25, 2, 3, 4, 5, 6, 7, 8, 9, 10, 11, 12, 13, 14, 15, 16, 17, 18, 19, 20, 21, 22, 23, 24])]),
  (140, [0, 1, 2, 3], [(1, .aload_n 1, []), (1, .aload_n 0, []), (1, .iload_n 3, []), (1, .iconst 1, [0, 1]), (1, .iadd, []), (1, .iaload, [1]), (3, .invokevirtual 13, [0, 7, 7, 2, 1, 387]), (1, .aload_n 2, []), (1, .aload_n 0, []), (1, .iload_n 3, []), (1, .iconst 1, [0, 1]), (1, .iadd, []), (1, .iaload, [1]), (3, .invokevirtual 17, [0, 8, 102, 2, 1, 907]), (3, .if_icmp .eq 593, [25]), (1, .iconst 0, [0, 0]), (1, .ireturn, [1])]),
  (163, [0, 1, 2, 3], [(1, .aload_n 1, []), (3, .invokevirtual 18, [0, 7, 0, 1, 1, 391]), (1, .aload_n 2, []), (3, .invokevirtual 22, [0, 8, 30, 1, 1, 914]), (3, .if_icmp .eq 580, [25]), (1, .iconst 0, [0, 0]), (1, .ireturn, [1])]),
  (176, [0, 1, 2, 3], [(1, .aload_n 1, []), (1, .aload_n 0, []), (1, .iload_n 3, []), (1, .iconst 1, [0, 1]), (1, .iadd, []), (1, .iaload, [1]), (3, .invokevirtual 23, [0, 7, 170, 2, 1, 395]), (1, .aload_n 2, []), (1, .aload_n 0, []), (1, .iload_n 3, []), (1, .iconst 1, [0, 1]), (1, .iadd, []), (1, .iaload, [1]), (3, .invokevirtual 26, [0, 8, 154, 2, 1, 918]), (3, .if_icmp .eq 557, [25]), (1, .iconst 0, [0, 0]), (1, .ireturn, [1])]),
  (199, [0, 1, 2, 3], [(1, .aload_n 1, []), (1, .aload_n 0, []), (1, .iload_n 3, []), (1, .iconst 1, [0, 1]), (1, .iadd, []), (1, .iaload, [1]), (3, .invokevirtual 27, [0, 7, 173, 2, 1, 507]), (1, .aload_n 2, []), (1, .aload_n 0, []), (1, .iload_n 3, []), (1, .iconst 1, [0, 1]), (1, .iadd, []), (1, .iaload, [1]), (3, .invokevirtual 30, [0, 8, 155, 2, 1, 945]), (3, .if_icmp .eq 534, [25]), (1, .iconst 0, [0, 0]), (1, .ireturn, [1])]),
  (222, [0, 1, 2, 3], [(1, .aload_n 1, []), (1, .aload_n 0, []), (1, .iload_n 3, []), (1, .iconst 1, [0, 1]), (1, .iadd, []), (1, .iaload, [1]), (1, .aload_n 0, []), (1, .iload_n 3, []), (1, .iconst 2, [0, 2]), (1, .iadd, []), (1, .iaload, [1]), (3, .invokevirtual 31, [0, 7, 51, 3, 1, 519]), (1, .aload_n 2, []), (1, .aload_n 0, []), (1, .iload_n 3, []), (1, .iconst 1, [0, 1]), (1, .iadd, []), (1, .iaload, [1]), (1, .aload_n 0, []), (1, .iload_n 3, []), (1, .iconst 2, [0, 2]), (1, .iadd, []), (1, .iaload, [1]), (3, .invokevirtual 35, [0, 8, 119, 3, 1, 949]), (3, .if_icmp .eq 501, [25]), (1, .iconst 0, [0, 0]), (1, .ireturn, [1])]),
  (255, [0, 1, 2, 3], [(1, .aload_n 1, []), (1, .aload_n 0, []), (1, .iload_n 3, []), (1, .iconst 1, [0, 1]), (1, .iadd, []), (1, .iaload, [1]), (1, .aload_n 0, []), (1, .iload_n 3, []), (1, .iconst 2, [0, 2]), (1, .iadd, []), (1, .iaload, [1]), (3, .invokevirtual 36, [0, 7, 53, 3, 1, 524]), (1, .aload_n 2, []), (1, .aload_n 0, []), (1, .iload_n 3, []), (1, .iconst 1, [0, 1]), (1, .iadd, []), (1, .iaload, [1]), (1, .aload_n 0, []), (1, .iload_n 3, []), (1, .iconst 2, [0, 2]), (1, .iadd, []), (1, .iaload, [1]), (3, .invokevirtual 39, [0, 8, 96, 3, 1, 953]), (3, .if_icmp .eq 468, [25]), (1, .iconst 0, [0, 0]), (1, .ireturn, [1])]),
  (288, [0, 1, 2, 3], [(1, .aload_n 1, []), (1, .aload_n 0, []), (1, .iload_n 3, []), (1, .iconst 1, [0, 1]), (1, .iadd, []), (1, .iaload, [1]), (1, .aload_n 0, []), (1, .iload_n 3, []), (1, .iconst 2, [0, 2]), (1, .iadd, []), (1, .iaload, [1]), (3, .invokevirtual 40, [0, 7, 52, 3, 1, 532]), (1, .aload_n 2, []), (1, .aload_n 0, []), (1, .iload_n 3, []), (1, .iconst 1, [0, 1]), (1, .iadd, []), (1, .iaload, [1]), (1, .aload_n 0, []), (1, .iload_n 3, []), (1, .iconst 2, [0, 2]), (1, .iadd, []), (1, .iaload, [1]), (3, .invokevirtual 43, [0, 8, 95, 3, 1, 957]), (3, .if_icmp .eq 435, [25]), (1, .iconst 0, [0, 0]), (1, .ireturn, [1])]),
  (321, [0, 1, 2, 3], [(1, .aload_n 1, []), (1, .aload_n 0, []), (1, .iload_n 3, []), (1, .iconst 1, [0, 1]), (1, .iadd, []), (1, .iaload, [1]), (1, .aload_n 0, []), (1, .iload_n 3, []), (1, .iconst 2, [0, 2]), (1, .iadd, []), (1, .iaload, [1]), (3, .invokevirtual 44, [0, 7, 177, 3, 1, 537]), (1, .aload_n 2, []), (1, .aload_n 0, []), (1, .iload_n 3, []), (1, .iconst 1, [0, 1]), (1, .iadd, []), (1, .iaload, [1]), (1, .aload_n 0, []), (1, .iload_n 3, []), (1, .iconst 2, [0, 2]), (1, .iadd, []), (1, .iaload, [1]), (3, .invokevirtual 47, [0, 8, 121, 3, 1, 961]), (3, .if_icmp .eq 402, [25]), (1, .iconst 0, [0, 0]), (1, .ireturn, [1])]),
  (354, [0, 1, 2, 3], [(1, .aload_n 1, []), (1, .aload_n 0, []), (1, .iload_n 3, []), (1, .iconst 1, [0, 1]), (1, .iadd, []), (1, .iaload, [1]), (1, .aload_n 0, []), (1, .iload_n 3, []), (1, .iconst 2, [0, 2]), (1, .iadd, []), (1, .iaload, [1]), (3, .invokevirtual 48, [0, 7, 176, 3, 1, 545]), (1, .aload_n 2, []), (1, .aload_n 0, []), (1, .iload_n 3, []), (1, .iconst 1, [0, 1]), (1, .iadd, []), (1, .iaload, [1]), (1, .aload_n 0, []), (1, .iload_n 3, []), (1, .iconst 2, [0, 2]), (1, .iadd, []), (1, .iaload, [1]), (3, .invokevirtual 51, [0, 8, 186, 3, 1, 965]), (3, .if_icmp .eq 369, [25]), (1, .iconst 0, [0, 0]), (1, .ireturn, [1])]),
  (387, [0, 1, 2, 3], [(1, .aload_n 1, []), (1, .aload_n 0, []), (1, .iload_n 3, []), (1, .iconst 1, [0, 1]), (1, .iadd, []), (1, .iaload, [1]), (3, .invokevirtual 52, [0, 7, 172, 2, 1, 702]), (1, .aload_n 2, []), (1, .aload_n 0, []), (1, .iload_n 3, []), (1, .iconst 1, [0, 1]), (1, .iadd, []), (1, .iaload, [1]), (3, .invokevirtual 55, [0, 8, 168, 2, 1, 1098]), (3, .if_icmp .eq 346, [25]), (1, .iconst 0, [0, 0]), (1, .ireturn, [1])]),
  (410, [0, 1, 2, 3], [(1, .aload_n 1, []), (1, .aload_n 0, []), (1, .iload_n 3, []), (1, .iconst 1, [0, 1]), (1, .iadd, []), (1, .iaload, [1]), (3, .invokevirtual 56, [0, 7, 2, 2, 1, 712]), (1, .aload_n 2, []), (1, .aload_n 0, []), (1, .iload_n 3, []), (1, .iconst 1, [0, 1]), (1, .iadd, []), (1, .iaload, [1]), (3, .invokevirtual 59, [0, 8, 86, 2, 1, 1106]), (3, .if_icmp .eq 323, [25]), (1, .iconst 0, [0, 0]), (1, .ireturn, [1])]),
  (433, [0, 1, 2, 3], [(1, .aload_n 1, []), (1, .aload_n 0, []), (1, .iload_n 3, []), (1, .iconst 1, [0, 1]), (1, .iadd, []), (1, .iaload, [1]), (1, .aload_n 0, []), (1, .iload_n 3, []), (1, .iconst 2, [0, 2]), (1, .iadd, []), (1, .iaload, [1]), (3, .invokevirtual 60, [0, 7, 146, 3, 1, 716]), (1, .aload_n 2, []), (1, .aload_n 0, []), (1, .iload_n 3, []), (1, .iconst 1, [0, 1]), (1, .iadd, []), (1, .iaload, [1]), (1, .aload_n 0, []), (1, .iload_n 3, []), (1, .iconst 2, [0, 2]), (1, .iadd, []), (1, .iaload, [1]), (3, .invokevirtual 63, [0, 8, 162, 3, 1, 1110]), (3, .if_icmp .eq 290, [25]), (1, .iconst 0, [0, 0]), (1, .ireturn, [1])]),
  (466, [0, 1, 2, 3], [(1, .aload_n 1, []), (1, .aload_n 0, []), (1, .iload_n 3, []), (1, .iconst 1, [0, 1]), (1, .iadd, []), (1, .iaload, [1]), (1, .aload_n 0, []), (1, .iload_n 3, []), (1, .iconst 2, [0, 2]), (1, .iadd, []), (1, .iaload, [1]), (3, .invokevirtual 64, [0, 7, 125, 3, 1, 730]), (1, .aload_n 2, []), (1, .aload_n 0, []), (1, .iload_n 3, []), (1, .iconst 1, [0, 1]), (1, .iadd, []), (1, .iaload, [1]), (1, .aload_n 0, []), (1, .iload_n 3, []), (1, .iconst 2, [0, 2]), (1, .iadd, []), (1, .iaload, [1]), (3, .invokevirtual 67, [0, 8, 152, 3, 1, 1122]), (3, .if_icmp .eq 257, [25]), (1, .iconst 0, [0, 0]), (1, .ireturn, [1])]),
  (499, [0, 1, 2, 3], [(1, .aload_n 1, []), (1, .aload_n 0, []), (1, .iload_n 3, []), (1, .iconst 1, [0, 1]), (1, .iadd, []), (1, .iaload, [1]), (3, .invokevirtual 68, [0, 7, 54, 2, 2, 738]), (1, .aload_n 2, []), (1, .aload_n 0, []), (1, .iload_n 3, []), (1, .iconst 1, [0, 1]), (1, .iadd, []), (1, .iaload, [1]), (3, .invokevirtual 72, [0, 8, 140, 2, 2, 1130]), (1, .lcmp, []), (3, .ifCond .eq 233, [25]), (1, .iconst 0, [0, 0]), (1, .ireturn, [1])]),
  (523, [0, 1, 2, 3], [(1, .aload_n 1, []), (1, .aload_n 0, []), (1, .iload_n 3, []), (1, .iconst 1, [0, 1]), (1, .iadd, []), (1, .iaload, [1]), (1, .aload_n 0, []), (1, .iload_n 3, []), (1, .iconst 2, [0, 2]), (1, .iadd, []), (1, .iaload, [1]), (3, .invokevirtual 73, [0, 7, 55, 3, 1, 744]), (1, .aload_n 2, []), (1, .aload_n 0, []), (1, .iload_n 3, []), (1, .iconst 1, [0, 1]), (1, .iadd, []), (1, .iaload, [1]), (1, .aload_n 0, []), (1, .iload_n 3, []), (1, .iconst 2, [0, 2]), (1, .iadd, []), (1, .iaload, [1]), (3, .invokevirtual 76, [0, 8, 141, 3, 1, 1138]), (3, .if_icmp .eq 200, [25]), (1, .iconst 0, [0, 0]), (1, .ireturn, [1])]),
  (556, [0, 1, 2, 3], [(1, .aload_n 1, []), (1, .aload_n 0, []), (1, .iload_n 3, []), (1, .iconst 1, [0, 1]), (1, .iadd, []), (1, .iaload, [1]), (1, .aload_n 0, []), (1, .iload_n 3, []), (1, .iconst 2, [0, 2]), (1, .iadd, []), (1, .iaload, [1]), (3, .invokevirtual 77, [0, 7, 49, 3, 1, 752]), (1, .aload_n 2, []), (1, .aload_n 0, []), (1, .iload_n 3, []), (1, .iconst 1, [0, 1]), (1, .iadd, []), (1, .iaload, [1]), (1, .aload_n 0, []), (1, .iload_n 3, []), (1, .iconst 2, [0, 2]), (1, .iadd, []), (1, .iaload, [1]), (3, .invokevirtual 80, [0, 8, 85, 3, 1, 1146]), (3, .if_icmp .eq 167, [25]), (1, .iconst 0, [0, 0]), (1, .ireturn, [1])]),
  (589, [0, 1, 2, 3], [(1, .aload_n 1, []), (1, .aload_n 0, []), (1, .iload_n 3, []), (1, .iconst 1, [0, 1]), (1, .iadd, []), (1, .iaload, [1]), (3, .invokevirtual 81, [0, 7, 103, 2, 1, 760]), (1, .aload_n 2, []), (1, .aload_n 0, []), (1, .iload_n 3, []), (1, .iconst 1, [0, 1]), (1, .iadd, []), (1, .iaload, [1]), (3, .invokevirtual 84, [0, 8, 123, 2, 1, 1150]), (3, .if_icmp .eq 144, [25]), (1, .iconst 0, [0, 0]), (1, .ireturn, [1])]),
  (612, [0, 1, 2, 3], [(1, .aload_n 1, []), (1, .aload_n 0, []), (1, .iload_n 3, []), (1, .iconst 1, [0, 1]), (1, .iadd, []), (1, .iaload, [1]), (1, .aload_n 0, []), (1, .iload_n 3, []), (1, .iconst 2, [0, 2]), (1, .iadd, []), (1, .iaload, [1]), (3, .invokevirtual 85, [0, 7, 174, 3, 1, 769]), (1, .aload_n 2, []), (1, .aload_n 0, []), (1, .iload_n 3, []), (1, .iconst 1, [0, 1]), (1, .iadd, []), (1, .iaload, [1]), (1, .aload_n 0, []), (1, .iload_n 3, []), (1, .iconst 2, [0, 2]), (1, .iadd, []), (1, .iaload, [1]), (3, .invokevirtual 88, [0, 8, 185, 3, 1, 1158]), (3, .if_icmp .eq 111, [25]), (1, .iconst 0, [0, 0]), (1, .ireturn, [1])]),
  (645, [0, 1, 2, 3], [(1, .aload_n 1, []), (1, .aload_n 0, []), (1, .iload_n 3, []), (1, .iconst 1, [0, 1]), (1, .iadd, []), (1, .iaload, [1]), (1, .aload_n 0, []), (1, .iload_n 3, []), (1, .iconst 2, [0, 2]), (1, .iadd, []), (1, .iaload, [1]), (3, .invokevirtual 89, [0, 7, 175, 3, 1, 773]), (1, .aload_n 2, []), (1, .aload_n 0, []), (1, .iload_n 3, []), (1, .iconst 1, [0, 1]), (1, .iadd, []), (1, .iaload, [1]), (1, .aload_n 0, []), (1, .iload_n 3, []), (1, .iconst 2, [0, 2]), (1, .iadd, []), (1, .iaload, [1]), (3, .invokevirtual 92, [0, 8, 183, 3, 1, 1162]), (3, .if_icmp .eq 78, [25]), (1, .iconst 0, [0, 0]), (1, .ireturn, [1])]),
  (678, [0, 1, 2, 3], [(1, .aload_n 1, []), (1, .aload_n 0, []), (1, .iload_n 3, []), (1, .iconst 1, [0, 1]), (1, .iadd, []), (1, .iaload, [1]), (3, .invokevirtual 93, [0, 7, 171, 2, 1, 782]), (1, .aload_n 2, []), (1, .aload_n 0, []), (1, .iload_n 3, []), (1, .iconst 1, [0, 1]), (1, .iadd, []), (1, .iaload, [1]), (3, .invokevirtual 96, [0, 8, 182, 2, 1, 1170]), (3, .if_icmp .eq 55, [25]), (1, .iconst 0, [0, 0]), (1, .ireturn, [1])]),
  (701, [0, 1, 2, 3], [(1, .aload_n 1, []), (1, .aload_n 0, []), (1, .iload_n 3, []), (1, .iconst 1, [0, 1]), (1, .iadd, []), (1, .iaload, [1]), (3, .invokevirtual 97, [0, 7, 126, 2, 1, 786]), (1, .aload_n 2, []), (1, .aload_n 0, []), (1, .iload_n 3, []), (1, .iconst 1, [0, 1]), (1, .iadd, []), (1, .iaload, [1]), (3, .invokevirtual 100, [0, 8, 138, 2, 1, 1174]), (3, .if_icmp .eq 32, [25]), (1, .iconst 0, [0, 0]), (1, .ireturn, [1])]),
  (724, [0, 1, 2, 3], [(1, .aload_n 1, []), (3, .invokevirtual 101, [0, 7, 147, 1, 1, 795]), (1, .aload_n 2, []), (3, .invokevirtual 104, [0, 8, 143, 1, 1, 1178]), (3, .if_icmp .eq 19, [25]), (1, .iconst 0, [0, 0]), (1, .ireturn, [1])]),
  (737, [0, 1, 2, 3], [(1, .aload_n 1, []), (3, .invokevirtual 105, [0, 7, 157, 1, 2, 799]), (1, .aload_n 2, []), (3, .invokevirtual 109, [0, 8, 167, 1, 2, 1182]), (1, .lcmp, []), (3, .ifCond .eq 5, [25]), (1, .iconst 0, [0, 0]), (1, .ireturn, [1])]),
  (751, [0, 1, 2, 3], [(3, .iinc 3 3, [0, 3]), (3, .goto (-736), [1])]),
  (757, [], [(1, .iconst 1, [0, 1]), (1, .ireturn, [1])])]
def jx_mtab : List jx_Mt := [
  ((yX7_clear, cX7_clear, 2, (some .int), (0, 0), (0, 0)), 1, 0, [394, 75, 392, 393]),
  ((yX7_dropOldest, cX7_dropOldest, 3, none, (0, 0), (0, 0)), 1, 0, [416, 75, 415, 2]),
  ((yX7_flow, cX7_flow, 2, (some .int), (0, 0), (0, 0)), 1, 1, [715, 75, 713, 714]),
  ((yX7_isKey, cX7_isKey, 1, (some .boolean), (0, 0), (0, 0)), 0, 1, [555, 75, 554]),
  ((yX7_isLetter, cX7_isLetter, 1, (some .boolean), (0, 0), (0, 0)), 0, 1, [408, 75, 407]),
  ((yX7_isWord, cX7_isWord, 1, (some .boolean), (0, 0), (0, 0)), 0, 1, [401, 75, 400]),
  ((yX7_mixed, cX7_mixed, 4, (some .long), (0, 0), (0, 0)), 0, 2, [807, 75, 806]),
  ((yX7_type, cX7_type, 2, (some .int), (0, 0), (0, 0)), 1, 1, [390, 75, 388, 389]),
  ((yX0_has, cX0_has, 2, (some .boolean), (0, 0), (0, 0)), 1, 1, [531, 76, 529, 530]),
  ((yX0_nextOf, cX0_nextOf, 3, (some .int), (0, 0), (0, 0)), 1, 2, [498, 76, 496, 497]),
  ((yX0_nextSet, cX0_nextSet, 7, (some .long), (0, 0), (0, 0)), 1, 2, [638, 76, 636, 637]),
  ((yX0_wordsOf, cX0_wordsOf, 2, (some .int), (0, 0), (0, 0)), 1, 1, [502, 76, 500, 501]),
  ((yX0_wordsOfSet, cX0_wordsOfSet, 5, (some .int), (0, 0), (0, 0)), 1, 1, [643, 76, 641, 642]),
  ((yX1_add, cX1_add, 6, none, (0, 0), (0, 0)), 1, 4, [651, 78, 649, 650]),
  ((yX1_made, cX1_made, 1, (some .int), (0, 0), (0, 0)), 1, 0, [568, 78, 566, 567]),
  ((yX1_tell, cX1_tell, 4, (some .int), (0, 0), (0, 0)), 1, 2, [759, 78, 757, 758]),
  ((yX2_isPreferred, cX2_isPreferred, 3, (some .boolean), (0, 0), (0, 0)), 1, 2, [611, 80, 610, 13]),
  ((yX3_firstIndexOf, cX3_firstIndexOf, 2, (some .int), (0, 0), (0, 0)), 1, 1, [647, 82, 646, 17]),
  ((yX3_hexadecimal, cX3_hexadecimal, 1, (some .int), (0, 0), (0, 0)), 0, 1, [660, 82, 659]),
  ((yX3_isDropped, cX3_isDropped, 2, (some .boolean), (0, 0), (0, 0)), 1, 1, [632, 82, 631, 16]),
  ((yX3_recentCharacter, cX3_recentCharacter, 2, (some .int), (0, 0), (0, 0)), 1, 1, [751, 82, 749, 750]),
  ((yX3_restart, cX3_restart, 1, none, (0, 0), (0, 0)), 1, 0, [506, 82, 504, 505]),
  ((yX4_covers, cX4_covers, 3, (some .boolean), (0, 0), (0, 0)), 1, 2, [607, 81, 605, 606]),
  ((yX4_isFull, cX4_isFull, 1, (some .boolean), (0, 0), (0, 0)), 1, 0, [449, 81, 447, 448]),
  ((yX5_movedToEnd, cX5_movedToEnd, 5, (some (.object "TornStreams$Flow")), (0, 0), (0, 0)), 1, 1, [581, 77, 580, 10]),
  ((yX5_placeOf, cX5_placeOf, 3, (some .int), (0, 0), (0, 0)), 1, 1, [559, 77, 557, 558]),
  ((yX6_isDefined, cX6_isDefined, 2, (some .boolean), (0, 0), (0, 0)), 1, 1, [514, 79, 512, 513]),
  ((yX6_letterAt, cX6_letterAt, 3, (some .int), (0, 0), (0, 0)), 1, 2, [485, 79, 483, 484]),
  ((yX6_remove, cX6_remove, 2, none, (0, 0), (0, 0)), 1, 1, [518, 79, 516, 517]),
  ((yX8_adds, cX8_adds, 3, none, (0, 0), (0, 0)), 1, 2, [1004, 83, 1003, 43]),
  ((yX8_clear, cX8_clear, 2, (some .int), (0, 0), (0, 0)), 1, 0, [917, 83, 915, 916]),
  ((yX8_copies, cX8_copies, 4, none, (0, 0), (0, 0)), 1, 2, [936, 83, 935, 32]),
  ((yX8_freeSlot, cX8_freeSlot, 4, (some .int), (0, 0), (0, 0)), 1, 0, [988, 83, 987, 39]),
  ((yX8_highOf, cX8_highOf, 1, (some .int), (0, 0), (0, 0)), 0, 1, [1073, 83, 1072]),
  ((yX8_in, cX8_in, 3, (some .boolean), (0, 0), (0, 0)), 0, 3, [913, 83, 912]),
  ((yX8_leaves, cX8_leaves, 3, none, (0, 0), (0, 0)), 1, 1, [984, 83, 983, 38]),
  ((yX8_letterOf, cX8_letterOf, 3, (some .int), (0, 0), (0, 0)), 1, 2, [830, 83, 829, 23]),
  ((yX8_lowOf, cX8_lowOf, 1, (some .int), (0, 0), (0, 0)), 0, 1, [1070, 83, 1069]),
  ((yX8_nodeOf, cX8_nodeOf, 6, (some .int), (0, 0), (0, 0)), 1, 2, [850, 83, 849, 28]),
  ((yX8_of, cX8_of, 2, (some .int), (0, 0), (0, 0)), 1, 1, [1000, 83, 999, 42]),
  ((yX8_order, cX8_order, 5, (some .int), (0, 0), (0, 0)), 1, 2, [838, 83, 837, 25]),
  ((yX8_pieceAt, cX8_pieceAt, 2, (some .int), (0, 0), (0, 0)), 1, 1, [1016, 83, 1015, 46]),
  ((yX8_put, cX8_put, 3, none, (0, 0), (0, 0)), 1, 2, [996, 83, 995, 41]),
  ((yX8_slot, cX8_slot, 2, (some .int), (0, 0), (0, 0)), 1, 1, [944, 83, 943, 34]),
  ((yX8_takes, cX8_takes, 3, none, (0, 0), (0, 0)), 1, 1, [846, 83, 845, 27]),
  ((yX8_wordLength, cX8_wordLength, 2, (some .int), (0, 0), (0, 0)), 1, 1, [826, 83, 825, 22]),
  ((yJ6_bitCount_0f7a4, cJ6_bitCount_0f7a4, 1, (some .int), (0, 0), (0, 0)), 0, 1, [654, 87, 653]),
  ((yJ13_bitCount_95d88, cJ13_bitCount_95d88, 2, (some .int), (0, 0), (0, 0)), 0, 1, [726, 88, 725]),
  ((yJ7_fill_53178, cJ7_fill_53178, 4, none, (0, 0), (0, 0)), 0, 2, [477, 86, 476]),
  ((yX7_find, cX7_find, 3, (some .int), (0, 0), (1, 23)), 1, 2, [755, 75, 753, 754]),
  ((yX7_firstWrongByte, cX7_firstWrongByte, 2, (some .int), (0, 0), (1, 20)), 1, 0, [405, 75, 404, 0]),
  ((yX7_letter, cX7_letter, 3, (some .int), (0, 0), (1, 22)), 1, 2, [522, 75, 520, 521]),
  ((yX7_next, cX7_next, 3, (some .int), (0, 0), (1, 22)), 1, 2, [535, 75, 533, 534]),
  ((yX7_node, cX7_node, 3, (some .int), (0, 0), (1, 21)), 1, 2, [527, 75, 525, 526]),
  ((yX7_possible, cX7_possible, 3, (some .long), (0, 0), (1, 22)), 1, 1, [741, 75, 739, 740]),
  ((yX7_read, cX7_read, 4, (some .int), (0, 0), (1, 22)), 1, 2, [747, 75, 745, 746]),
  ((yX7_segmentError, cX7_segmentError, 4, (some .int), (0, 0), (1, 22)), 1, 2, [552, 75, 551, 8]),
  ((yX0_init, cX0_init, 1, none, (8, 1531), (1, 12)), 2, 0, [101, 76, 100]),
  ((yX0_added, cX0_added, 5, (some .int), (0, 0), (1, 21)), 1, 3, [489, 76, 488, 6]),
  ((yX0_link, cX0_link, 6, none, (0, 0), (1, 22)), 1, 1, [494, 76, 493, 7]),
  ((yX0_nextSetByAny, cX0_nextSetByAny, 6, (some .long), (0, 0), (1, 26)), 1, 1, [700, 76, 698, 699]),
  ((yX1_init, cX1_init, 1, none, (4, 120), (1, 12)), 2, 0, [146, 78, 145]),
  ((yX1_copyFrom, cX1_copyFrom, 2, none, (0, 0), (1, 18)), 1, 1, [432, 78, 430, 431]),
  ((yX2_chosenPiece, cX2_chosenPiece, 4, (some .int), (0, 0), (1, 22)), 1, 1, [603, 80, 602, 12]),
  ((yX3_init, cX3_init, 3, none, (2, 16), (1, 12)), 2, 2, [231, 82, 230]),
  ((yX3_begin, cX3_begin, 3, none, (0, 0), (1, 20)), 1, 2, [589, 82, 587, 588]),
  ((yX3_come, cX3_come, 8, none, (0, 0), (1, 26)), 1, 3, [628, 82, 627, 15]),
  ((yX3_copyFrom, cX3_copyFrom, 2, none, (0, 0), (1, 18)), 1, 1, [458, 82, 456, 457]),
  ((yX4_init, cX4_init, 2, none, (3, 420), (1, 12)), 2, 1, [205, 81, 204]),
  ((yX4_byteFor, cX4_byteFor, 3, (some .int), (0, 0), (1, 22)), 1, 2, [615, 81, 613, 614]),
  ((yX4_isCoveredBefore, cX4_isCoveredBefore, 4, (some .boolean), (0, 0), (1, 22)), 1, 2, [679, 81, 678, 18]),
  ((yX4_put, cX4_put, 6, none, (0, 0), (1, 18)), 1, 5, [453, 81, 452, 3]),
  ((yX4_smallestStart, cX4_smallestStart, 3, (some .int), (0, 0), (1, 21)), 1, 0, [687, 81, 685, 686]),
  ((yX5_remove, cX5_remove, 2, none, (0, 0), (1, 24)), 1, 1, [577, 77, 575, 576]),
  ((yX6_init, cX6_init, 1, none, (2, 54), (1, 12)), 2, 0, [184, 79, 183]),
  ((yX6_copyFrom, cX6_copyFrom, 2, none, (0, 0), (1, 18)), 1, 1, [424, 79, 422, 423]),
  ((yX6_definedSet, cX6_definedSet, 3, (some .int), (0, 0), (1, 21)), 1, 0, [767, 79, 765, 766]),
  ((yX6_put, cX6_put, 5, none, (0, 0), (1, 21)), 1, 3, [463, 79, 461, 462]),
  ((yX8_begins, cX8_begins, 2, none, (0, 0), (1, 23)), 1, 0, [932, 83, 931, 31]),
  ((yX8_byteOf, cX8_byteOf, 3, (some .int), (0, 0), (1, 21)), 1, 2, [1036, 83, 1035, 51]),
  ((yX8_covers, cX8_covers, 4, (some .boolean), (0, 0), (1, 21)), 1, 2, [1028, 83, 1027, 49]),
  ((yX8_definedSet, cX8_definedSet, 3, (some .int), (0, 0), (1, 21)), 1, 0, [1157, 83, 1156, 71]),
  ((yX8_drops, cX8_drops, 3, none, (0, 0), (1, 22)), 1, 0, [1089, 83, 1088, 62]),
  ((yX8_endsWith, cX8_endsWith, 6, (some .boolean), (0, 0), (1, 22)), 1, 2, [842, 83, 841, 26]),
  ((yX8_faultOf, cX8_faultOf, 2, (some .int), (0, 0), (1, 22)), 1, 0, [928, 83, 927, 30]),
  ((yX8_find, cX8_find, 3, (some .int), (0, 0), (1, 22)), 1, 2, [1149, 83, 1147, 1148]),
  ((yX8_flow, cX8_flow, 2, (some .int), (0, 0), (1, 21)), 1, 1, [1109, 83, 1107, 1108]),
  ((yX8_has, cX8_has, 2, (some .boolean), (0, 0), (1, 21)), 1, 1, [1055, 83, 1054, 55]),
  ((yX8_hexOf, cX8_hexOf, 1, (some .int), (0, 0), (1, 22)), 0, 1, [1047, 83, 1046]),
  ((yX8_inserts, cX8_inserts, 5, none, (0, 0), (1, 24)), 1, 1, [834, 83, 833, 24]),
  ((yX8_isBetter, cX8_isBetter, 3, (some .boolean), (0, 0), (1, 21)), 1, 2, [1032, 83, 1031, 50]),
  ((yX8_isPossible, cX8_isPossible, 2, (some .boolean), (0, 0), (1, 21)), 1, 1, [1067, 83, 1066, 58]),
  ((yX8_isWord, cX8_isWord, 1, (some .boolean), (0, 0), (1, 22)), 0, 1, [924, 83, 923]),
  ((yX8_laysPossible, cX8_laysPossible, 3, none, (0, 0), (1, 22)), 1, 2, [1077, 83, 1076, 59]),
  ((yX8_longest, cX8_longest, 5, (some .int), (0, 0), (1, 25)), 1, 2, [854, 83, 853, 29]),
  ((yX8_next, cX8_next, 3, (some .int), (0, 0), (1, 22)), 1, 2, [960, 83, 958, 959]),
  ((yX8_node, cX8_node, 3, (some .int), (0, 0), (1, 22)), 1, 2, [956, 83, 954, 955]),
  ((yX8_placeOf, cX8_placeOf, 3, (some .int), (0, 0), (1, 21)), 1, 1, [976, 83, 975, 36]),
  ((yX8_possibleNow, cX8_possibleNow, 1, (some .long), (0, 0), (1, 21)), 1, 0, [1137, 83, 1136, 69]),
  ((yX8_readNow, cX8_readNow, 2, (some .int), (0, 0), (1, 21)), 1, 1, [1145, 83, 1144, 70]),
  ((yX8_records, cX8_records, 5, none, (0, 0), (1, 22)), 1, 3, [1081, 83, 1080, 60]),
  ((yX8_starts, cX8_starts, 6, none, (0, 0), (1, 22)), 1, 4, [992, 83, 991, 40]),
  ((yX8_type, cX8_type, 2, (some .int), (0, 0), (1, 22)), 1, 1, [910, 83, 908, 909]),
  ((yX7_told, cX7_told, 2, (some .int), (0, 0), (2, 43)), 1, 1, [763, 75, 761, 762]),
  ((yX0_addChildren, cX0_addChildren, 7, none, (0, 0), (2, 45)), 1, 3, [481, 76, 480, 5]),
  ((yX0_fewestLettersToWord, cX0_fewestLettersToWord, 5, (some .int), (0, 0), (2, 51)), 1, 1, [793, 76, 791, 792]),
  ((yX0_spread, cX0_spread, 9, (some .long), (0, 0), (2, 51)), 1, 2, [696, 76, 694, 695]),
  ((yX2_init, cX2_init, 3, none, (11, 879), (2, 34)), 2, 2, [199, 80, 198]),
  ((yX2_begin, cX2_begin, 5, none, (0, 0), (2, 42)), 1, 4, [585, 80, 583, 584]),
  ((yX2_chosenByte, cX2_chosenByte, 2, (some .int), (0, 0), (2, 45)), 1, 1, [737, 80, 735, 736]),
  ((yX2_isDisputed, cX2_isDisputed, 5, (some .boolean), (0, 0), (2, 44)), 1, 2, [620, 80, 619, 14]),
  ((yX3_release, cX3_release, 3, none, (0, 0), (2, 53)), 1, 1, [664, 82, 662, 663]),
  ((yX4_add, cX4_add, 5, none, (0, 0), (2, 43)), 1, 4, [445, 81, 443, 444]),
  ((yX4_coveredFrom, cX4_coveredFrom, 6, (some .int), (0, 0), (2, 45)), 1, 1, [672, 81, 670, 671]),
  ((yX4_dropBefore, cX4_dropBefore, 4, none, (0, 0), (2, 43)), 1, 1, [668, 81, 666, 667]),
  ((yX8_asked, cX8_asked, 3, (some .int), (0, 0), (2, 43)), 1, 1, [1105, 83, 1104, 65]),
  ((yX8_chosen, cX8_chosen, 4, (some .int), (0, 0), (2, 44)), 1, 1, [1024, 83, 1023, 48]),
  ((yX8_isConflict, cX8_isConflict, 5, (some .boolean), (0, 0), (2, 44)), 1, 1, [1040, 83, 1039, 52]),
  ((yX8_lays, cX8_lays, 4, none, (0, 0), (2, 49)), 1, 0, [822, 83, 821, 21]),
  ((yX8_letter, cX8_letter, 3, (some .int), (0, 0), (2, 42)), 1, 2, [952, 83, 950, 951]),
  ((yX8_possibleMany, cX8_possibleMany, 3, (some .int), (0, 0), (2, 42)), 1, 0, [1121, 83, 1120, 67]),
  ((yX8_set, cX8_set, 4, (some .int), (0, 0), (2, 44)), 1, 2, [964, 83, 962, 963]),
  ((yX8_steps, cX8_steps, 5, none, (0, 0), (2, 44)), 1, 1, [1063, 83, 1062, 57]),
  ((yX8_told, cX8_told, 2, (some .int), (0, 0), (2, 43)), 1, 1, [1153, 83, 1151, 1152]),
  ((yX8_wrong, cX8_wrong, 4, (some .int), (0, 0), (2, 43)), 1, 2, [972, 83, 971, 35]),
  ((yX7_byteAt, cX7_byteAt, 4, (some .int), (0, 0), (3, 66)), 1, 2, [733, 75, 731, 732]),
  ((yX7_nearest, cX7_nearest, 3, (some .int), (0, 0), (3, 75)), 1, 1, [789, 75, 787, 788]),
  ((yX0_build, cX0_build, 6, none, (0, 0), (3, 71)), 1, 1, [474, 76, 472, 473]),
  ((yX2_end, cX2_end, 1, none, (0, 0), (3, 75)), 1, 0, [709, 80, 707, 708]),
  ((yX2_tell, cX2_tell, 2, (some .int), (0, 0), (3, 70)), 1, 1, [723, 80, 721, 722]),
  ((yX3_skip, cX3_skip, 3, none, (0, 0), (3, 79)), 1, 2, [692, 82, 690, 691]),
  ((yX3_take, cX3_take, 4, none, (0, 0), (3, 75)), 1, 2, [624, 82, 622, 623]),
  ((yX4_copyFrom, cX4_copyFrom, 3, none, (0, 0), (3, 67)), 1, 1, [441, 81, 439, 440]),
  ((yX5_init, cX5_init, 4, none, (53, 3627), (3, 56)), 2, 2, [178, 77, 177]),
  ((yX5_flowOfSegment, cX5_flowOfSegment, 3, (some (.object "TornStreams$Flow")), (0, 0), (3, 66)), 1, 1, [572, 77, 570, 571]),
  ((yX8_init, cX8_init, 1, none, (11, 24425), (3, 72)), 2, 0, [817, 83, 816]),
  ((yX8_byteNow, cX8_byteNow, 3, (some .int), (0, 0), (3, 67)), 1, 1, [1129, 83, 1128, 68]),
  ((yX8_covered, cX8_covered, 6, (some .int), (0, 0), (3, 67)), 1, 1, [1093, 83, 1092, 63]),
  ((yX8_nearest, cX8_nearest, 10, (some .int), (0, 0), (3, 65)), 1, 1, [1177, 83, 1175, 1176]),
  ((yX8_others, cX8_others, 2, (some .int), (0, 0), (3, 72)), 1, 0, [940, 83, 939, 33]),
  ((yX8_possible, cX8_possible, 3, (some .long), (0, 0), (3, 65)), 1, 1, [1133, 83, 1131, 1132]),
  ((yX8_read, cX8_read, 4, (some .int), (0, 0), (3, 65)), 1, 2, [1141, 83, 1139, 1140]),
  ((yX8_reads, cX8_reads, 7, none, (0, 0), (3, 68)), 1, 3, [1059, 83, 1058, 56]),
  ((yX8_undo, cX8_undo, 1, (some .int), (0, 0), (3, 72)), 1, 0, [1181, 83, 1179, 1180]),
  ((yX7_init, cX7_init, 2, none, (382, 25169), (4, 79)), 2, 0, [93, 75, 92]),
  ((yX7_mixedWithFlow, cX7_mixedWithFlow, 6, (some .long), (0, 0), (4, 91)), 0, 2, [812, 75, 811]),
  ((yX7_property, cX7_property, 4, (some .int), (0, 0), (4, 91)), 1, 2, [719, 75, 717, 718]),
  ((yX7_undo, cX7_undo, 2, (some .int), (0, 0), (4, 96)), 1, 0, [798, 75, 796, 797]),
  ((yX7_wordsChanged, cX7_wordsChanged, 2, none, (0, 0), (4, 96)), 1, 0, [470, 75, 469, 4]),
  ((yX2_copyFrom, cX2_copyFrom, 2, none, (0, 0), (4, 89)), 1, 1, [437, 80, 435, 436]),
  ((yX2_deliver, cX2_deliver, 3, none, (0, 0), (4, 98)), 1, 0, [599, 80, 598, 11]),
  ((yX2_skipGap, cX2_skipGap, 2, none, (0, 0), (4, 101)), 1, 0, [683, 80, 682, 19]),
  ((yX8_byteAt, cX8_byteAt, 4, (some .int), (0, 0), (4, 89)), 1, 2, [1125, 83, 1123, 1124]),
  ((yX8_character, cX8_character, 5, none, (0, 0), (4, 94)), 1, 3, [1051, 83, 1050, 54]),
  ((yX8_define, cX8_define, 4, (some .int), (0, 0), (4, 93)), 1, 1, [921, 83, 919, 920]),
  ((yX8_forget, cX8_forget, 2, (some .int), (0, 0), (4, 93)), 1, 1, [948, 83, 946, 947]),
  ((yX8_propertyNow, cX8_propertyNow, 2, (some .int), (0, 0), (4, 92)), 1, 1, [1117, 83, 1116, 66]),
  ((yX7_digest, cX7_digest, 5, (some .long), (0, 0), (5, 116)), 1, 0, [802, 75, 800, 801]),
  ((yX2_accept, cX2_accept, 6, none, (0, 0), (5, 122)), 1, 4, [594, 80, 592, 593]),
  ((yX5_copyFrom, cX5_copyFrom, 3, none, (0, 0), (5, 110)), 1, 1, [420, 77, 418, 419]),
  ((yX8_lets, cX8_lets, 2, none, (0, 0), (5, 118)), 1, 0, [1085, 83, 1084, 61]),
  ((yX8_mixedFlow, cX8_mixedFlow, 7, (some .long), (0, 0), (5, 113)), 1, 2, [1193, 83, 1192, 73]),
  ((yX8_property, cX8_property, 4, (some .int), (0, 0), (5, 113)), 1, 2, [1113, 83, 1111, 1112]),
  ((yX7_handled, cX7_handled, 5, (some .int), (0, 0), (6, 147)), 1, 3, [564, 75, 563, 9]),
  ((yX7_record, cX7_record, 1, none, (0, 0), (6, 132)), 1, 0, [412, 75, 411, 1]),
  ((yX7_wordsBy, cX7_wordsBy, 5, (some .int), (0, 0), (6, 147)), 1, 2, [780, 75, 779, 20]),
  ((yX8_delivers, cX8_delivers, 4, none, (0, 0), (6, 139)), 1, 2, [1044, 83, 1043, 53]),
  ((yX8_digest, cX8_digest, 5, (some .long), (0, 0), (6, 139)), 1, 0, [1185, 83, 1183, 1184]),
  ((yX8_finish, cX8_finish, 3, (some .int), (0, 0), (6, 139)), 1, 1, [1101, 83, 1099, 1100]),
  ((yX8_gap, cX8_gap, 9, none, (0, 0), (6, 139)), 1, 1, [1097, 83, 1096, 64]),
  ((yX7_define, cX7_define, 3, (some .int), (0, 0), (7, 152)), 1, 1, [398, 75, 396, 397]),
  ((yX7_evasions, cX7_evasions, 7, (some .int), (0, 0), (7, 171)), 1, 1, [785, 75, 783, 784]),
  ((yX7_finish, cX7_finish, 4, (some .int), (0, 0), (7, 152)), 1, 1, [705, 75, 703, 704]),
  ((yX7_forget, cX7_forget, 2, (some .int), (0, 0), (7, 152)), 1, 1, [510, 75, 508, 509]),
  ((yX7_ifSegment, cX7_ifSegment, 4, (some .int), (0, 0), (7, 171)), 1, 2, [772, 75, 770, 771]),
  ((yX7_replay, cX7_replay, 4, (some .int), (0, 0), (7, 171)), 1, 2, [776, 75, 774, 775]),
  ((yX7_segment, cX7_segment, 4, (some .int), (0, 0), (7, 171)), 1, 2, [548, 75, 546, 547]),
  ((yX7_set, cX7_set, 4, (some .int), (0, 0), (7, 152)), 1, 2, [540, 75, 538, 539]),
  ((yX8_deliversAll, cX8_deliversAll, 4, none, (0, 0), (7, 162)), 1, 0, [1020, 83, 1019, 47]),
  ((yX8_handles, cX8_handles, 6, none, (0, 0), (8, 185)), 1, 3, [1012, 83, 1011, 45]),
  ((yX8_handlesText, cX8_handlesText, 3, none, (0, 0), (9, 210)), 1, 1, [1008, 83, 1007, 44]),
  ((yX8_replays, cX8_replays, 6, (some .int), (0, 0), (9, 210)), 1, 2, [1169, 83, 1168, 72]),
  ((yX8_evasions, cX8_evasions, 7, (some .int), (0, 0), (10, 235)), 1, 1, [1173, 83, 1171, 1172]),
  ((yX8_replay, cX8_replay, 4, (some .int), (0, 0), (10, 235)), 1, 2, [1165, 83, 1163, 1164]),
  ((yX8_segments, cX8_segments, 7, none, (0, 0), (10, 232)), 1, 2, [980, 83, 979, 37]),
  ((yX8_ifSegment, cX8_ifSegment, 4, (some .int), (0, 0), (11, 258)), 1, 2, [1161, 83, 1159, 1160]),
  ((yX8_segment, cX8_segment, 4, (some .int), (0, 0), (11, 258)), 1, 2, [968, 83, 966, 967]),
  ((yL_law, cL_law, 4, (some .boolean), (600000, 7302250), (14, 562)), 0, 1, [0, 0, 0, 0])]
def jx_ptab : List (List jx_B) := [bk_T_clear, bk_T_dropOldest, bk_T_flow, bk_T_isKey, bk_T_isLetter, bk_T_isWord, bk_T_mixed, bk_T_type, bk_A_has, bk_A_nextOf, bk_A_nextSet, bk_A_wordsOf, bk_A_wordsOfSet, bk_Fi_add, bk_Fi_made, bk_Fi_tell, bk_Fl_isPreferred, bk_R_firstIndexOf, bk_R_hexadecimal, bk_R_isDropped, bk_R_recentCharacter, bk_R_restart, bk_Sg_covers, bk_Sg_isFull, bk_St_movedToEnd, bk_St_placeOf, bk_Wo_isDefined, bk_Wo_letterAt, bk_Wo_remove, bk_M_adds, bk_M_clear, bk_M_copies, bk_M_freeSlot, bk_M_highOf, bk_M_in, bk_M_leaves, bk_M_letterOf, bk_M_lowOf, bk_M_nodeOf, bk_M_of, bk_M_order, bk_M_pieceAt, bk_M_put, bk_M_slot, bk_M_takes, bk_M_wordLength, bk_JI_bitCount, bk_JL_bitCount, bk_JA_fill, bk_T_find, bk_T_firstWrongByte, bk_T_letter, bk_T_next, bk_T_node, bk_T_possible, bk_T_read, bk_T_segmentError, bk_A_init, bk_A_added, bk_A_link, bk_A_nextSetByAny, bk_Fi_init, bk_Fi_copyFrom, bk_Fl_chosenPiece, bk_R_init, bk_R_begin, bk_R_come, bk_R_copyFrom, bk_Sg_init, bk_Sg_byteFor, bk_Sg_isCoveredBefore, bk_Sg_put, bk_Sg_smallestStart, bk_St_remove, bk_Wo_init, bk_Wo_copyFrom, bk_Wo_definedSet, bk_Wo_put, bk_M_begins, bk_M_byteOf, bk_M_covers, bk_M_definedSet, bk_M_drops, bk_M_endsWith, bk_M_faultOf, bk_M_find, bk_M_flow, bk_M_has, bk_M_hexOf, bk_M_inserts, bk_M_isBetter, bk_M_isPossible, bk_M_isWord, bk_M_laysPossible, bk_M_longest, bk_M_next, bk_M_node, bk_M_placeOf, bk_M_possibleNow, bk_M_readNow, bk_M_records, bk_M_starts, bk_M_type, bk_T_told, bk_A_addChildren, bk_A_fewestLettersToWord, bk_A_spread, bk_Fl_init, bk_Fl_begin, bk_Fl_chosenByte, bk_Fl_isDisputed, bk_R_release, bk_Sg_add, bk_Sg_coveredFrom, bk_Sg_dropBefore, bk_M_asked, bk_M_chosen, bk_M_isConflict, bk_M_lays, bk_M_letter, bk_M_possibleMany, bk_M_set, bk_M_steps, bk_M_told, bk_M_wrong, bk_T_byteAt, bk_T_nearest, bk_A_build, bk_Fl_end, bk_Fl_tell, bk_R_skip, bk_R_take, bk_Sg_copyFrom, bk_St_init, bk_St_flowOfSegment, bk_M_init, bk_M_byteNow, bk_M_covered, bk_M_nearest, bk_M_others, bk_M_possible, bk_M_read, bk_M_reads, bk_M_undo, bk_T_init, bk_T_mixedWithFlow, bk_T_property, bk_T_undo, bk_T_wordsChanged, bk_Fl_copyFrom, bk_Fl_deliver, bk_Fl_skipGap, bk_M_byteAt, bk_M_character, bk_M_define, bk_M_forget, bk_M_propertyNow, bk_T_digest, bk_Fl_accept, bk_St_copyFrom, bk_M_lets, bk_M_mixedFlow, bk_M_property, bk_T_handled, bk_T_record, bk_T_wordsBy, bk_M_delivers, bk_M_digest, bk_M_finish, bk_M_gap, bk_T_define, bk_T_evasions, bk_T_finish, bk_T_forget, bk_T_ifSegment, bk_T_replay, bk_T_segment, bk_T_set, bk_M_deliversAll, bk_M_handles, bk_M_handlesText, bk_M_replays, bk_M_evasions, bk_M_replay, bk_M_segments, bk_M_ifSegment, bk_M_segment, bk_L_law]
def jx_d0 : jx_Mt := ((yX7_clear, cX7_clear, 2, (some .int), (0, 0), (0, 0)), 1, 0, [394, 75, 392, 393])
def zz : jx_Z := (fun y => jx_mtab.getD y jx_d0, fun μ b => (jx_ptab.getD μ []).getD b (0, [], []))
def zwp : jx_XX := jx_wp zz
def zcall : jx_C := jx_cl zz (jx_wp zz)
