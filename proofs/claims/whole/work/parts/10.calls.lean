/-! methods and calls of this claim, as lists -/
abbrev QD : Type := MethodName × ByteArray × Nat × Option FieldType × Nat × Nat × Nat
abbrev iX12_init : Nat := 0
abbrev iX8_init : Nat := 1
abbrev iX5_init : Nat := 2
abbrev iJx4a65c_init_da8c8 : Nat := 3
abbrev iJxc12de_init_da8c8 : Nat := 4
abbrev iJxa1e45_init_da8c8 : Nat := 5
abbrev iX11_init : Nat := 6
abbrev iX0_init : Nat := 7
abbrev iX4_init : Nat := 8
abbrev iX2_init : Nat := 9
abbrev iX9_init : Nat := 10
abbrev iX1_init : Nat := 11
abbrev iX7_init : Nat := 12
abbrev iJ4_init_da8c8 : Nat := 13
abbrev iJ5_init_d00df : Nat := 14
abbrev iX12_feed : Nat := 15
abbrev iX12_isByte : Nat := 16
abbrev iX8_length : Nat := 17
abbrev iX8_append : Nat := 18
abbrev iX12_found : Nat := 19
abbrev iX8_takeWord : Nat := 20
abbrev iX10_isLetter : Nat := 21
abbrev iX10_with : Nat := 22
abbrev iX3_init : Nat := 23
abbrev iX12_tell : Nat := 24
abbrev iX6_refusal : Nat := 25
abbrev iX6_refusalOfRealm : Nat := 26
abbrev iX12_isDay : Nat := 27
abbrev iX11_isFull : Nat := 28
abbrev iX6_refusalOfChild : Nat := 29
abbrev iX11_place : Nat := 30
abbrev iX4_standsFrom : Nat := 31
abbrev iX4_hasEnded : Nat := 32
abbrev iX6_refusalOfEvent : Nat := 33
abbrev iX6_refusalOfMove : Nat := 34
abbrev iX6_refusalOfSplit : Nat := 35
abbrev iX9_at : Nat := 36
abbrev iX6_refusalOfMerge : Nat := 37
abbrev iX11_isParentFrom : Nat := 38
abbrev iX4_firstDayUnder : Nat := 39
abbrev iX4_end : Nat := 40
abbrev iX9_firstDayWith : Nat := 41
abbrev iX9_stopOf : Nat := 42
abbrev iJx4a65c_size_8abf5 : Nat := 43
abbrev iX12_keepMark : Nat := 44
abbrev iJx4a65c_add_9ea2d : Nat := 45
abbrev iJx4a65c_add_72be8 : Nat := 46
abbrev iJx4a65c_grow_d5877 : Nat := 47
abbrev iJx4a65c_grow_92f84 : Nat := 48
abbrev iJ8_newLength_cabcc : Nat := 49
abbrev iJ8_hugeLength_7cf53 : Nat := 50
abbrev iJ7_copyOf_1904c : Nat := 51
abbrev iJ7_copyOf_6403c : Nat := 52
abbrev iX11_carryOut : Nat := 53
abbrev iX11_settle : Nat := 54
abbrev iX4_begin : Nat := 55
abbrev iX2_begin : Nat := 56
abbrev iX9_begin : Nat := 57
abbrev iX1_begin : Nat := 58
abbrev iX0_addLeaf : Nat := 59
abbrev iX0_append : Nat := 60
abbrev iJ7_copyOf_59c91 : Nat := 61
abbrev iX0_addJoined : Nat := 62
abbrev iX0_has : Nat := 63
abbrev iX0_remove : Nat := 64
abbrev iX11_giveName : Nat := 65
abbrev iX2_at : Nat := 66
abbrev iX10_lengthOf : Nat := 67
abbrev iX10_letterOf : Nat := 68
abbrev iX2_append : Nat := 69
abbrev iJ7_copyOf_c38d5 : Nat := 70
abbrev iX4_remember : Nat := 71
abbrev iX1_append : Nat := 72
abbrev iX11_giveParent : Nat := 73
abbrev iX9_put : Nat := 74
abbrev iX9_insert : Nat := 75
abbrev iX11_splitOff : Nat := 76
abbrev iX11_takeIn : Nat := 77
abbrev iX9_replace : Nat := 78
abbrev iX12_rename : Nat := 79
abbrev iX12_move : Nat := 80
abbrev iX12_split : Nat := 81
abbrev iX12_merge : Nat := 82
abbrev iX12_close : Nat := 83
abbrev iX12_run : Nat := 84
abbrev iX5_read : Nat := 85
abbrev iJx4a65c_clear_da8c8 : Nat := 86
abbrev iX5_readCommand : Nat := 87
abbrev iX8_at : Nat := 88
abbrev iX5_sortFor : Nat := 89
abbrev iX5_readKind : Nat := 90
abbrev iX5_readNumber : Nat := 91
abbrev iX5_readSign : Nat := 92
abbrev iX5_readWord : Nat := 93
abbrev iX8_clear : Nat := 94
abbrev iX5_size : Nat := 95
abbrev iX5_order : Nat := 96
abbrev iJx4a65c_get_915e3 : Nat := 97
abbrev iJ15_checkIndex_7cf53 : Nat := 98
abbrev iJ3_checkIndex_8e157 : Nat := 99
abbrev iJx4a65c_elementData_915e3 : Nat := 100
abbrev iX12_cutJournal : Nat := 101
abbrev iJx4a65c_remove_915e3 : Nat := 102
abbrev iJx4a65c_fastRemove_b59b0 : Nat := 103
abbrev iX12_tellAgain : Nat := 104
abbrev iX11_clear : Nat := 105
abbrev iX0_clear : Nat := 106
abbrev iX12_reason : Nat := 107
abbrev iX12_on : Nat := 108
abbrev iX4_existsOn : Nat := 109
abbrev iX11_heirOf : Nat := 110
abbrev iX12_partOn : Nat := 111
abbrev iX11_parentsAbove : Nat := 112
abbrev iX11_childrenOf : Nat := 113
abbrev iX11_leafSet : Nat := 114
abbrev iX11_isFitting : Nat := 115
abbrev iX11_isUnder : Nat := 116
abbrev iJ6_bitCount_0f7a4 : Nat := 117
abbrev iX12_of : Nat := 118
abbrev iX2_size : Nat := 119
abbrev iX1_told : Nat := 120
abbrev iX12_event : Nat := 121
abbrev iX1_kept : Nat := 122
abbrev iX1_dayOf : Nat := 123
abbrev iX1_sortOf : Nat := 124
abbrev iX1_numberOf : Nat := 125
abbrev iX12_again : Nat := 126
abbrev iX1_parentOn : Nat := 127
abbrev iX12_lookup : Nat := 128
abbrev iX12_keepHits : Nat := 129
abbrev iX11_size : Nat := 130
abbrev iX7_distance : Nat := 131
abbrev iX7_nextRow : Nat := 132
abbrev iX12_sought : Nat := 133
abbrev iX12_filter : Nat := 134
abbrev iX0_size : Nat := 135
abbrev iX12_join : Nat := 136
abbrev iX12_drop : Nat := 137
abbrev iX12_fits : Nat := 138
abbrev iX0_setOn : Nat := 139
abbrev iX0_setOfNode : Nat := 140
abbrev iX0_setAt : Nat := 141
abbrev iX11_existingOn : Nat := 142
abbrev iX12_write : Nat := 143
abbrev iJ4_setLength_d00df : Nat := 144
abbrev iJ5_setLength_d00df : Nat := 145
abbrev iJ5_ensureCapacityInternal_d00df : Nat := 146
abbrev iJ5_newCapacity_0f7a4 : Nat := 147
abbrev iJ7_copyOf_9075b : Nat := 148
abbrev iJ5_isLatin1_aae02 : Nat := 149
abbrev iJ1_fillNull_b72d1 : Nat := 150
abbrev iJ7_fill_eb02e : Nat := 151
abbrev iJ7_rangeCheck_23922 : Nat := 152
abbrev iX1_print : Nat := 153
abbrev iJ4_append_cf468 : Nat := 154
abbrev iJ5_append_3fe6f : Nat := 155
abbrev iJ1_canEncode_fc78d : Nat := 156
abbrev iJ5_inflate_da8c8 : Nat := 157
abbrev iJ1_inflate_0e8fd : Nat := 158
abbrev iJ0_checkBoundsOffCount_cabcc : Nat := 159
abbrev iJ3_checkFromIndexSize_8c36e : Nat := 160
abbrev iJ0_checkIndex_df160 : Nat := 161
abbrev iJ0_length_8abf5 : Nat := 162
abbrev iJ0_coder_7d493 : Nat := 163
abbrev iJ0_charAt_5068e : Nat := 164
abbrev iJ0_isLatin1_aae02 : Nat := 165
abbrev iJ1_charAt_3b067 : Nat := 166
abbrev iJ4_append_bf812 : Nat := 167
abbrev iJ5_append_c97b9 : Nat := 168
abbrev iJ6_stringSize_0f7a4 : Nat := 169
abbrev iJ6_getChars_ba4f3 : Nat := 170
abbrev iJ0_checkBoundsBeginEnd_23922 : Nat := 171
abbrev iJ3_checkFromToIndex_8c36e : Nat := 172
abbrev iJ4_length_8abf5 : Nat := 173
abbrev iJ5_length_8abf5 : Nat := 174
abbrev iX12_paper : Nat := 175
abbrev iJ4_charAt_5068e : Nat := 176
abbrev iJ5_charAt_5068e : Nat := 177
abbrev iX12_changed : Nat := 178
abbrev iX4_differsOn : Nat := 179
abbrev iX12_longest : Nat := 180
abbrev iX2_longestHeld : Nat := 181
abbrev iX2_daysOf : Nat := 182
abbrev iX2_dayOf : Nat := 183
abbrev iX2_wordOf : Nat := 184
abbrev iX12_account : Nat := 185
abbrev iX11_notFoundedOn : Nat := 186
abbrev iX11_endedOn : Nat := 187
abbrev iX11_differentNamesOn : Nat := 188
abbrev iX11_isFirstOfItsName : Nat := 189
abbrev iX11_mostChildrenOn : Nat := 190
abbrev iX12_back : Nat := 191
abbrev iX12_image : Nat := 192
abbrev iX12_copyOrders : Nat := 193
abbrev iX12_undo : Nat := 194
abbrev iX12_count : Nat := 195
abbrev iX13_init : Nat := 196
abbrev iX13_feed : Nat := 197
abbrev iX13_in : Nat := 198
abbrev iX13_found : Nat := 199
abbrev iX13_isOneWord : Nat := 200
abbrev iX13_readsWord : Nat := 201
abbrev iX13_here : Nat := 202
abbrev iX13_fails : Nat := 203
abbrev iX13_noFounding : Nat := 204
abbrev iX13_isPlace : Nat := 205
abbrev iX13_isDay : Nat := 206
abbrev iX13_has : Nat := 207
abbrev iX13_canBeParent : Nat := 208
abbrev iX13_hasEnded : Nat := 209
abbrev iX13_refuse : Nat := 210
abbrev iX13_keeps : Nat := 211
abbrev iX13_copies : Nat := 212
abbrev iX13_founds : Nat := 213
abbrev iX13_lays : Nat := 214
abbrev iX13_tellsParent : Nat := 215
abbrev iX13_names : Nat := 216
abbrev iX13_happens : Nat := 217
abbrev iX13_rename : Nat := 218
abbrev iX13_noEvent : Nat := 219
abbrev iX13_isWrongDay : Nat := 220
abbrev iX13_renames : Nat := 221
abbrev iX13_lengthOn : Nat := 222
abbrev iX13_nameOn : Nat := 223
abbrev iX13_move : Nat := 224
abbrev iX13_noMove : Nat := 225
abbrev iX13_moves : Nat := 226
abbrev iX13_parentOn : Nat := 227
abbrev iX13_split : Nat := 228
abbrev iX13_noSplit : Nat := 229
abbrev iX13_splits : Nat := 230
abbrev iX13_merge : Nat := 231
abbrev iX13_noMerge : Nat := 232
abbrev iX13_merges : Nat := 233
abbrev iX13_firstDay : Nat := 234
abbrev iX13_exists : Nat := 235
abbrev iX13_close : Nat := 236
abbrev iX13_noClosing : Nat := 237
abbrev iX13_closes : Nat := 238
abbrev iX13_run : Nat := 239
abbrev iX13_command : Nat := 240
abbrev iX13_sign : Nat := 241
abbrev iX13_must : Nat := 242
abbrev iX13_number : Nat := 243
abbrev iX13_does : Nat := 244
abbrev iX13_reason : Nat := 245
abbrev iX13_on : Nat := 246
abbrev iX13_heir : Nat := 247
abbrev iX13_depth : Nat := 248
abbrev iX13_children : Nat := 249
abbrev iX13_of : Nat := 250
abbrev iX13_toldOf : Nat := 251
abbrev iX13_event : Nat := 252
abbrev iX13_again : Nat := 253
abbrev iX13_lookup : Nat := 254
abbrev iX13_distance : Nat := 255
abbrev iX13_sought : Nat := 256
abbrev iX13_filter : Nat := 257
abbrev iX13_part : Nat := 258
abbrev iX13_join : Nat := 259
abbrev iX13_isFilter : Nat := 260
abbrev iX13_drop : Nat := 261
abbrev iX13_fits : Nat := 262
abbrev iX13_isFit : Nat := 263
abbrev iX13_isAbove : Nat := 264
abbrev iX13_write : Nat := 265
abbrev iX13_letterOf : Nat := 266
abbrev iX13_writes : Nat := 267
abbrev iX13_paper : Nat := 268
abbrev iX13_changed : Nat := 269
abbrev iX13_areAlike : Nat := 270
abbrev iX13_longest : Nat := 271
abbrev iX13_account : Nat := 272
abbrev iX13_isFirstName : Nat := 273
abbrev iX13_back : Nat := 274
abbrev iX13_image : Nat := 275
abbrev iX13_undo : Nat := 276
abbrev iX13_count : Nat := 277
def q_mtab_0 : List QD := [(yX12_init, cX12_init, 1, none, 0, 111, 12),
  (yX8_init, cX8_init, 1, none, 0, 119, 8),
  (yX5_init, cX5_init, 1, none, 0, 133, 5),
  (yJx4a65c_init_da8c8, cJx4a65c_init_da8c8, 1, none, 0, 139, 15),
  (yJxc12de_init_da8c8, cJxc12de_init_da8c8, 1, none, 0, 142, 24),
  (yJxa1e45_init_da8c8, cJxa1e45_init_da8c8, 1, none, 0, 145, 25),
  (yX11_init, cX11_init, 2, none, 0, 178, 11),
  (yX0_init, cX0_init, 1, none, 0, 184, 0),
  (yX4_init, cX4_init, 1, none, 0, 213, 4),
  (yX2_init, cX2_init, 1, none, 0, 219, 2),
  (yX9_init, cX9_init, 1, none, 0, 236, 9),
  (yX1_init, cX1_init, 1, none, 0, 252, 1),
  (yX7_init, cX7_init, 1, none, 0, 337, 7),
  (yJ4_init_da8c8, cJ4_init_da8c8, 1, none, 0, 349, 14),
  (yJ5_init_d00df, cJ5_init_d00df, 2, none, 1, 352, 17),
  (yX12_feed, cX12_feed, 7, some .int, 6, 425, 12),
  (yX12_isByte, cX12_isByte, 1, some .boolean, 1, 428, 12),
  (yX8_length, cX8_length, 1, some .int, 0, 432, 8),
  (yX8_append, cX8_append, 2, none, 1, 436, 8),
  (yX12_found, cX12_found, 6, some .int, 3, 440, 12),
  (yX8_takeWord, cX8_takeWord, 5, some .long, 0, 444, 8),
  (yX10_isLetter, cX10_isLetter, 1, some .boolean, 1, 447, 10),
  (yX10_with, cX10_with, 4, some .long, 3, 450, 10),
  (yX3_init, cX3_init, 7, none, 5, 455, 3),
  (yX12_tell, cX12_tell, 3, some .int, 1, 486, 12),
  (yX6_refusal, cX6_refusal, 3, some .int, 2, 489, 6),
  (yX6_refusalOfRealm, cX6_refusalOfRealm, 2, some .int, 2, 492, 6),
  (yX12_isDay, cX12_isDay, 1, some .boolean, 1, 495, 12),
  (yX11_isFull, cX11_isFull, 1, some .boolean, 0, 499, 11),
  (yX6_refusalOfChild, cX6_refusalOfChild, 3, some .int, 2, 502, 6),
  (yX11_place, cX11_place, 2, some (.object "PlaceRegister$Place"), 1, 506, 11),
  (yX4_standsFrom, cX4_standsFrom, 2, some .boolean, 1, 510, 4),
  (yX4_hasEnded, cX4_hasEnded, 1, some .boolean, 0, 514, 4),
  (yX6_refusalOfEvent, cX6_refusalOfEvent, 3, some .int, 2, 517, 6),
  (yX6_refusalOfMove, cX6_refusalOfMove, 5, some .int, 2, 521, 6),
  (yX6_refusalOfSplit, cX6_refusalOfSplit, 5, some .int, 2, 524, 6),
  (yX9_at, cX9_at, 3, some .int, 1, 528, 9),
  (yX6_refusalOfMerge, cX6_refusalOfMerge, 5, some .int, 2, 531, 6),
  (yX11_isParentFrom, cX11_isParentFrom, 5, some .boolean, 2, 535, 11),
  (yX4_firstDayUnder, cX4_firstDayUnder, 3, some .int, 2, 539, 4),
  (yX4_end, cX4_end, 1, some .int, 0, 543, 4),
  (yX9_firstDayWith, cX9_firstDayWith, 6, some .int, 3, 547, 9),
  (yX9_stopOf, cX9_stopOf, 2, some .int, 1, 554, 9),
  (yJx4a65c_size_8abf5, cJx4a65c_size_8abf5, 1, some .int, 0, 561, 15),
  (yX12_keepMark, cX12_keepMark, 2, none, 1, 565, 12),
  (yJx4a65c_add_9ea2d, cJx4a65c_add_9ea2d, 2, some .boolean, 1, 572, 15),
  (yJx4a65c_add_72be8, cJx4a65c_add_72be8, 4, none, 3, 576, 15),
  (yJx4a65c_grow_d5877, cJx4a65c_grow_d5877, 1, some (.array (.object "java/lang/Object")), 0, 580, 15),
  (yJx4a65c_grow_92f84, cJx4a65c_grow_92f84, 4, some (.array (.object "java/lang/Object")), 1, 584, 15),
  (yJ8_newLength_cabcc, cJ8_newLength_cabcc, 4, some .int, 3, 587, 22)]
def q_mtab_1 : List QD := [(yJ8_hugeLength_7cf53, cJ8_hugeLength_7cf53, 3, some .int, 2, 592, 22),
  (yJ7_copyOf_1904c, cJ7_copyOf_1904c, 2, some (.array (.object "java/lang/Object")), 2, 595, 18),
  (yJ7_copyOf_6403c, cJ7_copyOf_6403c, 4, some (.array (.object "java/lang/Object")), 3, 616, 18),
  (yX11_carryOut, cX11_carryOut, 3, some .int, 1, 627, 11),
  (yX11_settle, cX11_settle, 7, some .int, 4, 631, 11),
  (yX4_begin, cX4_begin, 6, none, 4, 636, 4),
  (yX2_begin, cX2_begin, 4, none, 2, 640, 2),
  (yX9_begin, cX9_begin, 3, none, 2, 644, 9),
  (yX1_begin, cX1_begin, 3, none, 2, 648, 1),
  (yX0_addLeaf, cX0_addLeaf, 3, some .int, 2, 652, 0),
  (yX0_append, cX0_append, 4, some .int, 3, 656, 0),
  (yJ7_copyOf_59c91, cJ7_copyOf_59c91, 3, some (.array (.int)), 2, 659, 18),
  (yX0_addJoined, cX0_addJoined, 4, some .int, 3, 670, 0),
  (yX0_has, cX0_has, 2, some .boolean, 1, 674, 0),
  (yX0_remove, cX0_remove, 3, some .int, 1, 678, 0),
  (yX11_giveName, cX11_giveName, 5, some .int, 3, 682, 11),
  (yX2_at, cX2_at, 3, some .long, 1, 686, 2),
  (yX10_lengthOf, cX10_lengthOf, 4, some .int, 1, 689, 10),
  (yX10_letterOf, cX10_letterOf, 3, some .int, 2, 692, 10),
  (yX2_append, cX2_append, 4, none, 2, 697, 2),
  (yJ7_copyOf_c38d5, cJ7_copyOf_c38d5, 3, some (.array (.long)), 2, 701, 18),
  (yX4_remember, cX4_remember, 4, none, 3, 710, 4),
  (yX1_append, cX1_append, 4, none, 3, 714, 1),
  (yX11_giveParent, cX11_giveParent, 4, some .int, 3, 717, 11),
  (yX9_put, cX9_put, 3, none, 2, 722, 9),
  (yX9_insert, cX9_insert, 5, none, 3, 726, 9),
  (yX11_splitOff, cX11_splitOff, 8, some .int, 4, 731, 11),
  (yX11_takeIn, cX11_takeIn, 10, some .int, 4, 735, 11),
  (yX9_replace, cX9_replace, 5, none, 3, 740, 9),
  (yX12_rename, cX12_rename, 3, some .int, 2, 744, 12),
  (yX12_move, cX12_move, 4, some .int, 3, 748, 12),
  (yX12_split, cX12_split, 3, some .int, 2, 752, 12),
  (yX12_merge, cX12_merge, 4, some .int, 3, 756, 12),
  (yX12_close, cX12_close, 3, some .int, 2, 760, 12),
  (yX12_run, cX12_run, 7, some .int, 0, 764, 12),
  (yX5_read, cX5_read, 3, some .int, 1, 768, 5),
  (yJx4a65c_clear_da8c8, cJx4a65c_clear_da8c8, 4, none, 0, 772, 15),
  (yX5_readCommand, cX5_readCommand, 6, some .boolean, 1, 776, 5),
  (yX8_at, cX8_at, 2, some .int, 1, 780, 8),
  (yX5_sortFor, cX5_sortFor, 1, some .int, 1, 783, 5),
  (yX5_readKind, cX5_readKind, 2, some .boolean, 1, 787, 5),
  (yX5_readNumber, cX5_readNumber, 3, some .boolean, 1, 791, 5),
  (yX5_readSign, cX5_readSign, 3, some .boolean, 2, 795, 5),
  (yX5_readWord, cX5_readWord, 3, some .boolean, 1, 799, 5),
  (yX8_clear, cX8_clear, 1, none, 0, 809, 8),
  (yX5_size, cX5_size, 1, some .int, 0, 813, 5),
  (yX5_order, cX5_order, 2, some (.object "PlaceRegister$Order"), 1, 818, 5),
  (yJx4a65c_get_915e3, cJx4a65c_get_915e3, 2, some (.object "java/lang/Object"), 1, 822, 15),
  (yJ15_checkIndex_7cf53, cJ15_checkIndex_7cf53, 2, some .int, 2, 825, 21),
  (yJ3_checkIndex_8e157, cJ3_checkIndex_8e157, 3, some .int, 3, 828, 23)]
def q_mtab_2 : List QD := [(yJx4a65c_elementData_915e3, cJx4a65c_elementData_915e3, 2, some (.object "java/lang/Object"), 1, 832, 15),
  (yX12_cutJournal, cX12_cutJournal, 3, none, 1, 836, 12),
  (yJx4a65c_remove_915e3, cJx4a65c_remove_915e3, 4, some (.object "java/lang/Object"), 1, 840, 15),
  (yJx4a65c_fastRemove_b59b0, cJx4a65c_fastRemove_b59b0, 4, none, 2, 844, 15),
  (yX12_tellAgain, cX12_tellAgain, 2, none, 0, 849, 12),
  (yX11_clear, cX11_clear, 1, none, 0, 853, 11),
  (yX0_clear, cX0_clear, 1, none, 0, 857, 0),
  (yX12_reason, cX12_reason, 1, some .int, 0, 862, 12),
  (yX12_on, cX12_on, 5, some .int, 3, 866, 12),
  (yX4_existsOn, cX4_existsOn, 2, some .boolean, 1, 872, 4),
  (yX11_heirOf, cX11_heirOf, 6, some .int, 2, 876, 11),
  (yX12_partOn, cX12_partOn, 6, some .int, 4, 881, 12),
  (yX11_parentsAbove, cX11_parentsAbove, 5, some .int, 2, 888, 11),
  (yX11_childrenOf, cX11_childrenOf, 3, some .int, 2, 892, 11),
  (yX11_leafSet, cX11_leafSet, 7, some .int, 3, 896, 11),
  (yX11_isFitting, cX11_isFitting, 5, some .boolean, 4, 901, 11),
  (yX11_isUnder, cX11_isUnder, 7, some .boolean, 3, 905, 11),
  (yJ6_bitCount_0f7a4, cJ6_bitCount_0f7a4, 1, some .int, 1, 908, 20),
  (yX12_of, cX12_of, 4, some .int, 2, 916, 12),
  (yX2_size, cX2_size, 1, some .int, 0, 920, 2),
  (yX1_told, cX1_told, 1, some .int, 0, 924, 1),
  (yX12_event, cX12_event, 5, some .int, 3, 928, 12),
  (yX1_kept, cX1_kept, 1, some .int, 0, 932, 1),
  (yX1_dayOf, cX1_dayOf, 2, some .int, 1, 937, 1),
  (yX1_sortOf, cX1_sortOf, 2, some .int, 1, 942, 1),
  (yX1_numberOf, cX1_numberOf, 2, some .int, 1, 946, 1),
  (yX12_again, cX12_again, 4, some .int, 2, 950, 12),
  (yX1_parentOn, cX1_parentOn, 5, some .int, 2, 954, 1),
  (yX12_lookup, cX12_lookup, 6, some .int, 2, 962, 12),
  (yX12_keepHits, cX12_keepHits, 7, none, 3, 966, 12),
  (yX11_size, cX11_size, 1, some .int, 0, 970, 11),
  (yX7_distance, cX7_distance, 8, some .int, 2, 974, 7),
  (yX7_nextRow, cX7_nextRow, 9, none, 3, 980, 7),
  (yX12_sought, cX12_sought, 2, some .int, 1, 985, 12),
  (yX12_filter, cX12_filter, 3, some .int, 2, 989, 12),
  (yX0_size, cX0_size, 1, some .int, 0, 993, 0),
  (yX12_join, cX12_join, 4, some .int, 3, 997, 12),
  (yX12_drop, cX12_drop, 2, some .int, 1, 1002, 12),
  (yX12_fits, cX12_fits, 3, some .int, 2, 1006, 12),
  (yX0_setOn, cX0_setOn, 6, some .int, 3, 1010, 0),
  (yX0_setOfNode, cX0_setOfNode, 4, some .int, 3, 1014, 0),
  (yX0_setAt, cX0_setAt, 2, some .int, 1, 1018, 0),
  (yX11_existingOn, cX11_existingOn, 5, some .int, 1, 1022, 11),
  (yX12_write, cX12_write, 3, some .int, 1, 1027, 12),
  (yJ4_setLength_d00df, cJ4_setLength_d00df, 2, none, 1, 1031, 14),
  (yJ5_setLength_d00df, cJ5_setLength_d00df, 2, none, 1, 1034, 17),
  (yJ5_ensureCapacityInternal_d00df, cJ5_ensureCapacityInternal_d00df, 3, none, 1, 1038, 17),
  (yJ5_newCapacity_0f7a4, cJ5_newCapacity_0f7a4, 6, some .int, 1, 1042, 17),
  (yJ7_copyOf_9075b, cJ7_copyOf_9075b, 3, some (.array (.byte)), 2, 1047, 18),
  (yJ5_isLatin1_aae02, cJ5_isLatin1_aae02, 1, some .boolean, 0, 1057, 17)]
def q_mtab_3 : List QD := [(yJ1_fillNull_b72d1, cJ1_fillNull_b72d1, 3, none, 3, 1060, 27),
  (yJ7_fill_eb02e, cJ7_fill_eb02e, 5, none, 4, 1063, 18),
  (yJ7_rangeCheck_23922, cJ7_rangeCheck_23922, 3, none, 3, 1066, 18),
  (yX1_print, cX1_print, 4, none, 1, 1074, 1),
  (yJ4_append_cf468, cJ4_append_cf468, 2, some (.object "java/lang/StringBuilder"), 1, 1078, 14),
  (yJ5_append_3fe6f, cJ5_append_3fe6f, 2, some (.object "java/lang/AbstractStringBuilder"), 1, 1081, 17),
  (yJ1_canEncode_fc78d, cJ1_canEncode_fc78d, 1, some .boolean, 1, 1084, 27),
  (yJ5_inflate_da8c8, cJ5_inflate_da8c8, 2, none, 0, 1088, 17),
  (yJ1_inflate_0e8fd, cJ1_inflate_0e8fd, 5, none, 5, 1091, 27),
  (yJ0_checkBoundsOffCount_cabcc, cJ0_checkBoundsOffCount_cabcc, 3, some .int, 3, 1103, 26),
  (yJ3_checkFromIndexSize_8c36e, cJ3_checkFromIndexSize_8c36e, 4, some .int, 4, 1108, 23),
  (yJ0_checkIndex_df160, cJ0_checkIndex_df160, 2, none, 2, 1126, 26),
  (yJ0_length_8abf5, cJ0_length_8abf5, 1, some .int, 0, 1132, 26),
  (yJ0_coder_7d493, cJ0_coder_7d493, 1, some .byte, 0, 1136, 26),
  (yJ0_charAt_5068e, cJ0_charAt_5068e, 2, some .char, 1, 1141, 26),
  (yJ0_isLatin1_aae02, cJ0_isLatin1_aae02, 1, some .boolean, 0, 1145, 26),
  (yJ1_charAt_3b067, cJ1_charAt_3b067, 2, some .char, 2, 1148, 27),
  (yJ4_append_bf812, cJ4_append_bf812, 2, some (.object "java/lang/StringBuilder"), 1, 1159, 14),
  (yJ5_append_c97b9, cJ5_append_c97b9, 4, some (.object "java/lang/AbstractStringBuilder"), 1, 1162, 17),
  (yJ6_stringSize_0f7a4, cJ6_stringSize_0f7a4, 4, some .int, 1, 1165, 20),
  (yJ6_getChars_ba4f3, cJ6_getChars_ba4f3, 7, some .int, 3, 1168, 20),
  (yJ0_checkBoundsBeginEnd_23922, cJ0_checkBoundsBeginEnd_23922, 3, none, 3, 1181, 26),
  (yJ3_checkFromToIndex_8c36e, cJ3_checkFromToIndex_8c36e, 4, some .int, 4, 1184, 23),
  (yJ4_length_8abf5, cJ4_length_8abf5, 1, some .int, 0, 1193, 14),
  (yJ5_length_8abf5, cJ5_length_8abf5, 1, some .int, 0, 1196, 17),
  (yX12_paper, cX12_paper, 2, some .int, 1, 1200, 12),
  (yJ4_charAt_5068e, cJ4_charAt_5068e, 2, some .char, 1, 1204, 14),
  (yJ5_charAt_5068e, cJ5_charAt_5068e, 5, some .char, 1, 1207, 17),
  (yX12_changed, cX12_changed, 6, some .int, 2, 1214, 12),
  (yX4_differsOn, cX4_differsOn, 3, some .boolean, 2, 1218, 4),
  (yX12_longest, cX12_longest, 5, some .int, 2, 1225, 12),
  (yX2_longestHeld, cX2_longestHeld, 4, some .int, 1, 1230, 2),
  (yX2_daysOf, cX2_daysOf, 3, some .int, 2, 1234, 2),
  (yX2_dayOf, cX2_dayOf, 2, some .int, 1, 1238, 2),
  (yX2_wordOf, cX2_wordOf, 2, some .long, 1, 1244, 2),
  (yX12_account, cX12_account, 3, some .int, 2, 1248, 12),
  (yX11_notFoundedOn, cX11_notFoundedOn, 5, some .int, 1, 1254, 11),
  (yX11_endedOn, cX11_endedOn, 5, some .int, 1, 1258, 11),
  (yX11_differentNamesOn, cX11_differentNamesOn, 4, some .int, 1, 1262, 11),
  (yX11_isFirstOfItsName, cX11_isFirstOfItsName, 6, some .boolean, 2, 1266, 11),
  (yX11_mostChildrenOn, cX11_mostChildrenOn, 4, some .int, 1, 1270, 11),
  (yX12_back, cX12_back, 1, some .int, 0, 1277, 12),
  (yX12_image, cX12_image, 1, some .int, 0, 1281, 12),
  (yX12_copyOrders, cX12_copyOrders, 3, none, 2, 1284, 12),
  (yX12_undo, cX12_undo, 1, some .int, 0, 1289, 12),
  (yX12_count, cX12_count, 2, some .int, 1, 1293, 12),
  (yX13_init, cX13_init, 1, none, 0, 1298, 13),
  (yX13_feed, cX13_feed, 8, some .int, 6, 1356, 13),
  (yX13_in, cX13_in, 3, some .boolean, 3, 1359, 13),
  (yX13_found, cX13_found, 6, some .int, 3, 1363, 13)]
def q_mtab_4 : List QD := [(yX13_isOneWord, cX13_isOneWord, 2, some .boolean, 0, 1367, 13),
  (yX13_readsWord, cX13_readsWord, 1, none, 0, 1371, 13),
  (yX13_here, cX13_here, 1, some .int, 0, 1375, 13),
  (yX13_fails, cX13_fails, 1, none, 0, 1379, 13),
  (yX13_noFounding, cX13_noFounding, 4, some .int, 3, 1383, 13),
  (yX13_isPlace, cX13_isPlace, 2, some .boolean, 1, 1387, 13),
  (yX13_isDay, cX13_isDay, 1, some .boolean, 1, 1390, 13),
  (yX13_has, cX13_has, 3, some .int, 2, 1394, 13),
  (yX13_canBeParent, cX13_canBeParent, 3, some .boolean, 2, 1398, 13),
  (yX13_hasEnded, cX13_hasEnded, 2, some .boolean, 1, 1402, 13),
  (yX13_refuse, cX13_refuse, 2, some .int, 1, 1406, 13),
  (yX13_keeps, cX13_keeps, 2, none, 0, 1410, 13),
  (yX13_copies, cX13_copies, 4, none, 2, 1414, 13),
  (yX13_founds, cX13_founds, 6, some .int, 3, 1418, 13),
  (yX13_lays, cX13_lays, 4, none, 3, 1422, 13),
  (yX13_tellsParent, cX13_tellsParent, 5, none, 3, 1426, 13),
  (yX13_names, cX13_names, 5, none, 2, 1430, 13),
  (yX13_happens, cX13_happens, 6, none, 4, 1434, 13),
  (yX13_rename, cX13_rename, 4, some .int, 2, 1438, 13),
  (yX13_noEvent, cX13_noEvent, 3, some .int, 2, 1442, 13),
  (yX13_isWrongDay, cX13_isWrongDay, 3, some .boolean, 2, 1446, 13),
  (yX13_renames, cX13_renames, 4, some .int, 2, 1450, 13),
  (yX13_lengthOn, cX13_lengthOn, 3, some .int, 2, 1454, 13),
  (yX13_nameOn, cX13_nameOn, 6, some .int, 2, 1458, 13),
  (yX13_move, cX13_move, 5, some .int, 3, 1462, 13),
  (yX13_noMove, cX13_noMove, 5, some .int, 3, 1466, 13),
  (yX13_moves, cX13_moves, 5, some .int, 3, 1470, 13),
  (yX13_parentOn, cX13_parentOn, 6, some .int, 2, 1474, 13),
  (yX13_split, cX13_split, 4, some .int, 2, 1478, 13),
  (yX13_noSplit, cX13_noSplit, 4, some .int, 2, 1482, 13),
  (yX13_splits, cX13_splits, 4, some .int, 2, 1486, 13),
  (yX13_merge, cX13_merge, 5, some .int, 3, 1490, 13),
  (yX13_noMerge, cX13_noMerge, 5, some .int, 3, 1494, 13),
  (yX13_merges, cX13_merges, 7, some .int, 3, 1498, 13),
  (yX13_firstDay, cX13_firstDay, 8, some .int, 3, 1502, 13),
  (yX13_exists, cX13_exists, 3, some .boolean, 2, 1506, 13),
  (yX13_close, cX13_close, 4, some .int, 2, 1510, 13),
  (yX13_noClosing, cX13_noClosing, 5, some .int, 2, 1514, 13),
  (yX13_closes, cX13_closes, 3, some .int, 2, 1518, 13),
  (yX13_run, cX13_run, 3, some .int, 0, 1522, 13),
  (yX13_command, cX13_command, 4, none, 0, 1526, 13),
  (yX13_sign, cX13_sign, 3, some .int, 2, 1530, 13),
  (yX13_must, cX13_must, 3, none, 1, 1534, 13),
  (yX13_number, cX13_number, 3, some .int, 0, 1538, 13),
  (yX13_does, cX13_does, 6, some .int, 1, 1542, 13),
  (yX13_reason, cX13_reason, 1, some .int, 0, 1546, 13),
  (yX13_on, cX13_on, 6, some .int, 3, 1550, 13),
  (yX13_heir, cX13_heir, 4, some .int, 2, 1554, 13),
  (yX13_depth, cX13_depth, 5, some .int, 2, 1558, 13),
  (yX13_children, cX13_children, 5, some .int, 2, 1562, 13)]
def q_mtab_5 : List QD := [(yX13_of, cX13_of, 3, some .int, 2, 1566, 13),
  (yX13_toldOf, cX13_toldOf, 7, some .int, 4, 1570, 13),
  (yX13_event, cX13_event, 4, some .int, 3, 1574, 13),
  (yX13_again, cX13_again, 3, some .int, 2, 1578, 13),
  (yX13_lookup, cX13_lookup, 6, some .int, 2, 1582, 13),
  (yX13_distance, cX13_distance, 7, some .int, 1, 1586, 13),
  (yX13_sought, cX13_sought, 2, some .int, 1, 1590, 13),
  (yX13_filter, cX13_filter, 3, some .int, 2, 1594, 13),
  (yX13_part, cX13_part, 5, some .int, 3, 1598, 13),
  (yX13_join, cX13_join, 4, some .int, 3, 1602, 13),
  (yX13_isFilter, cX13_isFilter, 2, some .boolean, 1, 1606, 13),
  (yX13_drop, cX13_drop, 3, some .int, 1, 1610, 13),
  (yX13_fits, cX13_fits, 5, some .int, 2, 1614, 13),
  (yX13_isFit, cX13_isFit, 6, some .boolean, 3, 1618, 13),
  (yX13_isAbove, cX13_isAbove, 5, some .boolean, 3, 1622, 13),
  (yX13_write, cX13_write, 4, some .int, 1, 1626, 13),
  (yX13_letterOf, cX13_letterOf, 1, some .int, 1, 1629, 13),
  (yX13_writes, cX13_writes, 2, none, 1, 1633, 13),
  (yX13_paper, cX13_paper, 2, some .int, 1, 1637, 13),
  (yX13_changed, cX13_changed, 5, some .int, 2, 1641, 13),
  (yX13_areAlike, cX13_areAlike, 5, some .boolean, 2, 1645, 13),
  (yX13_longest, cX13_longest, 10, some .int, 2, 1649, 13),
  (yX13_account, cX13_account, 6, some .int, 2, 1653, 13),
  (yX13_isFirstName, cX13_isFirstName, 4, some .boolean, 2, 1657, 13),
  (yX13_back, cX13_back, 1, some .int, 0, 1661, 13),
  (yX13_image, cX13_image, 1, some .int, 0, 1665, 13),
  (yX13_undo, cX13_undo, 1, some .int, 0, 1669, 13),
  (yX13_count, cX13_count, 2, some .int, 1, 1673, 13)]
def q_mtab : List QD := q_mtab_0 ++ q_mtab_1 ++ q_mtab_2 ++ q_mtab_3 ++ q_mtab_4 ++ q_mtab_5
def q_mokb (e : QD) : Bool := decide (q_own[e.2.2.2.2.2.2]? = some e.1.cls) && (plainName e.1.cls && (decide (e.2.2.1 ≤ 45) && (decide (e.1.cls ≠ "java/lang/invoke/MethodHandle" ∧ e.1.cls ≠ "java/lang/invoke/VarHandle") && decide ((parseMethodDescriptor e.1.desc).map (fun d => d.parameters.length) = some e.2.2.2.2.1))))
def q_mcd (d : QD) : Prop := Jvm.Cond.code d.1 d.2.1 d.2.2.1 d.2.2.2.1 ∈ qT
theorem q_mtab_0_ok : q_mtab_0.all q_mokb = true := by decide +kernel
theorem q_mtab_1_ok : q_mtab_1.all q_mokb = true := by decide +kernel
theorem q_mtab_2_ok : q_mtab_2.all q_mokb = true := by decide +kernel
theorem q_mtab_3_ok : q_mtab_3.all q_mokb = true := by decide +kernel
theorem q_mtab_4_ok : q_mtab_4.all q_mokb = true := by decide +kernel
theorem q_mtab_5_ok : q_mtab_5.all q_mokb = true := by decide +kernel
theorem q_mtab_ok : q_mtab.all q_mokb = true := by unfold q_mtab; rw [List.all_append, List.all_append, List.all_append, List.all_append, List.all_append, q_mtab_0_ok, q_mtab_1_ok, q_mtab_2_ok, q_mtab_3_ok, q_mtab_4_ok, q_mtab_5_ok]; rfl
set_option maxRecDepth 100000 in
theorem q_mc0 : q_mcd (yX12_init, cX12_init, 1, none, 0, 111, 12) := List.mem_filter.mpr ⟨List.mem_of_getElem? (i := 111) rfl, rfl⟩
set_option maxRecDepth 100000 in
theorem q_mc1 : q_mcd (yX8_init, cX8_init, 1, none, 0, 119, 8) := List.mem_filter.mpr ⟨List.mem_of_getElem? (i := 119) rfl, rfl⟩
set_option maxRecDepth 100000 in
theorem q_mc2 : q_mcd (yX5_init, cX5_init, 1, none, 0, 133, 5) := List.mem_filter.mpr ⟨List.mem_of_getElem? (i := 133) rfl, rfl⟩
set_option maxRecDepth 100000 in
theorem q_mc3 : q_mcd (yJx4a65c_init_da8c8, cJx4a65c_init_da8c8, 1, none, 0, 139, 15) := List.mem_filter.mpr ⟨List.mem_of_getElem? (i := 139) rfl, rfl⟩
set_option maxRecDepth 100000 in
theorem q_mc4 : q_mcd (yJxc12de_init_da8c8, cJxc12de_init_da8c8, 1, none, 0, 142, 24) := List.mem_filter.mpr ⟨List.mem_of_getElem? (i := 142) rfl, rfl⟩
set_option maxRecDepth 100000 in
theorem q_mc5 : q_mcd (yJxa1e45_init_da8c8, cJxa1e45_init_da8c8, 1, none, 0, 145, 25) := List.mem_filter.mpr ⟨List.mem_of_getElem? (i := 145) rfl, rfl⟩
set_option maxRecDepth 100000 in
theorem q_mc6 : q_mcd (yX11_init, cX11_init, 2, none, 0, 178, 11) := List.mem_filter.mpr ⟨List.mem_of_getElem? (i := 178) rfl, rfl⟩
set_option maxRecDepth 100000 in
theorem q_mc7 : q_mcd (yX0_init, cX0_init, 1, none, 0, 184, 0) := List.mem_filter.mpr ⟨List.mem_of_getElem? (i := 184) rfl, rfl⟩
set_option maxRecDepth 100000 in
theorem q_mc8 : q_mcd (yX4_init, cX4_init, 1, none, 0, 213, 4) := List.mem_filter.mpr ⟨List.mem_of_getElem? (i := 213) rfl, rfl⟩
set_option maxRecDepth 100000 in
theorem q_mc9 : q_mcd (yX2_init, cX2_init, 1, none, 0, 219, 2) := List.mem_filter.mpr ⟨List.mem_of_getElem? (i := 219) rfl, rfl⟩
set_option maxRecDepth 100000 in
theorem q_mc10 : q_mcd (yX9_init, cX9_init, 1, none, 0, 236, 9) := List.mem_filter.mpr ⟨List.mem_of_getElem? (i := 236) rfl, rfl⟩
set_option maxRecDepth 100000 in
theorem q_mc11 : q_mcd (yX1_init, cX1_init, 1, none, 0, 252, 1) := List.mem_filter.mpr ⟨List.mem_of_getElem? (i := 252) rfl, rfl⟩
set_option maxRecDepth 100000 in
theorem q_mc12 : q_mcd (yX7_init, cX7_init, 1, none, 0, 337, 7) := List.mem_filter.mpr ⟨List.mem_of_getElem? (i := 337) rfl, rfl⟩
set_option maxRecDepth 100000 in
theorem q_mc13 : q_mcd (yJ4_init_da8c8, cJ4_init_da8c8, 1, none, 0, 349, 14) := List.mem_filter.mpr ⟨List.mem_of_getElem? (i := 349) rfl, rfl⟩
set_option maxRecDepth 100000 in
theorem q_mc14 : q_mcd (yJ5_init_d00df, cJ5_init_d00df, 2, none, 1, 352, 17) := List.mem_filter.mpr ⟨List.mem_of_getElem? (i := 352) rfl, rfl⟩
set_option maxRecDepth 100000 in
theorem q_mc15 : q_mcd (yX12_feed, cX12_feed, 7, some .int, 6, 425, 12) := List.mem_filter.mpr ⟨List.mem_of_getElem? (i := 425) rfl, rfl⟩
set_option maxRecDepth 100000 in
theorem q_mc16 : q_mcd (yX12_isByte, cX12_isByte, 1, some .boolean, 1, 428, 12) := List.mem_filter.mpr ⟨List.mem_of_getElem? (i := 428) rfl, rfl⟩
set_option maxRecDepth 100000 in
theorem q_mc17 : q_mcd (yX8_length, cX8_length, 1, some .int, 0, 432, 8) := List.mem_filter.mpr ⟨List.mem_of_getElem? (i := 432) rfl, rfl⟩
set_option maxRecDepth 100000 in
theorem q_mc18 : q_mcd (yX8_append, cX8_append, 2, none, 1, 436, 8) := List.mem_filter.mpr ⟨List.mem_of_getElem? (i := 436) rfl, rfl⟩
set_option maxRecDepth 100000 in
theorem q_mc19 : q_mcd (yX12_found, cX12_found, 6, some .int, 3, 440, 12) := List.mem_filter.mpr ⟨List.mem_of_getElem? (i := 440) rfl, rfl⟩
set_option maxRecDepth 100000 in
theorem q_mc20 : q_mcd (yX8_takeWord, cX8_takeWord, 5, some .long, 0, 444, 8) := List.mem_filter.mpr ⟨List.mem_of_getElem? (i := 444) rfl, rfl⟩
set_option maxRecDepth 100000 in
theorem q_mc21 : q_mcd (yX10_isLetter, cX10_isLetter, 1, some .boolean, 1, 447, 10) := List.mem_filter.mpr ⟨List.mem_of_getElem? (i := 447) rfl, rfl⟩
set_option maxRecDepth 100000 in
theorem q_mc22 : q_mcd (yX10_with, cX10_with, 4, some .long, 3, 450, 10) := List.mem_filter.mpr ⟨List.mem_of_getElem? (i := 450) rfl, rfl⟩
set_option maxRecDepth 100000 in
theorem q_mc23 : q_mcd (yX3_init, cX3_init, 7, none, 5, 455, 3) := List.mem_filter.mpr ⟨List.mem_of_getElem? (i := 455) rfl, rfl⟩
set_option maxRecDepth 100000 in
theorem q_mc24 : q_mcd (yX12_tell, cX12_tell, 3, some .int, 1, 486, 12) := List.mem_filter.mpr ⟨List.mem_of_getElem? (i := 486) rfl, rfl⟩
set_option maxRecDepth 100000 in
theorem q_mc25 : q_mcd (yX6_refusal, cX6_refusal, 3, some .int, 2, 489, 6) := List.mem_filter.mpr ⟨List.mem_of_getElem? (i := 489) rfl, rfl⟩
set_option maxRecDepth 100000 in
theorem q_mc26 : q_mcd (yX6_refusalOfRealm, cX6_refusalOfRealm, 2, some .int, 2, 492, 6) := List.mem_filter.mpr ⟨List.mem_of_getElem? (i := 492) rfl, rfl⟩
set_option maxRecDepth 100000 in
theorem q_mc27 : q_mcd (yX12_isDay, cX12_isDay, 1, some .boolean, 1, 495, 12) := List.mem_filter.mpr ⟨List.mem_of_getElem? (i := 495) rfl, rfl⟩
set_option maxRecDepth 100000 in
theorem q_mc28 : q_mcd (yX11_isFull, cX11_isFull, 1, some .boolean, 0, 499, 11) := List.mem_filter.mpr ⟨List.mem_of_getElem? (i := 499) rfl, rfl⟩
set_option maxRecDepth 100000 in
theorem q_mc29 : q_mcd (yX6_refusalOfChild, cX6_refusalOfChild, 3, some .int, 2, 502, 6) := List.mem_filter.mpr ⟨List.mem_of_getElem? (i := 502) rfl, rfl⟩
set_option maxRecDepth 100000 in
theorem q_mc30 : q_mcd (yX11_place, cX11_place, 2, some (.object "PlaceRegister$Place"), 1, 506, 11) := List.mem_filter.mpr ⟨List.mem_of_getElem? (i := 506) rfl, rfl⟩
set_option maxRecDepth 100000 in
theorem q_mc31 : q_mcd (yX4_standsFrom, cX4_standsFrom, 2, some .boolean, 1, 510, 4) := List.mem_filter.mpr ⟨List.mem_of_getElem? (i := 510) rfl, rfl⟩
set_option maxRecDepth 100000 in
theorem q_mc32 : q_mcd (yX4_hasEnded, cX4_hasEnded, 1, some .boolean, 0, 514, 4) := List.mem_filter.mpr ⟨List.mem_of_getElem? (i := 514) rfl, rfl⟩
set_option maxRecDepth 100000 in
theorem q_mc33 : q_mcd (yX6_refusalOfEvent, cX6_refusalOfEvent, 3, some .int, 2, 517, 6) := List.mem_filter.mpr ⟨List.mem_of_getElem? (i := 517) rfl, rfl⟩
set_option maxRecDepth 100000 in
theorem q_mc34 : q_mcd (yX6_refusalOfMove, cX6_refusalOfMove, 5, some .int, 2, 521, 6) := List.mem_filter.mpr ⟨List.mem_of_getElem? (i := 521) rfl, rfl⟩
set_option maxRecDepth 100000 in
theorem q_mc35 : q_mcd (yX6_refusalOfSplit, cX6_refusalOfSplit, 5, some .int, 2, 524, 6) := List.mem_filter.mpr ⟨List.mem_of_getElem? (i := 524) rfl, rfl⟩
set_option maxRecDepth 100000 in
theorem q_mc36 : q_mcd (yX9_at, cX9_at, 3, some .int, 1, 528, 9) := List.mem_filter.mpr ⟨List.mem_of_getElem? (i := 528) rfl, rfl⟩
set_option maxRecDepth 100000 in
theorem q_mc37 : q_mcd (yX6_refusalOfMerge, cX6_refusalOfMerge, 5, some .int, 2, 531, 6) := List.mem_filter.mpr ⟨List.mem_of_getElem? (i := 531) rfl, rfl⟩
set_option maxRecDepth 100000 in
theorem q_mc38 : q_mcd (yX11_isParentFrom, cX11_isParentFrom, 5, some .boolean, 2, 535, 11) := List.mem_filter.mpr ⟨List.mem_of_getElem? (i := 535) rfl, rfl⟩
set_option maxRecDepth 100000 in
theorem q_mc39 : q_mcd (yX4_firstDayUnder, cX4_firstDayUnder, 3, some .int, 2, 539, 4) := List.mem_filter.mpr ⟨List.mem_of_getElem? (i := 539) rfl, rfl⟩
set_option maxRecDepth 100000 in
theorem q_mc40 : q_mcd (yX4_end, cX4_end, 1, some .int, 0, 543, 4) := List.mem_filter.mpr ⟨List.mem_of_getElem? (i := 543) rfl, rfl⟩
set_option maxRecDepth 100000 in
theorem q_mc41 : q_mcd (yX9_firstDayWith, cX9_firstDayWith, 6, some .int, 3, 547, 9) := List.mem_filter.mpr ⟨List.mem_of_getElem? (i := 547) rfl, rfl⟩
set_option maxRecDepth 100000 in
theorem q_mc42 : q_mcd (yX9_stopOf, cX9_stopOf, 2, some .int, 1, 554, 9) := List.mem_filter.mpr ⟨List.mem_of_getElem? (i := 554) rfl, rfl⟩
set_option maxRecDepth 100000 in
theorem q_mc43 : q_mcd (yJx4a65c_size_8abf5, cJx4a65c_size_8abf5, 1, some .int, 0, 561, 15) := List.mem_filter.mpr ⟨List.mem_of_getElem? (i := 561) rfl, rfl⟩
set_option maxRecDepth 100000 in
theorem q_mc44 : q_mcd (yX12_keepMark, cX12_keepMark, 2, none, 1, 565, 12) := List.mem_filter.mpr ⟨List.mem_of_getElem? (i := 565) rfl, rfl⟩
set_option maxRecDepth 100000 in
theorem q_mc45 : q_mcd (yJx4a65c_add_9ea2d, cJx4a65c_add_9ea2d, 2, some .boolean, 1, 572, 15) := List.mem_filter.mpr ⟨List.mem_of_getElem? (i := 572) rfl, rfl⟩
set_option maxRecDepth 100000 in
theorem q_mc46 : q_mcd (yJx4a65c_add_72be8, cJx4a65c_add_72be8, 4, none, 3, 576, 15) := List.mem_filter.mpr ⟨List.mem_of_getElem? (i := 576) rfl, rfl⟩
set_option maxRecDepth 100000 in
theorem q_mc47 : q_mcd (yJx4a65c_grow_d5877, cJx4a65c_grow_d5877, 1, some (.array (.object "java/lang/Object")), 0, 580, 15) := List.mem_filter.mpr ⟨List.mem_of_getElem? (i := 580) rfl, rfl⟩
set_option maxRecDepth 100000 in
theorem q_mc48 : q_mcd (yJx4a65c_grow_92f84, cJx4a65c_grow_92f84, 4, some (.array (.object "java/lang/Object")), 1, 584, 15) := List.mem_filter.mpr ⟨List.mem_of_getElem? (i := 584) rfl, rfl⟩
set_option maxRecDepth 100000 in
theorem q_mc49 : q_mcd (yJ8_newLength_cabcc, cJ8_newLength_cabcc, 4, some .int, 3, 587, 22) := List.mem_filter.mpr ⟨List.mem_of_getElem? (i := 587) rfl, rfl⟩
set_option maxRecDepth 100000 in
theorem q_mc50 : q_mcd (yJ8_hugeLength_7cf53, cJ8_hugeLength_7cf53, 3, some .int, 2, 592, 22) := List.mem_filter.mpr ⟨List.mem_of_getElem? (i := 592) rfl, rfl⟩
set_option maxRecDepth 100000 in
theorem q_mc51 : q_mcd (yJ7_copyOf_1904c, cJ7_copyOf_1904c, 2, some (.array (.object "java/lang/Object")), 2, 595, 18) := List.mem_filter.mpr ⟨List.mem_of_getElem? (i := 595) rfl, rfl⟩
set_option maxRecDepth 100000 in
theorem q_mc52 : q_mcd (yJ7_copyOf_6403c, cJ7_copyOf_6403c, 4, some (.array (.object "java/lang/Object")), 3, 616, 18) := List.mem_filter.mpr ⟨List.mem_of_getElem? (i := 616) rfl, rfl⟩
set_option maxRecDepth 100000 in
theorem q_mc53 : q_mcd (yX11_carryOut, cX11_carryOut, 3, some .int, 1, 627, 11) := List.mem_filter.mpr ⟨List.mem_of_getElem? (i := 627) rfl, rfl⟩
set_option maxRecDepth 100000 in
theorem q_mc54 : q_mcd (yX11_settle, cX11_settle, 7, some .int, 4, 631, 11) := List.mem_filter.mpr ⟨List.mem_of_getElem? (i := 631) rfl, rfl⟩
set_option maxRecDepth 100000 in
theorem q_mc55 : q_mcd (yX4_begin, cX4_begin, 6, none, 4, 636, 4) := List.mem_filter.mpr ⟨List.mem_of_getElem? (i := 636) rfl, rfl⟩
set_option maxRecDepth 100000 in
theorem q_mc56 : q_mcd (yX2_begin, cX2_begin, 4, none, 2, 640, 2) := List.mem_filter.mpr ⟨List.mem_of_getElem? (i := 640) rfl, rfl⟩
set_option maxRecDepth 100000 in
theorem q_mc57 : q_mcd (yX9_begin, cX9_begin, 3, none, 2, 644, 9) := List.mem_filter.mpr ⟨List.mem_of_getElem? (i := 644) rfl, rfl⟩
set_option maxRecDepth 100000 in
theorem q_mc58 : q_mcd (yX1_begin, cX1_begin, 3, none, 2, 648, 1) := List.mem_filter.mpr ⟨List.mem_of_getElem? (i := 648) rfl, rfl⟩
set_option maxRecDepth 100000 in
theorem q_mc59 : q_mcd (yX0_addLeaf, cX0_addLeaf, 3, some .int, 2, 652, 0) := List.mem_filter.mpr ⟨List.mem_of_getElem? (i := 652) rfl, rfl⟩
set_option maxRecDepth 100000 in
theorem q_mc60 : q_mcd (yX0_append, cX0_append, 4, some .int, 3, 656, 0) := List.mem_filter.mpr ⟨List.mem_of_getElem? (i := 656) rfl, rfl⟩
set_option maxRecDepth 100000 in
theorem q_mc61 : q_mcd (yJ7_copyOf_59c91, cJ7_copyOf_59c91, 3, some (.array (.int)), 2, 659, 18) := List.mem_filter.mpr ⟨List.mem_of_getElem? (i := 659) rfl, rfl⟩
set_option maxRecDepth 100000 in
theorem q_mc62 : q_mcd (yX0_addJoined, cX0_addJoined, 4, some .int, 3, 670, 0) := List.mem_filter.mpr ⟨List.mem_of_getElem? (i := 670) rfl, rfl⟩
set_option maxRecDepth 100000 in
theorem q_mc63 : q_mcd (yX0_has, cX0_has, 2, some .boolean, 1, 674, 0) := List.mem_filter.mpr ⟨List.mem_of_getElem? (i := 674) rfl, rfl⟩
set_option maxRecDepth 100000 in
theorem q_mc64 : q_mcd (yX0_remove, cX0_remove, 3, some .int, 1, 678, 0) := List.mem_filter.mpr ⟨List.mem_of_getElem? (i := 678) rfl, rfl⟩
set_option maxRecDepth 100000 in
theorem q_mc65 : q_mcd (yX11_giveName, cX11_giveName, 5, some .int, 3, 682, 11) := List.mem_filter.mpr ⟨List.mem_of_getElem? (i := 682) rfl, rfl⟩
set_option maxRecDepth 100000 in
theorem q_mc66 : q_mcd (yX2_at, cX2_at, 3, some .long, 1, 686, 2) := List.mem_filter.mpr ⟨List.mem_of_getElem? (i := 686) rfl, rfl⟩
set_option maxRecDepth 100000 in
theorem q_mc67 : q_mcd (yX10_lengthOf, cX10_lengthOf, 4, some .int, 1, 689, 10) := List.mem_filter.mpr ⟨List.mem_of_getElem? (i := 689) rfl, rfl⟩
set_option maxRecDepth 100000 in
theorem q_mc68 : q_mcd (yX10_letterOf, cX10_letterOf, 3, some .int, 2, 692, 10) := List.mem_filter.mpr ⟨List.mem_of_getElem? (i := 692) rfl, rfl⟩
set_option maxRecDepth 100000 in
theorem q_mc69 : q_mcd (yX2_append, cX2_append, 4, none, 2, 697, 2) := List.mem_filter.mpr ⟨List.mem_of_getElem? (i := 697) rfl, rfl⟩
set_option maxRecDepth 100000 in
theorem q_mc70 : q_mcd (yJ7_copyOf_c38d5, cJ7_copyOf_c38d5, 3, some (.array (.long)), 2, 701, 18) := List.mem_filter.mpr ⟨List.mem_of_getElem? (i := 701) rfl, rfl⟩
set_option maxRecDepth 100000 in
theorem q_mc71 : q_mcd (yX4_remember, cX4_remember, 4, none, 3, 710, 4) := List.mem_filter.mpr ⟨List.mem_of_getElem? (i := 710) rfl, rfl⟩
set_option maxRecDepth 100000 in
theorem q_mc72 : q_mcd (yX1_append, cX1_append, 4, none, 3, 714, 1) := List.mem_filter.mpr ⟨List.mem_of_getElem? (i := 714) rfl, rfl⟩
set_option maxRecDepth 100000 in
theorem q_mc73 : q_mcd (yX11_giveParent, cX11_giveParent, 4, some .int, 3, 717, 11) := List.mem_filter.mpr ⟨List.mem_of_getElem? (i := 717) rfl, rfl⟩
set_option maxRecDepth 100000 in
theorem q_mc74 : q_mcd (yX9_put, cX9_put, 3, none, 2, 722, 9) := List.mem_filter.mpr ⟨List.mem_of_getElem? (i := 722) rfl, rfl⟩
set_option maxRecDepth 100000 in
theorem q_mc75 : q_mcd (yX9_insert, cX9_insert, 5, none, 3, 726, 9) := List.mem_filter.mpr ⟨List.mem_of_getElem? (i := 726) rfl, rfl⟩
set_option maxRecDepth 100000 in
theorem q_mc76 : q_mcd (yX11_splitOff, cX11_splitOff, 8, some .int, 4, 731, 11) := List.mem_filter.mpr ⟨List.mem_of_getElem? (i := 731) rfl, rfl⟩
set_option maxRecDepth 100000 in
theorem q_mc77 : q_mcd (yX11_takeIn, cX11_takeIn, 10, some .int, 4, 735, 11) := List.mem_filter.mpr ⟨List.mem_of_getElem? (i := 735) rfl, rfl⟩
set_option maxRecDepth 100000 in
theorem q_mc78 : q_mcd (yX9_replace, cX9_replace, 5, none, 3, 740, 9) := List.mem_filter.mpr ⟨List.mem_of_getElem? (i := 740) rfl, rfl⟩
set_option maxRecDepth 100000 in
theorem q_mc79 : q_mcd (yX12_rename, cX12_rename, 3, some .int, 2, 744, 12) := List.mem_filter.mpr ⟨List.mem_of_getElem? (i := 744) rfl, rfl⟩
set_option maxRecDepth 100000 in
theorem q_mc80 : q_mcd (yX12_move, cX12_move, 4, some .int, 3, 748, 12) := List.mem_filter.mpr ⟨List.mem_of_getElem? (i := 748) rfl, rfl⟩
set_option maxRecDepth 100000 in
theorem q_mc81 : q_mcd (yX12_split, cX12_split, 3, some .int, 2, 752, 12) := List.mem_filter.mpr ⟨List.mem_of_getElem? (i := 752) rfl, rfl⟩
set_option maxRecDepth 100000 in
theorem q_mc82 : q_mcd (yX12_merge, cX12_merge, 4, some .int, 3, 756, 12) := List.mem_filter.mpr ⟨List.mem_of_getElem? (i := 756) rfl, rfl⟩
set_option maxRecDepth 100000 in
theorem q_mc83 : q_mcd (yX12_close, cX12_close, 3, some .int, 2, 760, 12) := List.mem_filter.mpr ⟨List.mem_of_getElem? (i := 760) rfl, rfl⟩
set_option maxRecDepth 100000 in
theorem q_mc84 : q_mcd (yX12_run, cX12_run, 7, some .int, 0, 764, 12) := List.mem_filter.mpr ⟨List.mem_of_getElem? (i := 764) rfl, rfl⟩
set_option maxRecDepth 100000 in
theorem q_mc85 : q_mcd (yX5_read, cX5_read, 3, some .int, 1, 768, 5) := List.mem_filter.mpr ⟨List.mem_of_getElem? (i := 768) rfl, rfl⟩
set_option maxRecDepth 100000 in
theorem q_mc86 : q_mcd (yJx4a65c_clear_da8c8, cJx4a65c_clear_da8c8, 4, none, 0, 772, 15) := List.mem_filter.mpr ⟨List.mem_of_getElem? (i := 772) rfl, rfl⟩
set_option maxRecDepth 100000 in
theorem q_mc87 : q_mcd (yX5_readCommand, cX5_readCommand, 6, some .boolean, 1, 776, 5) := List.mem_filter.mpr ⟨List.mem_of_getElem? (i := 776) rfl, rfl⟩
set_option maxRecDepth 100000 in
theorem q_mc88 : q_mcd (yX8_at, cX8_at, 2, some .int, 1, 780, 8) := List.mem_filter.mpr ⟨List.mem_of_getElem? (i := 780) rfl, rfl⟩
set_option maxRecDepth 100000 in
theorem q_mc89 : q_mcd (yX5_sortFor, cX5_sortFor, 1, some .int, 1, 783, 5) := List.mem_filter.mpr ⟨List.mem_of_getElem? (i := 783) rfl, rfl⟩
set_option maxRecDepth 100000 in
theorem q_mc90 : q_mcd (yX5_readKind, cX5_readKind, 2, some .boolean, 1, 787, 5) := List.mem_filter.mpr ⟨List.mem_of_getElem? (i := 787) rfl, rfl⟩
set_option maxRecDepth 100000 in
theorem q_mc91 : q_mcd (yX5_readNumber, cX5_readNumber, 3, some .boolean, 1, 791, 5) := List.mem_filter.mpr ⟨List.mem_of_getElem? (i := 791) rfl, rfl⟩
set_option maxRecDepth 100000 in
theorem q_mc92 : q_mcd (yX5_readSign, cX5_readSign, 3, some .boolean, 2, 795, 5) := List.mem_filter.mpr ⟨List.mem_of_getElem? (i := 795) rfl, rfl⟩
set_option maxRecDepth 100000 in
theorem q_mc93 : q_mcd (yX5_readWord, cX5_readWord, 3, some .boolean, 1, 799, 5) := List.mem_filter.mpr ⟨List.mem_of_getElem? (i := 799) rfl, rfl⟩
set_option maxRecDepth 100000 in
theorem q_mc94 : q_mcd (yX8_clear, cX8_clear, 1, none, 0, 809, 8) := List.mem_filter.mpr ⟨List.mem_of_getElem? (i := 809) rfl, rfl⟩
set_option maxRecDepth 100000 in
theorem q_mc95 : q_mcd (yX5_size, cX5_size, 1, some .int, 0, 813, 5) := List.mem_filter.mpr ⟨List.mem_of_getElem? (i := 813) rfl, rfl⟩
set_option maxRecDepth 100000 in
theorem q_mc96 : q_mcd (yX5_order, cX5_order, 2, some (.object "PlaceRegister$Order"), 1, 818, 5) := List.mem_filter.mpr ⟨List.mem_of_getElem? (i := 818) rfl, rfl⟩
set_option maxRecDepth 100000 in
theorem q_mc97 : q_mcd (yJx4a65c_get_915e3, cJx4a65c_get_915e3, 2, some (.object "java/lang/Object"), 1, 822, 15) := List.mem_filter.mpr ⟨List.mem_of_getElem? (i := 822) rfl, rfl⟩
set_option maxRecDepth 100000 in
theorem q_mc98 : q_mcd (yJ15_checkIndex_7cf53, cJ15_checkIndex_7cf53, 2, some .int, 2, 825, 21) := List.mem_filter.mpr ⟨List.mem_of_getElem? (i := 825) rfl, rfl⟩
set_option maxRecDepth 100000 in
theorem q_mc99 : q_mcd (yJ3_checkIndex_8e157, cJ3_checkIndex_8e157, 3, some .int, 3, 828, 23) := List.mem_filter.mpr ⟨List.mem_of_getElem? (i := 828) rfl, rfl⟩
set_option maxRecDepth 100000 in
theorem q_mc100 : q_mcd (yJx4a65c_elementData_915e3, cJx4a65c_elementData_915e3, 2, some (.object "java/lang/Object"), 1, 832, 15) := List.mem_filter.mpr ⟨List.mem_of_getElem? (i := 832) rfl, rfl⟩
set_option maxRecDepth 100000 in
theorem q_mc101 : q_mcd (yX12_cutJournal, cX12_cutJournal, 3, none, 1, 836, 12) := List.mem_filter.mpr ⟨List.mem_of_getElem? (i := 836) rfl, rfl⟩
set_option maxRecDepth 100000 in
theorem q_mc102 : q_mcd (yJx4a65c_remove_915e3, cJx4a65c_remove_915e3, 4, some (.object "java/lang/Object"), 1, 840, 15) := List.mem_filter.mpr ⟨List.mem_of_getElem? (i := 840) rfl, rfl⟩
set_option maxRecDepth 100000 in
theorem q_mc103 : q_mcd (yJx4a65c_fastRemove_b59b0, cJx4a65c_fastRemove_b59b0, 4, none, 2, 844, 15) := List.mem_filter.mpr ⟨List.mem_of_getElem? (i := 844) rfl, rfl⟩
set_option maxRecDepth 100000 in
theorem q_mc104 : q_mcd (yX12_tellAgain, cX12_tellAgain, 2, none, 0, 849, 12) := List.mem_filter.mpr ⟨List.mem_of_getElem? (i := 849) rfl, rfl⟩
set_option maxRecDepth 100000 in
theorem q_mc105 : q_mcd (yX11_clear, cX11_clear, 1, none, 0, 853, 11) := List.mem_filter.mpr ⟨List.mem_of_getElem? (i := 853) rfl, rfl⟩
set_option maxRecDepth 100000 in
theorem q_mc106 : q_mcd (yX0_clear, cX0_clear, 1, none, 0, 857, 0) := List.mem_filter.mpr ⟨List.mem_of_getElem? (i := 857) rfl, rfl⟩
set_option maxRecDepth 100000 in
theorem q_mc107 : q_mcd (yX12_reason, cX12_reason, 1, some .int, 0, 862, 12) := List.mem_filter.mpr ⟨List.mem_of_getElem? (i := 862) rfl, rfl⟩
set_option maxRecDepth 100000 in
theorem q_mc108 : q_mcd (yX12_on, cX12_on, 5, some .int, 3, 866, 12) := List.mem_filter.mpr ⟨List.mem_of_getElem? (i := 866) rfl, rfl⟩
set_option maxRecDepth 100000 in
theorem q_mc109 : q_mcd (yX4_existsOn, cX4_existsOn, 2, some .boolean, 1, 872, 4) := List.mem_filter.mpr ⟨List.mem_of_getElem? (i := 872) rfl, rfl⟩
set_option maxRecDepth 100000 in
theorem q_mc110 : q_mcd (yX11_heirOf, cX11_heirOf, 6, some .int, 2, 876, 11) := List.mem_filter.mpr ⟨List.mem_of_getElem? (i := 876) rfl, rfl⟩
set_option maxRecDepth 100000 in
theorem q_mc111 : q_mcd (yX12_partOn, cX12_partOn, 6, some .int, 4, 881, 12) := List.mem_filter.mpr ⟨List.mem_of_getElem? (i := 881) rfl, rfl⟩
set_option maxRecDepth 100000 in
theorem q_mc112 : q_mcd (yX11_parentsAbove, cX11_parentsAbove, 5, some .int, 2, 888, 11) := List.mem_filter.mpr ⟨List.mem_of_getElem? (i := 888) rfl, rfl⟩
set_option maxRecDepth 100000 in
theorem q_mc113 : q_mcd (yX11_childrenOf, cX11_childrenOf, 3, some .int, 2, 892, 11) := List.mem_filter.mpr ⟨List.mem_of_getElem? (i := 892) rfl, rfl⟩
set_option maxRecDepth 100000 in
theorem q_mc114 : q_mcd (yX11_leafSet, cX11_leafSet, 7, some .int, 3, 896, 11) := List.mem_filter.mpr ⟨List.mem_of_getElem? (i := 896) rfl, rfl⟩
set_option maxRecDepth 100000 in
theorem q_mc115 : q_mcd (yX11_isFitting, cX11_isFitting, 5, some .boolean, 4, 901, 11) := List.mem_filter.mpr ⟨List.mem_of_getElem? (i := 901) rfl, rfl⟩
set_option maxRecDepth 100000 in
theorem q_mc116 : q_mcd (yX11_isUnder, cX11_isUnder, 7, some .boolean, 3, 905, 11) := List.mem_filter.mpr ⟨List.mem_of_getElem? (i := 905) rfl, rfl⟩
set_option maxRecDepth 100000 in
theorem q_mc117 : q_mcd (yJ6_bitCount_0f7a4, cJ6_bitCount_0f7a4, 1, some .int, 1, 908, 20) := List.mem_filter.mpr ⟨List.mem_of_getElem? (i := 908) rfl, rfl⟩
set_option maxRecDepth 100000 in
theorem q_mc118 : q_mcd (yX12_of, cX12_of, 4, some .int, 2, 916, 12) := List.mem_filter.mpr ⟨List.mem_of_getElem? (i := 916) rfl, rfl⟩
set_option maxRecDepth 100000 in
theorem q_mc119 : q_mcd (yX2_size, cX2_size, 1, some .int, 0, 920, 2) := List.mem_filter.mpr ⟨List.mem_of_getElem? (i := 920) rfl, rfl⟩
set_option maxRecDepth 100000 in
theorem q_mc120 : q_mcd (yX1_told, cX1_told, 1, some .int, 0, 924, 1) := List.mem_filter.mpr ⟨List.mem_of_getElem? (i := 924) rfl, rfl⟩
set_option maxRecDepth 100000 in
theorem q_mc121 : q_mcd (yX12_event, cX12_event, 5, some .int, 3, 928, 12) := List.mem_filter.mpr ⟨List.mem_of_getElem? (i := 928) rfl, rfl⟩
set_option maxRecDepth 100000 in
theorem q_mc122 : q_mcd (yX1_kept, cX1_kept, 1, some .int, 0, 932, 1) := List.mem_filter.mpr ⟨List.mem_of_getElem? (i := 932) rfl, rfl⟩
set_option maxRecDepth 100000 in
theorem q_mc123 : q_mcd (yX1_dayOf, cX1_dayOf, 2, some .int, 1, 937, 1) := List.mem_filter.mpr ⟨List.mem_of_getElem? (i := 937) rfl, rfl⟩
set_option maxRecDepth 100000 in
theorem q_mc124 : q_mcd (yX1_sortOf, cX1_sortOf, 2, some .int, 1, 942, 1) := List.mem_filter.mpr ⟨List.mem_of_getElem? (i := 942) rfl, rfl⟩
set_option maxRecDepth 100000 in
theorem q_mc125 : q_mcd (yX1_numberOf, cX1_numberOf, 2, some .int, 1, 946, 1) := List.mem_filter.mpr ⟨List.mem_of_getElem? (i := 946) rfl, rfl⟩
set_option maxRecDepth 100000 in
theorem q_mc126 : q_mcd (yX12_again, cX12_again, 4, some .int, 2, 950, 12) := List.mem_filter.mpr ⟨List.mem_of_getElem? (i := 950) rfl, rfl⟩
set_option maxRecDepth 100000 in
theorem q_mc127 : q_mcd (yX1_parentOn, cX1_parentOn, 5, some .int, 2, 954, 1) := List.mem_filter.mpr ⟨List.mem_of_getElem? (i := 954) rfl, rfl⟩
set_option maxRecDepth 100000 in
theorem q_mc128 : q_mcd (yX12_lookup, cX12_lookup, 6, some .int, 2, 962, 12) := List.mem_filter.mpr ⟨List.mem_of_getElem? (i := 962) rfl, rfl⟩
set_option maxRecDepth 100000 in
theorem q_mc129 : q_mcd (yX12_keepHits, cX12_keepHits, 7, none, 3, 966, 12) := List.mem_filter.mpr ⟨List.mem_of_getElem? (i := 966) rfl, rfl⟩
set_option maxRecDepth 100000 in
theorem q_mc130 : q_mcd (yX11_size, cX11_size, 1, some .int, 0, 970, 11) := List.mem_filter.mpr ⟨List.mem_of_getElem? (i := 970) rfl, rfl⟩
set_option maxRecDepth 100000 in
theorem q_mc131 : q_mcd (yX7_distance, cX7_distance, 8, some .int, 2, 974, 7) := List.mem_filter.mpr ⟨List.mem_of_getElem? (i := 974) rfl, rfl⟩
set_option maxRecDepth 100000 in
theorem q_mc132 : q_mcd (yX7_nextRow, cX7_nextRow, 9, none, 3, 980, 7) := List.mem_filter.mpr ⟨List.mem_of_getElem? (i := 980) rfl, rfl⟩
set_option maxRecDepth 100000 in
theorem q_mc133 : q_mcd (yX12_sought, cX12_sought, 2, some .int, 1, 985, 12) := List.mem_filter.mpr ⟨List.mem_of_getElem? (i := 985) rfl, rfl⟩
set_option maxRecDepth 100000 in
theorem q_mc134 : q_mcd (yX12_filter, cX12_filter, 3, some .int, 2, 989, 12) := List.mem_filter.mpr ⟨List.mem_of_getElem? (i := 989) rfl, rfl⟩
set_option maxRecDepth 100000 in
theorem q_mc135 : q_mcd (yX0_size, cX0_size, 1, some .int, 0, 993, 0) := List.mem_filter.mpr ⟨List.mem_of_getElem? (i := 993) rfl, rfl⟩
set_option maxRecDepth 100000 in
theorem q_mc136 : q_mcd (yX12_join, cX12_join, 4, some .int, 3, 997, 12) := List.mem_filter.mpr ⟨List.mem_of_getElem? (i := 997) rfl, rfl⟩
set_option maxRecDepth 100000 in
theorem q_mc137 : q_mcd (yX12_drop, cX12_drop, 2, some .int, 1, 1002, 12) := List.mem_filter.mpr ⟨List.mem_of_getElem? (i := 1002) rfl, rfl⟩
set_option maxRecDepth 100000 in
theorem q_mc138 : q_mcd (yX12_fits, cX12_fits, 3, some .int, 2, 1006, 12) := List.mem_filter.mpr ⟨List.mem_of_getElem? (i := 1006) rfl, rfl⟩
set_option maxRecDepth 100000 in
theorem q_mc139 : q_mcd (yX0_setOn, cX0_setOn, 6, some .int, 3, 1010, 0) := List.mem_filter.mpr ⟨List.mem_of_getElem? (i := 1010) rfl, rfl⟩
set_option maxRecDepth 100000 in
theorem q_mc140 : q_mcd (yX0_setOfNode, cX0_setOfNode, 4, some .int, 3, 1014, 0) := List.mem_filter.mpr ⟨List.mem_of_getElem? (i := 1014) rfl, rfl⟩
set_option maxRecDepth 100000 in
theorem q_mc141 : q_mcd (yX0_setAt, cX0_setAt, 2, some .int, 1, 1018, 0) := List.mem_filter.mpr ⟨List.mem_of_getElem? (i := 1018) rfl, rfl⟩
set_option maxRecDepth 100000 in
theorem q_mc142 : q_mcd (yX11_existingOn, cX11_existingOn, 5, some .int, 1, 1022, 11) := List.mem_filter.mpr ⟨List.mem_of_getElem? (i := 1022) rfl, rfl⟩
set_option maxRecDepth 100000 in
theorem q_mc143 : q_mcd (yX12_write, cX12_write, 3, some .int, 1, 1027, 12) := List.mem_filter.mpr ⟨List.mem_of_getElem? (i := 1027) rfl, rfl⟩
set_option maxRecDepth 100000 in
theorem q_mc144 : q_mcd (yJ4_setLength_d00df, cJ4_setLength_d00df, 2, none, 1, 1031, 14) := List.mem_filter.mpr ⟨List.mem_of_getElem? (i := 1031) rfl, rfl⟩
set_option maxRecDepth 100000 in
theorem q_mc145 : q_mcd (yJ5_setLength_d00df, cJ5_setLength_d00df, 2, none, 1, 1034, 17) := List.mem_filter.mpr ⟨List.mem_of_getElem? (i := 1034) rfl, rfl⟩
set_option maxRecDepth 100000 in
theorem q_mc146 : q_mcd (yJ5_ensureCapacityInternal_d00df, cJ5_ensureCapacityInternal_d00df, 3, none, 1, 1038, 17) := List.mem_filter.mpr ⟨List.mem_of_getElem? (i := 1038) rfl, rfl⟩
set_option maxRecDepth 100000 in
theorem q_mc147 : q_mcd (yJ5_newCapacity_0f7a4, cJ5_newCapacity_0f7a4, 6, some .int, 1, 1042, 17) := List.mem_filter.mpr ⟨List.mem_of_getElem? (i := 1042) rfl, rfl⟩
set_option maxRecDepth 100000 in
theorem q_mc148 : q_mcd (yJ7_copyOf_9075b, cJ7_copyOf_9075b, 3, some (.array (.byte)), 2, 1047, 18) := List.mem_filter.mpr ⟨List.mem_of_getElem? (i := 1047) rfl, rfl⟩
set_option maxRecDepth 100000 in
theorem q_mc149 : q_mcd (yJ5_isLatin1_aae02, cJ5_isLatin1_aae02, 1, some .boolean, 0, 1057, 17) := List.mem_filter.mpr ⟨List.mem_of_getElem? (i := 1057) rfl, rfl⟩
set_option maxRecDepth 100000 in
theorem q_mc150 : q_mcd (yJ1_fillNull_b72d1, cJ1_fillNull_b72d1, 3, none, 3, 1060, 27) := List.mem_filter.mpr ⟨List.mem_of_getElem? (i := 1060) rfl, rfl⟩
set_option maxRecDepth 100000 in
theorem q_mc151 : q_mcd (yJ7_fill_eb02e, cJ7_fill_eb02e, 5, none, 4, 1063, 18) := List.mem_filter.mpr ⟨List.mem_of_getElem? (i := 1063) rfl, rfl⟩
set_option maxRecDepth 100000 in
theorem q_mc152 : q_mcd (yJ7_rangeCheck_23922, cJ7_rangeCheck_23922, 3, none, 3, 1066, 18) := List.mem_filter.mpr ⟨List.mem_of_getElem? (i := 1066) rfl, rfl⟩
set_option maxRecDepth 100000 in
theorem q_mc153 : q_mcd (yX1_print, cX1_print, 4, none, 1, 1074, 1) := List.mem_filter.mpr ⟨List.mem_of_getElem? (i := 1074) rfl, rfl⟩
set_option maxRecDepth 100000 in
theorem q_mc154 : q_mcd (yJ4_append_cf468, cJ4_append_cf468, 2, some (.object "java/lang/StringBuilder"), 1, 1078, 14) := List.mem_filter.mpr ⟨List.mem_of_getElem? (i := 1078) rfl, rfl⟩
set_option maxRecDepth 100000 in
theorem q_mc155 : q_mcd (yJ5_append_3fe6f, cJ5_append_3fe6f, 2, some (.object "java/lang/AbstractStringBuilder"), 1, 1081, 17) := List.mem_filter.mpr ⟨List.mem_of_getElem? (i := 1081) rfl, rfl⟩
set_option maxRecDepth 100000 in
theorem q_mc156 : q_mcd (yJ1_canEncode_fc78d, cJ1_canEncode_fc78d, 1, some .boolean, 1, 1084, 27) := List.mem_filter.mpr ⟨List.mem_of_getElem? (i := 1084) rfl, rfl⟩
set_option maxRecDepth 100000 in
theorem q_mc157 : q_mcd (yJ5_inflate_da8c8, cJ5_inflate_da8c8, 2, none, 0, 1088, 17) := List.mem_filter.mpr ⟨List.mem_of_getElem? (i := 1088) rfl, rfl⟩
set_option maxRecDepth 100000 in
theorem q_mc158 : q_mcd (yJ1_inflate_0e8fd, cJ1_inflate_0e8fd, 5, none, 5, 1091, 27) := List.mem_filter.mpr ⟨List.mem_of_getElem? (i := 1091) rfl, rfl⟩
set_option maxRecDepth 100000 in
theorem q_mc159 : q_mcd (yJ0_checkBoundsOffCount_cabcc, cJ0_checkBoundsOffCount_cabcc, 3, some .int, 3, 1103, 26) := List.mem_filter.mpr ⟨List.mem_of_getElem? (i := 1103) rfl, rfl⟩
set_option maxRecDepth 100000 in
theorem q_mc160 : q_mcd (yJ3_checkFromIndexSize_8c36e, cJ3_checkFromIndexSize_8c36e, 4, some .int, 4, 1108, 23) := List.mem_filter.mpr ⟨List.mem_of_getElem? (i := 1108) rfl, rfl⟩
set_option maxRecDepth 100000 in
theorem q_mc161 : q_mcd (yJ0_checkIndex_df160, cJ0_checkIndex_df160, 2, none, 2, 1126, 26) := List.mem_filter.mpr ⟨List.mem_of_getElem? (i := 1126) rfl, rfl⟩
set_option maxRecDepth 100000 in
theorem q_mc162 : q_mcd (yJ0_length_8abf5, cJ0_length_8abf5, 1, some .int, 0, 1132, 26) := List.mem_filter.mpr ⟨List.mem_of_getElem? (i := 1132) rfl, rfl⟩
set_option maxRecDepth 100000 in
theorem q_mc163 : q_mcd (yJ0_coder_7d493, cJ0_coder_7d493, 1, some .byte, 0, 1136, 26) := List.mem_filter.mpr ⟨List.mem_of_getElem? (i := 1136) rfl, rfl⟩
set_option maxRecDepth 100000 in
theorem q_mc164 : q_mcd (yJ0_charAt_5068e, cJ0_charAt_5068e, 2, some .char, 1, 1141, 26) := List.mem_filter.mpr ⟨List.mem_of_getElem? (i := 1141) rfl, rfl⟩
set_option maxRecDepth 100000 in
theorem q_mc165 : q_mcd (yJ0_isLatin1_aae02, cJ0_isLatin1_aae02, 1, some .boolean, 0, 1145, 26) := List.mem_filter.mpr ⟨List.mem_of_getElem? (i := 1145) rfl, rfl⟩
set_option maxRecDepth 100000 in
theorem q_mc166 : q_mcd (yJ1_charAt_3b067, cJ1_charAt_3b067, 2, some .char, 2, 1148, 27) := List.mem_filter.mpr ⟨List.mem_of_getElem? (i := 1148) rfl, rfl⟩
set_option maxRecDepth 100000 in
theorem q_mc167 : q_mcd (yJ4_append_bf812, cJ4_append_bf812, 2, some (.object "java/lang/StringBuilder"), 1, 1159, 14) := List.mem_filter.mpr ⟨List.mem_of_getElem? (i := 1159) rfl, rfl⟩
set_option maxRecDepth 100000 in
theorem q_mc168 : q_mcd (yJ5_append_c97b9, cJ5_append_c97b9, 4, some (.object "java/lang/AbstractStringBuilder"), 1, 1162, 17) := List.mem_filter.mpr ⟨List.mem_of_getElem? (i := 1162) rfl, rfl⟩
set_option maxRecDepth 100000 in
theorem q_mc169 : q_mcd (yJ6_stringSize_0f7a4, cJ6_stringSize_0f7a4, 4, some .int, 1, 1165, 20) := List.mem_filter.mpr ⟨List.mem_of_getElem? (i := 1165) rfl, rfl⟩
set_option maxRecDepth 100000 in
theorem q_mc170 : q_mcd (yJ6_getChars_ba4f3, cJ6_getChars_ba4f3, 7, some .int, 3, 1168, 20) := List.mem_filter.mpr ⟨List.mem_of_getElem? (i := 1168) rfl, rfl⟩
set_option maxRecDepth 100000 in
theorem q_mc171 : q_mcd (yJ0_checkBoundsBeginEnd_23922, cJ0_checkBoundsBeginEnd_23922, 3, none, 3, 1181, 26) := List.mem_filter.mpr ⟨List.mem_of_getElem? (i := 1181) rfl, rfl⟩
set_option maxRecDepth 100000 in
theorem q_mc172 : q_mcd (yJ3_checkFromToIndex_8c36e, cJ3_checkFromToIndex_8c36e, 4, some .int, 4, 1184, 23) := List.mem_filter.mpr ⟨List.mem_of_getElem? (i := 1184) rfl, rfl⟩
set_option maxRecDepth 100000 in
theorem q_mc173 : q_mcd (yJ4_length_8abf5, cJ4_length_8abf5, 1, some .int, 0, 1193, 14) := List.mem_filter.mpr ⟨List.mem_of_getElem? (i := 1193) rfl, rfl⟩
set_option maxRecDepth 100000 in
theorem q_mc174 : q_mcd (yJ5_length_8abf5, cJ5_length_8abf5, 1, some .int, 0, 1196, 17) := List.mem_filter.mpr ⟨List.mem_of_getElem? (i := 1196) rfl, rfl⟩
set_option maxRecDepth 100000 in
theorem q_mc175 : q_mcd (yX12_paper, cX12_paper, 2, some .int, 1, 1200, 12) := List.mem_filter.mpr ⟨List.mem_of_getElem? (i := 1200) rfl, rfl⟩
set_option maxRecDepth 100000 in
theorem q_mc176 : q_mcd (yJ4_charAt_5068e, cJ4_charAt_5068e, 2, some .char, 1, 1204, 14) := List.mem_filter.mpr ⟨List.mem_of_getElem? (i := 1204) rfl, rfl⟩
set_option maxRecDepth 100000 in
theorem q_mc177 : q_mcd (yJ5_charAt_5068e, cJ5_charAt_5068e, 5, some .char, 1, 1207, 17) := List.mem_filter.mpr ⟨List.mem_of_getElem? (i := 1207) rfl, rfl⟩
set_option maxRecDepth 100000 in
theorem q_mc178 : q_mcd (yX12_changed, cX12_changed, 6, some .int, 2, 1214, 12) := List.mem_filter.mpr ⟨List.mem_of_getElem? (i := 1214) rfl, rfl⟩
set_option maxRecDepth 100000 in
theorem q_mc179 : q_mcd (yX4_differsOn, cX4_differsOn, 3, some .boolean, 2, 1218, 4) := List.mem_filter.mpr ⟨List.mem_of_getElem? (i := 1218) rfl, rfl⟩
set_option maxRecDepth 100000 in
theorem q_mc180 : q_mcd (yX12_longest, cX12_longest, 5, some .int, 2, 1225, 12) := List.mem_filter.mpr ⟨List.mem_of_getElem? (i := 1225) rfl, rfl⟩
set_option maxRecDepth 100000 in
theorem q_mc181 : q_mcd (yX2_longestHeld, cX2_longestHeld, 4, some .int, 1, 1230, 2) := List.mem_filter.mpr ⟨List.mem_of_getElem? (i := 1230) rfl, rfl⟩
set_option maxRecDepth 100000 in
theorem q_mc182 : q_mcd (yX2_daysOf, cX2_daysOf, 3, some .int, 2, 1234, 2) := List.mem_filter.mpr ⟨List.mem_of_getElem? (i := 1234) rfl, rfl⟩
set_option maxRecDepth 100000 in
theorem q_mc183 : q_mcd (yX2_dayOf, cX2_dayOf, 2, some .int, 1, 1238, 2) := List.mem_filter.mpr ⟨List.mem_of_getElem? (i := 1238) rfl, rfl⟩
set_option maxRecDepth 100000 in
theorem q_mc184 : q_mcd (yX2_wordOf, cX2_wordOf, 2, some .long, 1, 1244, 2) := List.mem_filter.mpr ⟨List.mem_of_getElem? (i := 1244) rfl, rfl⟩
set_option maxRecDepth 100000 in
theorem q_mc185 : q_mcd (yX12_account, cX12_account, 3, some .int, 2, 1248, 12) := List.mem_filter.mpr ⟨List.mem_of_getElem? (i := 1248) rfl, rfl⟩
set_option maxRecDepth 100000 in
theorem q_mc186 : q_mcd (yX11_notFoundedOn, cX11_notFoundedOn, 5, some .int, 1, 1254, 11) := List.mem_filter.mpr ⟨List.mem_of_getElem? (i := 1254) rfl, rfl⟩
set_option maxRecDepth 100000 in
theorem q_mc187 : q_mcd (yX11_endedOn, cX11_endedOn, 5, some .int, 1, 1258, 11) := List.mem_filter.mpr ⟨List.mem_of_getElem? (i := 1258) rfl, rfl⟩
set_option maxRecDepth 100000 in
theorem q_mc188 : q_mcd (yX11_differentNamesOn, cX11_differentNamesOn, 4, some .int, 1, 1262, 11) := List.mem_filter.mpr ⟨List.mem_of_getElem? (i := 1262) rfl, rfl⟩
set_option maxRecDepth 100000 in
theorem q_mc189 : q_mcd (yX11_isFirstOfItsName, cX11_isFirstOfItsName, 6, some .boolean, 2, 1266, 11) := List.mem_filter.mpr ⟨List.mem_of_getElem? (i := 1266) rfl, rfl⟩
set_option maxRecDepth 100000 in
theorem q_mc190 : q_mcd (yX11_mostChildrenOn, cX11_mostChildrenOn, 4, some .int, 1, 1270, 11) := List.mem_filter.mpr ⟨List.mem_of_getElem? (i := 1270) rfl, rfl⟩
set_option maxRecDepth 100000 in
theorem q_mc191 : q_mcd (yX12_back, cX12_back, 1, some .int, 0, 1277, 12) := List.mem_filter.mpr ⟨List.mem_of_getElem? (i := 1277) rfl, rfl⟩
set_option maxRecDepth 100000 in
theorem q_mc192 : q_mcd (yX12_image, cX12_image, 1, some .int, 0, 1281, 12) := List.mem_filter.mpr ⟨List.mem_of_getElem? (i := 1281) rfl, rfl⟩
set_option maxRecDepth 100000 in
theorem q_mc193 : q_mcd (yX12_copyOrders, cX12_copyOrders, 3, none, 2, 1284, 12) := List.mem_filter.mpr ⟨List.mem_of_getElem? (i := 1284) rfl, rfl⟩
set_option maxRecDepth 100000 in
theorem q_mc194 : q_mcd (yX12_undo, cX12_undo, 1, some .int, 0, 1289, 12) := List.mem_filter.mpr ⟨List.mem_of_getElem? (i := 1289) rfl, rfl⟩
set_option maxRecDepth 100000 in
theorem q_mc195 : q_mcd (yX12_count, cX12_count, 2, some .int, 1, 1293, 12) := List.mem_filter.mpr ⟨List.mem_of_getElem? (i := 1293) rfl, rfl⟩
set_option maxRecDepth 100000 in
theorem q_mc196 : q_mcd (yX13_init, cX13_init, 1, none, 0, 1298, 13) := List.mem_filter.mpr ⟨List.mem_of_getElem? (i := 1298) rfl, rfl⟩
set_option maxRecDepth 100000 in
theorem q_mc197 : q_mcd (yX13_feed, cX13_feed, 8, some .int, 6, 1356, 13) := List.mem_filter.mpr ⟨List.mem_of_getElem? (i := 1356) rfl, rfl⟩
set_option maxRecDepth 100000 in
theorem q_mc198 : q_mcd (yX13_in, cX13_in, 3, some .boolean, 3, 1359, 13) := List.mem_filter.mpr ⟨List.mem_of_getElem? (i := 1359) rfl, rfl⟩
set_option maxRecDepth 100000 in
theorem q_mc199 : q_mcd (yX13_found, cX13_found, 6, some .int, 3, 1363, 13) := List.mem_filter.mpr ⟨List.mem_of_getElem? (i := 1363) rfl, rfl⟩
set_option maxRecDepth 100000 in
theorem q_mc200 : q_mcd (yX13_isOneWord, cX13_isOneWord, 2, some .boolean, 0, 1367, 13) := List.mem_filter.mpr ⟨List.mem_of_getElem? (i := 1367) rfl, rfl⟩
set_option maxRecDepth 100000 in
theorem q_mc201 : q_mcd (yX13_readsWord, cX13_readsWord, 1, none, 0, 1371, 13) := List.mem_filter.mpr ⟨List.mem_of_getElem? (i := 1371) rfl, rfl⟩
set_option maxRecDepth 100000 in
theorem q_mc202 : q_mcd (yX13_here, cX13_here, 1, some .int, 0, 1375, 13) := List.mem_filter.mpr ⟨List.mem_of_getElem? (i := 1375) rfl, rfl⟩
set_option maxRecDepth 100000 in
theorem q_mc203 : q_mcd (yX13_fails, cX13_fails, 1, none, 0, 1379, 13) := List.mem_filter.mpr ⟨List.mem_of_getElem? (i := 1379) rfl, rfl⟩
set_option maxRecDepth 100000 in
theorem q_mc204 : q_mcd (yX13_noFounding, cX13_noFounding, 4, some .int, 3, 1383, 13) := List.mem_filter.mpr ⟨List.mem_of_getElem? (i := 1383) rfl, rfl⟩
set_option maxRecDepth 100000 in
theorem q_mc205 : q_mcd (yX13_isPlace, cX13_isPlace, 2, some .boolean, 1, 1387, 13) := List.mem_filter.mpr ⟨List.mem_of_getElem? (i := 1387) rfl, rfl⟩
set_option maxRecDepth 100000 in
theorem q_mc206 : q_mcd (yX13_isDay, cX13_isDay, 1, some .boolean, 1, 1390, 13) := List.mem_filter.mpr ⟨List.mem_of_getElem? (i := 1390) rfl, rfl⟩
set_option maxRecDepth 100000 in
theorem q_mc207 : q_mcd (yX13_has, cX13_has, 3, some .int, 2, 1394, 13) := List.mem_filter.mpr ⟨List.mem_of_getElem? (i := 1394) rfl, rfl⟩
set_option maxRecDepth 100000 in
theorem q_mc208 : q_mcd (yX13_canBeParent, cX13_canBeParent, 3, some .boolean, 2, 1398, 13) := List.mem_filter.mpr ⟨List.mem_of_getElem? (i := 1398) rfl, rfl⟩
set_option maxRecDepth 100000 in
theorem q_mc209 : q_mcd (yX13_hasEnded, cX13_hasEnded, 2, some .boolean, 1, 1402, 13) := List.mem_filter.mpr ⟨List.mem_of_getElem? (i := 1402) rfl, rfl⟩
set_option maxRecDepth 100000 in
theorem q_mc210 : q_mcd (yX13_refuse, cX13_refuse, 2, some .int, 1, 1406, 13) := List.mem_filter.mpr ⟨List.mem_of_getElem? (i := 1406) rfl, rfl⟩
set_option maxRecDepth 100000 in
theorem q_mc211 : q_mcd (yX13_keeps, cX13_keeps, 2, none, 0, 1410, 13) := List.mem_filter.mpr ⟨List.mem_of_getElem? (i := 1410) rfl, rfl⟩
set_option maxRecDepth 100000 in
theorem q_mc212 : q_mcd (yX13_copies, cX13_copies, 4, none, 2, 1414, 13) := List.mem_filter.mpr ⟨List.mem_of_getElem? (i := 1414) rfl, rfl⟩
set_option maxRecDepth 100000 in
theorem q_mc213 : q_mcd (yX13_founds, cX13_founds, 6, some .int, 3, 1418, 13) := List.mem_filter.mpr ⟨List.mem_of_getElem? (i := 1418) rfl, rfl⟩
set_option maxRecDepth 100000 in
theorem q_mc214 : q_mcd (yX13_lays, cX13_lays, 4, none, 3, 1422, 13) := List.mem_filter.mpr ⟨List.mem_of_getElem? (i := 1422) rfl, rfl⟩
set_option maxRecDepth 100000 in
theorem q_mc215 : q_mcd (yX13_tellsParent, cX13_tellsParent, 5, none, 3, 1426, 13) := List.mem_filter.mpr ⟨List.mem_of_getElem? (i := 1426) rfl, rfl⟩
set_option maxRecDepth 100000 in
theorem q_mc216 : q_mcd (yX13_names, cX13_names, 5, none, 2, 1430, 13) := List.mem_filter.mpr ⟨List.mem_of_getElem? (i := 1430) rfl, rfl⟩
set_option maxRecDepth 100000 in
theorem q_mc217 : q_mcd (yX13_happens, cX13_happens, 6, none, 4, 1434, 13) := List.mem_filter.mpr ⟨List.mem_of_getElem? (i := 1434) rfl, rfl⟩
set_option maxRecDepth 100000 in
theorem q_mc218 : q_mcd (yX13_rename, cX13_rename, 4, some .int, 2, 1438, 13) := List.mem_filter.mpr ⟨List.mem_of_getElem? (i := 1438) rfl, rfl⟩
set_option maxRecDepth 100000 in
theorem q_mc219 : q_mcd (yX13_noEvent, cX13_noEvent, 3, some .int, 2, 1442, 13) := List.mem_filter.mpr ⟨List.mem_of_getElem? (i := 1442) rfl, rfl⟩
set_option maxRecDepth 100000 in
theorem q_mc220 : q_mcd (yX13_isWrongDay, cX13_isWrongDay, 3, some .boolean, 2, 1446, 13) := List.mem_filter.mpr ⟨List.mem_of_getElem? (i := 1446) rfl, rfl⟩
set_option maxRecDepth 100000 in
theorem q_mc221 : q_mcd (yX13_renames, cX13_renames, 4, some .int, 2, 1450, 13) := List.mem_filter.mpr ⟨List.mem_of_getElem? (i := 1450) rfl, rfl⟩
set_option maxRecDepth 100000 in
theorem q_mc222 : q_mcd (yX13_lengthOn, cX13_lengthOn, 3, some .int, 2, 1454, 13) := List.mem_filter.mpr ⟨List.mem_of_getElem? (i := 1454) rfl, rfl⟩
set_option maxRecDepth 100000 in
theorem q_mc223 : q_mcd (yX13_nameOn, cX13_nameOn, 6, some .int, 2, 1458, 13) := List.mem_filter.mpr ⟨List.mem_of_getElem? (i := 1458) rfl, rfl⟩
set_option maxRecDepth 100000 in
theorem q_mc224 : q_mcd (yX13_move, cX13_move, 5, some .int, 3, 1462, 13) := List.mem_filter.mpr ⟨List.mem_of_getElem? (i := 1462) rfl, rfl⟩
set_option maxRecDepth 100000 in
theorem q_mc225 : q_mcd (yX13_noMove, cX13_noMove, 5, some .int, 3, 1466, 13) := List.mem_filter.mpr ⟨List.mem_of_getElem? (i := 1466) rfl, rfl⟩
set_option maxRecDepth 100000 in
theorem q_mc226 : q_mcd (yX13_moves, cX13_moves, 5, some .int, 3, 1470, 13) := List.mem_filter.mpr ⟨List.mem_of_getElem? (i := 1470) rfl, rfl⟩
set_option maxRecDepth 100000 in
theorem q_mc227 : q_mcd (yX13_parentOn, cX13_parentOn, 6, some .int, 2, 1474, 13) := List.mem_filter.mpr ⟨List.mem_of_getElem? (i := 1474) rfl, rfl⟩
set_option maxRecDepth 100000 in
theorem q_mc228 : q_mcd (yX13_split, cX13_split, 4, some .int, 2, 1478, 13) := List.mem_filter.mpr ⟨List.mem_of_getElem? (i := 1478) rfl, rfl⟩
set_option maxRecDepth 100000 in
theorem q_mc229 : q_mcd (yX13_noSplit, cX13_noSplit, 4, some .int, 2, 1482, 13) := List.mem_filter.mpr ⟨List.mem_of_getElem? (i := 1482) rfl, rfl⟩
set_option maxRecDepth 100000 in
theorem q_mc230 : q_mcd (yX13_splits, cX13_splits, 4, some .int, 2, 1486, 13) := List.mem_filter.mpr ⟨List.mem_of_getElem? (i := 1486) rfl, rfl⟩
set_option maxRecDepth 100000 in
theorem q_mc231 : q_mcd (yX13_merge, cX13_merge, 5, some .int, 3, 1490, 13) := List.mem_filter.mpr ⟨List.mem_of_getElem? (i := 1490) rfl, rfl⟩
set_option maxRecDepth 100000 in
theorem q_mc232 : q_mcd (yX13_noMerge, cX13_noMerge, 5, some .int, 3, 1494, 13) := List.mem_filter.mpr ⟨List.mem_of_getElem? (i := 1494) rfl, rfl⟩
set_option maxRecDepth 100000 in
theorem q_mc233 : q_mcd (yX13_merges, cX13_merges, 7, some .int, 3, 1498, 13) := List.mem_filter.mpr ⟨List.mem_of_getElem? (i := 1498) rfl, rfl⟩
set_option maxRecDepth 100000 in
theorem q_mc234 : q_mcd (yX13_firstDay, cX13_firstDay, 8, some .int, 3, 1502, 13) := List.mem_filter.mpr ⟨List.mem_of_getElem? (i := 1502) rfl, rfl⟩
set_option maxRecDepth 100000 in
theorem q_mc235 : q_mcd (yX13_exists, cX13_exists, 3, some .boolean, 2, 1506, 13) := List.mem_filter.mpr ⟨List.mem_of_getElem? (i := 1506) rfl, rfl⟩
set_option maxRecDepth 100000 in
theorem q_mc236 : q_mcd (yX13_close, cX13_close, 4, some .int, 2, 1510, 13) := List.mem_filter.mpr ⟨List.mem_of_getElem? (i := 1510) rfl, rfl⟩
set_option maxRecDepth 100000 in
theorem q_mc237 : q_mcd (yX13_noClosing, cX13_noClosing, 5, some .int, 2, 1514, 13) := List.mem_filter.mpr ⟨List.mem_of_getElem? (i := 1514) rfl, rfl⟩
set_option maxRecDepth 100000 in
theorem q_mc238 : q_mcd (yX13_closes, cX13_closes, 3, some .int, 2, 1518, 13) := List.mem_filter.mpr ⟨List.mem_of_getElem? (i := 1518) rfl, rfl⟩
set_option maxRecDepth 100000 in
theorem q_mc239 : q_mcd (yX13_run, cX13_run, 3, some .int, 0, 1522, 13) := List.mem_filter.mpr ⟨List.mem_of_getElem? (i := 1522) rfl, rfl⟩
set_option maxRecDepth 100000 in
theorem q_mc240 : q_mcd (yX13_command, cX13_command, 4, none, 0, 1526, 13) := List.mem_filter.mpr ⟨List.mem_of_getElem? (i := 1526) rfl, rfl⟩
set_option maxRecDepth 100000 in
theorem q_mc241 : q_mcd (yX13_sign, cX13_sign, 3, some .int, 2, 1530, 13) := List.mem_filter.mpr ⟨List.mem_of_getElem? (i := 1530) rfl, rfl⟩
set_option maxRecDepth 100000 in
theorem q_mc242 : q_mcd (yX13_must, cX13_must, 3, none, 1, 1534, 13) := List.mem_filter.mpr ⟨List.mem_of_getElem? (i := 1534) rfl, rfl⟩
set_option maxRecDepth 100000 in
theorem q_mc243 : q_mcd (yX13_number, cX13_number, 3, some .int, 0, 1538, 13) := List.mem_filter.mpr ⟨List.mem_of_getElem? (i := 1538) rfl, rfl⟩
set_option maxRecDepth 100000 in
theorem q_mc244 : q_mcd (yX13_does, cX13_does, 6, some .int, 1, 1542, 13) := List.mem_filter.mpr ⟨List.mem_of_getElem? (i := 1542) rfl, rfl⟩
set_option maxRecDepth 100000 in
theorem q_mc245 : q_mcd (yX13_reason, cX13_reason, 1, some .int, 0, 1546, 13) := List.mem_filter.mpr ⟨List.mem_of_getElem? (i := 1546) rfl, rfl⟩
set_option maxRecDepth 100000 in
theorem q_mc246 : q_mcd (yX13_on, cX13_on, 6, some .int, 3, 1550, 13) := List.mem_filter.mpr ⟨List.mem_of_getElem? (i := 1550) rfl, rfl⟩
set_option maxRecDepth 100000 in
theorem q_mc247 : q_mcd (yX13_heir, cX13_heir, 4, some .int, 2, 1554, 13) := List.mem_filter.mpr ⟨List.mem_of_getElem? (i := 1554) rfl, rfl⟩
set_option maxRecDepth 100000 in
theorem q_mc248 : q_mcd (yX13_depth, cX13_depth, 5, some .int, 2, 1558, 13) := List.mem_filter.mpr ⟨List.mem_of_getElem? (i := 1558) rfl, rfl⟩
set_option maxRecDepth 100000 in
theorem q_mc249 : q_mcd (yX13_children, cX13_children, 5, some .int, 2, 1562, 13) := List.mem_filter.mpr ⟨List.mem_of_getElem? (i := 1562) rfl, rfl⟩
set_option maxRecDepth 100000 in
theorem q_mc250 : q_mcd (yX13_of, cX13_of, 3, some .int, 2, 1566, 13) := List.mem_filter.mpr ⟨List.mem_of_getElem? (i := 1566) rfl, rfl⟩
set_option maxRecDepth 100000 in
theorem q_mc251 : q_mcd (yX13_toldOf, cX13_toldOf, 7, some .int, 4, 1570, 13) := List.mem_filter.mpr ⟨List.mem_of_getElem? (i := 1570) rfl, rfl⟩
set_option maxRecDepth 100000 in
theorem q_mc252 : q_mcd (yX13_event, cX13_event, 4, some .int, 3, 1574, 13) := List.mem_filter.mpr ⟨List.mem_of_getElem? (i := 1574) rfl, rfl⟩
set_option maxRecDepth 100000 in
theorem q_mc253 : q_mcd (yX13_again, cX13_again, 3, some .int, 2, 1578, 13) := List.mem_filter.mpr ⟨List.mem_of_getElem? (i := 1578) rfl, rfl⟩
set_option maxRecDepth 100000 in
theorem q_mc254 : q_mcd (yX13_lookup, cX13_lookup, 6, some .int, 2, 1582, 13) := List.mem_filter.mpr ⟨List.mem_of_getElem? (i := 1582) rfl, rfl⟩
set_option maxRecDepth 100000 in
theorem q_mc255 : q_mcd (yX13_distance, cX13_distance, 7, some .int, 1, 1586, 13) := List.mem_filter.mpr ⟨List.mem_of_getElem? (i := 1586) rfl, rfl⟩
set_option maxRecDepth 100000 in
theorem q_mc256 : q_mcd (yX13_sought, cX13_sought, 2, some .int, 1, 1590, 13) := List.mem_filter.mpr ⟨List.mem_of_getElem? (i := 1590) rfl, rfl⟩
set_option maxRecDepth 100000 in
theorem q_mc257 : q_mcd (yX13_filter, cX13_filter, 3, some .int, 2, 1594, 13) := List.mem_filter.mpr ⟨List.mem_of_getElem? (i := 1594) rfl, rfl⟩
set_option maxRecDepth 100000 in
theorem q_mc258 : q_mcd (yX13_part, cX13_part, 5, some .int, 3, 1598, 13) := List.mem_filter.mpr ⟨List.mem_of_getElem? (i := 1598) rfl, rfl⟩
set_option maxRecDepth 100000 in
theorem q_mc259 : q_mcd (yX13_join, cX13_join, 4, some .int, 3, 1602, 13) := List.mem_filter.mpr ⟨List.mem_of_getElem? (i := 1602) rfl, rfl⟩
set_option maxRecDepth 100000 in
theorem q_mc260 : q_mcd (yX13_isFilter, cX13_isFilter, 2, some .boolean, 1, 1606, 13) := List.mem_filter.mpr ⟨List.mem_of_getElem? (i := 1606) rfl, rfl⟩
set_option maxRecDepth 100000 in
theorem q_mc261 : q_mcd (yX13_drop, cX13_drop, 3, some .int, 1, 1610, 13) := List.mem_filter.mpr ⟨List.mem_of_getElem? (i := 1610) rfl, rfl⟩
set_option maxRecDepth 100000 in
theorem q_mc262 : q_mcd (yX13_fits, cX13_fits, 5, some .int, 2, 1614, 13) := List.mem_filter.mpr ⟨List.mem_of_getElem? (i := 1614) rfl, rfl⟩
set_option maxRecDepth 100000 in
theorem q_mc263 : q_mcd (yX13_isFit, cX13_isFit, 6, some .boolean, 3, 1618, 13) := List.mem_filter.mpr ⟨List.mem_of_getElem? (i := 1618) rfl, rfl⟩
set_option maxRecDepth 100000 in
theorem q_mc264 : q_mcd (yX13_isAbove, cX13_isAbove, 5, some .boolean, 3, 1622, 13) := List.mem_filter.mpr ⟨List.mem_of_getElem? (i := 1622) rfl, rfl⟩
set_option maxRecDepth 100000 in
theorem q_mc265 : q_mcd (yX13_write, cX13_write, 4, some .int, 1, 1626, 13) := List.mem_filter.mpr ⟨List.mem_of_getElem? (i := 1626) rfl, rfl⟩
set_option maxRecDepth 100000 in
theorem q_mc266 : q_mcd (yX13_letterOf, cX13_letterOf, 1, some .int, 1, 1629, 13) := List.mem_filter.mpr ⟨List.mem_of_getElem? (i := 1629) rfl, rfl⟩
set_option maxRecDepth 100000 in
theorem q_mc267 : q_mcd (yX13_writes, cX13_writes, 2, none, 1, 1633, 13) := List.mem_filter.mpr ⟨List.mem_of_getElem? (i := 1633) rfl, rfl⟩
set_option maxRecDepth 100000 in
theorem q_mc268 : q_mcd (yX13_paper, cX13_paper, 2, some .int, 1, 1637, 13) := List.mem_filter.mpr ⟨List.mem_of_getElem? (i := 1637) rfl, rfl⟩
set_option maxRecDepth 100000 in
theorem q_mc269 : q_mcd (yX13_changed, cX13_changed, 5, some .int, 2, 1641, 13) := List.mem_filter.mpr ⟨List.mem_of_getElem? (i := 1641) rfl, rfl⟩
set_option maxRecDepth 100000 in
theorem q_mc270 : q_mcd (yX13_areAlike, cX13_areAlike, 5, some .boolean, 2, 1645, 13) := List.mem_filter.mpr ⟨List.mem_of_getElem? (i := 1645) rfl, rfl⟩
set_option maxRecDepth 100000 in
theorem q_mc271 : q_mcd (yX13_longest, cX13_longest, 10, some .int, 2, 1649, 13) := List.mem_filter.mpr ⟨List.mem_of_getElem? (i := 1649) rfl, rfl⟩
set_option maxRecDepth 100000 in
theorem q_mc272 : q_mcd (yX13_account, cX13_account, 6, some .int, 2, 1653, 13) := List.mem_filter.mpr ⟨List.mem_of_getElem? (i := 1653) rfl, rfl⟩
set_option maxRecDepth 100000 in
theorem q_mc273 : q_mcd (yX13_isFirstName, cX13_isFirstName, 4, some .boolean, 2, 1657, 13) := List.mem_filter.mpr ⟨List.mem_of_getElem? (i := 1657) rfl, rfl⟩
set_option maxRecDepth 100000 in
theorem q_mc274 : q_mcd (yX13_back, cX13_back, 1, some .int, 0, 1661, 13) := List.mem_filter.mpr ⟨List.mem_of_getElem? (i := 1661) rfl, rfl⟩
set_option maxRecDepth 100000 in
theorem q_mc275 : q_mcd (yX13_image, cX13_image, 1, some .int, 0, 1665, 13) := List.mem_filter.mpr ⟨List.mem_of_getElem? (i := 1665) rfl, rfl⟩
set_option maxRecDepth 100000 in
theorem q_mc276 : q_mcd (yX13_undo, cX13_undo, 1, some .int, 0, 1669, 13) := List.mem_filter.mpr ⟨List.mem_of_getElem? (i := 1669) rfl, rfl⟩
set_option maxRecDepth 100000 in
theorem q_mc277 : q_mcd (yX13_count, cX13_count, 2, some .int, 1, 1673, 13) := List.mem_filter.mpr ⟨List.mem_of_getElem? (i := 1673) rfl, rfl⟩
theorem q_mtab_0_cd : ∀ d ∈ q_mtab_0, q_mcd d := List.forall_mem_cons.mpr ⟨q_mc0, List.forall_mem_cons.mpr ⟨q_mc1, List.forall_mem_cons.mpr ⟨q_mc2, List.forall_mem_cons.mpr ⟨q_mc3, List.forall_mem_cons.mpr ⟨q_mc4, List.forall_mem_cons.mpr ⟨q_mc5, List.forall_mem_cons.mpr ⟨q_mc6, List.forall_mem_cons.mpr ⟨q_mc7, List.forall_mem_cons.mpr ⟨q_mc8, List.forall_mem_cons.mpr ⟨q_mc9, List.forall_mem_cons.mpr ⟨q_mc10, List.forall_mem_cons.mpr ⟨q_mc11, List.forall_mem_cons.mpr ⟨q_mc12, List.forall_mem_cons.mpr ⟨q_mc13, List.forall_mem_cons.mpr ⟨q_mc14, List.forall_mem_cons.mpr ⟨q_mc15, List.forall_mem_cons.mpr ⟨q_mc16, List.forall_mem_cons.mpr ⟨q_mc17, List.forall_mem_cons.mpr ⟨q_mc18, List.forall_mem_cons.mpr ⟨q_mc19, List.forall_mem_cons.mpr ⟨q_mc20, List.forall_mem_cons.mpr ⟨q_mc21, List.forall_mem_cons.mpr ⟨q_mc22, List.forall_mem_cons.mpr ⟨q_mc23, List.forall_mem_cons.mpr ⟨q_mc24, List.forall_mem_cons.mpr ⟨q_mc25, List.forall_mem_cons.mpr ⟨q_mc26, List.forall_mem_cons.mpr ⟨q_mc27, List.forall_mem_cons.mpr ⟨q_mc28, List.forall_mem_cons.mpr ⟨q_mc29, List.forall_mem_cons.mpr ⟨q_mc30, List.forall_mem_cons.mpr ⟨q_mc31, List.forall_mem_cons.mpr ⟨q_mc32, List.forall_mem_cons.mpr ⟨q_mc33, List.forall_mem_cons.mpr ⟨q_mc34, List.forall_mem_cons.mpr ⟨q_mc35, List.forall_mem_cons.mpr ⟨q_mc36, List.forall_mem_cons.mpr ⟨q_mc37, List.forall_mem_cons.mpr ⟨q_mc38, List.forall_mem_cons.mpr ⟨q_mc39, List.forall_mem_cons.mpr ⟨q_mc40, List.forall_mem_cons.mpr ⟨q_mc41, List.forall_mem_cons.mpr ⟨q_mc42, List.forall_mem_cons.mpr ⟨q_mc43, List.forall_mem_cons.mpr ⟨q_mc44, List.forall_mem_cons.mpr ⟨q_mc45, List.forall_mem_cons.mpr ⟨q_mc46, List.forall_mem_cons.mpr ⟨q_mc47, List.forall_mem_cons.mpr ⟨q_mc48, List.forall_mem_cons.mpr ⟨q_mc49, fun _ h => absurd h List.not_mem_nil⟩⟩⟩⟩⟩⟩⟩⟩⟩⟩⟩⟩⟩⟩⟩⟩⟩⟩⟩⟩⟩⟩⟩⟩⟩⟩⟩⟩⟩⟩⟩⟩⟩⟩⟩⟩⟩⟩⟩⟩⟩⟩⟩⟩⟩⟩⟩⟩⟩⟩
theorem q_mtab_1_cd : ∀ d ∈ q_mtab_1, q_mcd d := List.forall_mem_cons.mpr ⟨q_mc50, List.forall_mem_cons.mpr ⟨q_mc51, List.forall_mem_cons.mpr ⟨q_mc52, List.forall_mem_cons.mpr ⟨q_mc53, List.forall_mem_cons.mpr ⟨q_mc54, List.forall_mem_cons.mpr ⟨q_mc55, List.forall_mem_cons.mpr ⟨q_mc56, List.forall_mem_cons.mpr ⟨q_mc57, List.forall_mem_cons.mpr ⟨q_mc58, List.forall_mem_cons.mpr ⟨q_mc59, List.forall_mem_cons.mpr ⟨q_mc60, List.forall_mem_cons.mpr ⟨q_mc61, List.forall_mem_cons.mpr ⟨q_mc62, List.forall_mem_cons.mpr ⟨q_mc63, List.forall_mem_cons.mpr ⟨q_mc64, List.forall_mem_cons.mpr ⟨q_mc65, List.forall_mem_cons.mpr ⟨q_mc66, List.forall_mem_cons.mpr ⟨q_mc67, List.forall_mem_cons.mpr ⟨q_mc68, List.forall_mem_cons.mpr ⟨q_mc69, List.forall_mem_cons.mpr ⟨q_mc70, List.forall_mem_cons.mpr ⟨q_mc71, List.forall_mem_cons.mpr ⟨q_mc72, List.forall_mem_cons.mpr ⟨q_mc73, List.forall_mem_cons.mpr ⟨q_mc74, List.forall_mem_cons.mpr ⟨q_mc75, List.forall_mem_cons.mpr ⟨q_mc76, List.forall_mem_cons.mpr ⟨q_mc77, List.forall_mem_cons.mpr ⟨q_mc78, List.forall_mem_cons.mpr ⟨q_mc79, List.forall_mem_cons.mpr ⟨q_mc80, List.forall_mem_cons.mpr ⟨q_mc81, List.forall_mem_cons.mpr ⟨q_mc82, List.forall_mem_cons.mpr ⟨q_mc83, List.forall_mem_cons.mpr ⟨q_mc84, List.forall_mem_cons.mpr ⟨q_mc85, List.forall_mem_cons.mpr ⟨q_mc86, List.forall_mem_cons.mpr ⟨q_mc87, List.forall_mem_cons.mpr ⟨q_mc88, List.forall_mem_cons.mpr ⟨q_mc89, List.forall_mem_cons.mpr ⟨q_mc90, List.forall_mem_cons.mpr ⟨q_mc91, List.forall_mem_cons.mpr ⟨q_mc92, List.forall_mem_cons.mpr ⟨q_mc93, List.forall_mem_cons.mpr ⟨q_mc94, List.forall_mem_cons.mpr ⟨q_mc95, List.forall_mem_cons.mpr ⟨q_mc96, List.forall_mem_cons.mpr ⟨q_mc97, List.forall_mem_cons.mpr ⟨q_mc98, List.forall_mem_cons.mpr ⟨q_mc99, fun _ h => absurd h List.not_mem_nil⟩⟩⟩⟩⟩⟩⟩⟩⟩⟩⟩⟩⟩⟩⟩⟩⟩⟩⟩⟩⟩⟩⟩⟩⟩⟩⟩⟩⟩⟩⟩⟩⟩⟩⟩⟩⟩⟩⟩⟩⟩⟩⟩⟩⟩⟩⟩⟩⟩⟩
theorem q_mtab_2_cd : ∀ d ∈ q_mtab_2, q_mcd d := List.forall_mem_cons.mpr ⟨q_mc100, List.forall_mem_cons.mpr ⟨q_mc101, List.forall_mem_cons.mpr ⟨q_mc102, List.forall_mem_cons.mpr ⟨q_mc103, List.forall_mem_cons.mpr ⟨q_mc104, List.forall_mem_cons.mpr ⟨q_mc105, List.forall_mem_cons.mpr ⟨q_mc106, List.forall_mem_cons.mpr ⟨q_mc107, List.forall_mem_cons.mpr ⟨q_mc108, List.forall_mem_cons.mpr ⟨q_mc109, List.forall_mem_cons.mpr ⟨q_mc110, List.forall_mem_cons.mpr ⟨q_mc111, List.forall_mem_cons.mpr ⟨q_mc112, List.forall_mem_cons.mpr ⟨q_mc113, List.forall_mem_cons.mpr ⟨q_mc114, List.forall_mem_cons.mpr ⟨q_mc115, List.forall_mem_cons.mpr ⟨q_mc116, List.forall_mem_cons.mpr ⟨q_mc117, List.forall_mem_cons.mpr ⟨q_mc118, List.forall_mem_cons.mpr ⟨q_mc119, List.forall_mem_cons.mpr ⟨q_mc120, List.forall_mem_cons.mpr ⟨q_mc121, List.forall_mem_cons.mpr ⟨q_mc122, List.forall_mem_cons.mpr ⟨q_mc123, List.forall_mem_cons.mpr ⟨q_mc124, List.forall_mem_cons.mpr ⟨q_mc125, List.forall_mem_cons.mpr ⟨q_mc126, List.forall_mem_cons.mpr ⟨q_mc127, List.forall_mem_cons.mpr ⟨q_mc128, List.forall_mem_cons.mpr ⟨q_mc129, List.forall_mem_cons.mpr ⟨q_mc130, List.forall_mem_cons.mpr ⟨q_mc131, List.forall_mem_cons.mpr ⟨q_mc132, List.forall_mem_cons.mpr ⟨q_mc133, List.forall_mem_cons.mpr ⟨q_mc134, List.forall_mem_cons.mpr ⟨q_mc135, List.forall_mem_cons.mpr ⟨q_mc136, List.forall_mem_cons.mpr ⟨q_mc137, List.forall_mem_cons.mpr ⟨q_mc138, List.forall_mem_cons.mpr ⟨q_mc139, List.forall_mem_cons.mpr ⟨q_mc140, List.forall_mem_cons.mpr ⟨q_mc141, List.forall_mem_cons.mpr ⟨q_mc142, List.forall_mem_cons.mpr ⟨q_mc143, List.forall_mem_cons.mpr ⟨q_mc144, List.forall_mem_cons.mpr ⟨q_mc145, List.forall_mem_cons.mpr ⟨q_mc146, List.forall_mem_cons.mpr ⟨q_mc147, List.forall_mem_cons.mpr ⟨q_mc148, List.forall_mem_cons.mpr ⟨q_mc149, fun _ h => absurd h List.not_mem_nil⟩⟩⟩⟩⟩⟩⟩⟩⟩⟩⟩⟩⟩⟩⟩⟩⟩⟩⟩⟩⟩⟩⟩⟩⟩⟩⟩⟩⟩⟩⟩⟩⟩⟩⟩⟩⟩⟩⟩⟩⟩⟩⟩⟩⟩⟩⟩⟩⟩⟩
theorem q_mtab_3_cd : ∀ d ∈ q_mtab_3, q_mcd d := List.forall_mem_cons.mpr ⟨q_mc150, List.forall_mem_cons.mpr ⟨q_mc151, List.forall_mem_cons.mpr ⟨q_mc152, List.forall_mem_cons.mpr ⟨q_mc153, List.forall_mem_cons.mpr ⟨q_mc154, List.forall_mem_cons.mpr ⟨q_mc155, List.forall_mem_cons.mpr ⟨q_mc156, List.forall_mem_cons.mpr ⟨q_mc157, List.forall_mem_cons.mpr ⟨q_mc158, List.forall_mem_cons.mpr ⟨q_mc159, List.forall_mem_cons.mpr ⟨q_mc160, List.forall_mem_cons.mpr ⟨q_mc161, List.forall_mem_cons.mpr ⟨q_mc162, List.forall_mem_cons.mpr ⟨q_mc163, List.forall_mem_cons.mpr ⟨q_mc164, List.forall_mem_cons.mpr ⟨q_mc165, List.forall_mem_cons.mpr ⟨q_mc166, List.forall_mem_cons.mpr ⟨q_mc167, List.forall_mem_cons.mpr ⟨q_mc168, List.forall_mem_cons.mpr ⟨q_mc169, List.forall_mem_cons.mpr ⟨q_mc170, List.forall_mem_cons.mpr ⟨q_mc171, List.forall_mem_cons.mpr ⟨q_mc172, List.forall_mem_cons.mpr ⟨q_mc173, List.forall_mem_cons.mpr ⟨q_mc174, List.forall_mem_cons.mpr ⟨q_mc175, List.forall_mem_cons.mpr ⟨q_mc176, List.forall_mem_cons.mpr ⟨q_mc177, List.forall_mem_cons.mpr ⟨q_mc178, List.forall_mem_cons.mpr ⟨q_mc179, List.forall_mem_cons.mpr ⟨q_mc180, List.forall_mem_cons.mpr ⟨q_mc181, List.forall_mem_cons.mpr ⟨q_mc182, List.forall_mem_cons.mpr ⟨q_mc183, List.forall_mem_cons.mpr ⟨q_mc184, List.forall_mem_cons.mpr ⟨q_mc185, List.forall_mem_cons.mpr ⟨q_mc186, List.forall_mem_cons.mpr ⟨q_mc187, List.forall_mem_cons.mpr ⟨q_mc188, List.forall_mem_cons.mpr ⟨q_mc189, List.forall_mem_cons.mpr ⟨q_mc190, List.forall_mem_cons.mpr ⟨q_mc191, List.forall_mem_cons.mpr ⟨q_mc192, List.forall_mem_cons.mpr ⟨q_mc193, List.forall_mem_cons.mpr ⟨q_mc194, List.forall_mem_cons.mpr ⟨q_mc195, List.forall_mem_cons.mpr ⟨q_mc196, List.forall_mem_cons.mpr ⟨q_mc197, List.forall_mem_cons.mpr ⟨q_mc198, List.forall_mem_cons.mpr ⟨q_mc199, fun _ h => absurd h List.not_mem_nil⟩⟩⟩⟩⟩⟩⟩⟩⟩⟩⟩⟩⟩⟩⟩⟩⟩⟩⟩⟩⟩⟩⟩⟩⟩⟩⟩⟩⟩⟩⟩⟩⟩⟩⟩⟩⟩⟩⟩⟩⟩⟩⟩⟩⟩⟩⟩⟩⟩⟩
theorem q_mtab_4_cd : ∀ d ∈ q_mtab_4, q_mcd d := List.forall_mem_cons.mpr ⟨q_mc200, List.forall_mem_cons.mpr ⟨q_mc201, List.forall_mem_cons.mpr ⟨q_mc202, List.forall_mem_cons.mpr ⟨q_mc203, List.forall_mem_cons.mpr ⟨q_mc204, List.forall_mem_cons.mpr ⟨q_mc205, List.forall_mem_cons.mpr ⟨q_mc206, List.forall_mem_cons.mpr ⟨q_mc207, List.forall_mem_cons.mpr ⟨q_mc208, List.forall_mem_cons.mpr ⟨q_mc209, List.forall_mem_cons.mpr ⟨q_mc210, List.forall_mem_cons.mpr ⟨q_mc211, List.forall_mem_cons.mpr ⟨q_mc212, List.forall_mem_cons.mpr ⟨q_mc213, List.forall_mem_cons.mpr ⟨q_mc214, List.forall_mem_cons.mpr ⟨q_mc215, List.forall_mem_cons.mpr ⟨q_mc216, List.forall_mem_cons.mpr ⟨q_mc217, List.forall_mem_cons.mpr ⟨q_mc218, List.forall_mem_cons.mpr ⟨q_mc219, List.forall_mem_cons.mpr ⟨q_mc220, List.forall_mem_cons.mpr ⟨q_mc221, List.forall_mem_cons.mpr ⟨q_mc222, List.forall_mem_cons.mpr ⟨q_mc223, List.forall_mem_cons.mpr ⟨q_mc224, List.forall_mem_cons.mpr ⟨q_mc225, List.forall_mem_cons.mpr ⟨q_mc226, List.forall_mem_cons.mpr ⟨q_mc227, List.forall_mem_cons.mpr ⟨q_mc228, List.forall_mem_cons.mpr ⟨q_mc229, List.forall_mem_cons.mpr ⟨q_mc230, List.forall_mem_cons.mpr ⟨q_mc231, List.forall_mem_cons.mpr ⟨q_mc232, List.forall_mem_cons.mpr ⟨q_mc233, List.forall_mem_cons.mpr ⟨q_mc234, List.forall_mem_cons.mpr ⟨q_mc235, List.forall_mem_cons.mpr ⟨q_mc236, List.forall_mem_cons.mpr ⟨q_mc237, List.forall_mem_cons.mpr ⟨q_mc238, List.forall_mem_cons.mpr ⟨q_mc239, List.forall_mem_cons.mpr ⟨q_mc240, List.forall_mem_cons.mpr ⟨q_mc241, List.forall_mem_cons.mpr ⟨q_mc242, List.forall_mem_cons.mpr ⟨q_mc243, List.forall_mem_cons.mpr ⟨q_mc244, List.forall_mem_cons.mpr ⟨q_mc245, List.forall_mem_cons.mpr ⟨q_mc246, List.forall_mem_cons.mpr ⟨q_mc247, List.forall_mem_cons.mpr ⟨q_mc248, List.forall_mem_cons.mpr ⟨q_mc249, fun _ h => absurd h List.not_mem_nil⟩⟩⟩⟩⟩⟩⟩⟩⟩⟩⟩⟩⟩⟩⟩⟩⟩⟩⟩⟩⟩⟩⟩⟩⟩⟩⟩⟩⟩⟩⟩⟩⟩⟩⟩⟩⟩⟩⟩⟩⟩⟩⟩⟩⟩⟩⟩⟩⟩⟩
theorem q_mtab_5_cd : ∀ d ∈ q_mtab_5, q_mcd d := List.forall_mem_cons.mpr ⟨q_mc250, List.forall_mem_cons.mpr ⟨q_mc251, List.forall_mem_cons.mpr ⟨q_mc252, List.forall_mem_cons.mpr ⟨q_mc253, List.forall_mem_cons.mpr ⟨q_mc254, List.forall_mem_cons.mpr ⟨q_mc255, List.forall_mem_cons.mpr ⟨q_mc256, List.forall_mem_cons.mpr ⟨q_mc257, List.forall_mem_cons.mpr ⟨q_mc258, List.forall_mem_cons.mpr ⟨q_mc259, List.forall_mem_cons.mpr ⟨q_mc260, List.forall_mem_cons.mpr ⟨q_mc261, List.forall_mem_cons.mpr ⟨q_mc262, List.forall_mem_cons.mpr ⟨q_mc263, List.forall_mem_cons.mpr ⟨q_mc264, List.forall_mem_cons.mpr ⟨q_mc265, List.forall_mem_cons.mpr ⟨q_mc266, List.forall_mem_cons.mpr ⟨q_mc267, List.forall_mem_cons.mpr ⟨q_mc268, List.forall_mem_cons.mpr ⟨q_mc269, List.forall_mem_cons.mpr ⟨q_mc270, List.forall_mem_cons.mpr ⟨q_mc271, List.forall_mem_cons.mpr ⟨q_mc272, List.forall_mem_cons.mpr ⟨q_mc273, List.forall_mem_cons.mpr ⟨q_mc274, List.forall_mem_cons.mpr ⟨q_mc275, List.forall_mem_cons.mpr ⟨q_mc276, List.forall_mem_cons.mpr ⟨q_mc277, fun _ h => absurd h List.not_mem_nil⟩⟩⟩⟩⟩⟩⟩⟩⟩⟩⟩⟩⟩⟩⟩⟩⟩⟩⟩⟩⟩⟩⟩⟩⟩⟩⟩⟩
theorem q_mtab_cd : ∀ d ∈ q_mtab, q_mcd d := by
  unfold q_mtab
  simp only [List.forall_mem_append]
  exact ⟨⟨⟨⟨⟨q_mtab_0_cd, q_mtab_1_cd⟩, q_mtab_2_cd⟩, q_mtab_3_cd⟩, q_mtab_4_cd⟩, q_mtab_5_cd⟩
def q_itab_0 : List (Nat × (Nat × Nat × Nat × List Nat)) := [(160009, (3, 0, 0, [109, 110, 77])),
  (120009, (4, 1, 0, [0, 118, 78])),
  (120018, (4, 2, 0, [1, 132, 79])),
  (50011, (3, 3, 0, [137, 138, 82])),
  (150001, (3, 4, 0, [140, 141, 81])),
  (240001, (3, 5, 0, [143, 144, 80])),
  (120025, (3, 6, 0, [176, 177, 83])),
  (110011, (4, 7, 0, [2, 183, 84])),
  (110034, (4, 8, 0, [3, 212, 85])),
  (40032, (4, 9, 0, [4, 218, 86])),
  (40039, (4, 10, 0, [5, 235, 87])),
  (40046, (4, 11, 0, [6, 251, 88])),
  (120032, (4, 12, 0, [7, 336, 89])),
  (120039, (4, 10, 0, [8, 235, 87])),
  (120046, (3, 13, 0, [347, 348, 91])),
  (140001, (3, 14, 0, [350, 351, 90])),
  (120053, (3, 3, 0, [378, 138, 82])),
  (160013, (0, 15, 12, [422, 423, 424, 77])),
  (120082, (1, 16, 0, [426, 427, 77])),
  (120086, (0, 17, 8, [429, 430, 431, 78])),
  (120090, (0, 18, 8, [433, 434, 435, 78])),
  (160018, (0, 19, 12, [437, 438, 439, 77])),
  (120094, (0, 20, 8, [441, 442, 443, 78])),
  (80019, (1, 21, 0, [445, 446, 95])),
  (80025, (1, 22, 0, [448, 449, 95])),
  (120100, (3, 23, 0, [453, 454, 96])),
  (120103, (0, 24, 12, [483, 485, 0, 77])),
  (120122, (1, 25, 0, [487, 488, 97])),
  (60018, (1, 26, 0, [490, 491, 97])),
  (60050, (2, 27, 0, [9, 494, 77])),
  (60056, (0, 28, 11, [496, 497, 498, 83])),
  (60022, (1, 29, 0, [500, 501, 97])),
  (60063, (0, 30, 11, [503, 504, 505, 83])),
  (60072, (0, 31, 4, [507, 508, 509, 85])),
  (40063, (0, 32, 4, [511, 512, 513, 85])),
  (60029, (1, 33, 0, [515, 516, 97])),
  (60075, (0, 32, 4, [518, 512, 513, 85])),
  (60032, (1, 34, 0, [519, 520, 97])),
  (60035, (1, 35, 0, [522, 523, 97])),
  (60085, (0, 36, 9, [525, 526, 527, 87])),
  (60038, (1, 37, 0, [529, 530, 97])),
  (60044, (0, 38, 11, [532, 533, 534, 83])),
  (110159, (0, 39, 4, [536, 537, 538, 85])),
  (40067, (0, 40, 4, [540, 541, 542, 85])),
  (40071, (0, 41, 9, [544, 545, 546, 87])),
  (90026, (0, 42, 9, [551, 553, 1, 87])),
  (120117, (0, 43, 15, [558, 559, 560, 82])),
  (120141, (0, 44, 12, [562, 564, 2, 77])),
  (120134, (0, 45, 15, [569, 570, 571, 82])),
  (150131, (0, 46, 15, [573, 575, 3, 82])),
  (150129, (0, 47, 15, [577, 579, 4, 82])),
  (150069, (0, 48, 15, [581, 583, 5, 82])),
  (150073, (1, 49, 0, [585, 586, 100])),
  (220201, (1, 50, 0, [590, 591, 100])),
  (150066, (1, 51, 0, [593, 594, 101])),
  (180300, (1, 52, 0, [614, 615, 101])),
  (120138, (0, 53, 11, [624, 625, 626, 83])),
  (110056, (0, 54, 11, [628, 630, 6, 83])),
  (110104, (0, 28, 11, [632, 497, 498, 83])),
  (110108, (0, 55, 4, [633, 634, 635, 85]))]
def q_itab_1 : List (Nat × (Nat × Nat × Nat × List Nat)) := [(40051, (0, 56, 2, [637, 638, 639, 86])),
  (40055, (0, 57, 9, [641, 642, 643, 87])),
  (40058, (0, 58, 1, [645, 646, 647, 88])),
  (110060, (0, 59, 0, [649, 650, 651, 84])),
  (34, (0, 60, 0, [653, 655, 7, 84])),
  (42, (1, 61, 0, [657, 658, 101])),
  (110064, (0, 62, 0, [667, 668, 669, 84])),
  (38, (0, 63, 0, [671, 672, 673, 84])),
  (110068, (0, 64, 0, [675, 676, 677, 84])),
  (110072, (0, 30, 11, [679, 504, 505, 83])),
  (110076, (1, 65, 0, [680, 681, 83])),
  (110116, (0, 66, 2, [683, 684, 685, 86])),
  (110122, (1, 67, 0, [687, 688, 95])),
  (100011, (1, 68, 0, [690, 691, 95])),
  (110128, (0, 69, 2, [694, 695, 696, 86])),
  (20023, (1, 61, 0, [698, 658, 101])),
  (20029, (1, 70, 0, [699, 700, 101])),
  (110097, (0, 71, 4, [707, 708, 709, 85])),
  (40059, (0, 72, 1, [711, 712, 713, 88])),
  (110080, (1, 73, 0, [715, 716, 83])),
  (110136, (0, 36, 9, [718, 526, 527, 87])),
  (110140, (0, 74, 9, [719, 720, 721, 87])),
  (90022, (0, 75, 9, [723, 725, 8, 87])),
  (90039, (1, 61, 0, [727, 658, 101])),
  (110084, (0, 76, 11, [728, 730, 9, 83])),
  (110088, (0, 77, 11, [732, 734, 10, 83])),
  (110157, (0, 72, 1, [736, 712, 713, 88])),
  (110162, (0, 78, 9, [737, 738, 739, 87])),
  (160023, (0, 79, 12, [741, 742, 743, 77])),
  (160028, (0, 80, 12, [745, 746, 747, 77])),
  (160032, (0, 81, 12, [749, 750, 751, 77])),
  (160036, (0, 82, 12, [753, 754, 755, 77])),
  (160040, (0, 83, 12, [757, 758, 759, 77])),
  (160044, (0, 84, 12, [761, 762, 763, 77])),
  (120107, (0, 85, 5, [765, 766, 767, 79])),
  (50039, (0, 86, 15, [769, 770, 771, 82])),
  (50042, (0, 87, 5, [773, 775, 11, 79])),
  (50055, (0, 88, 8, [777, 778, 779, 78])),
  (50059, (1, 89, 0, [781, 782, 79])),
  (50062, (0, 90, 5, [784, 786, 12, 79])),
  (50065, (0, 91, 5, [788, 790, 13, 79])),
  (50051, (0, 92, 5, [792, 794, 14, 79])),
  (50068, (0, 93, 5, [796, 798, 15, 79])),
  (50078, (1, 21, 0, [800, 446, 95])),
  (50084, (1, 22, 0, [801, 449, 95])),
  (50071, (3, 23, 0, [803, 454, 96])),
  (50074, (0, 45, 15, [804, 570, 571, 82])),
  (50046, (0, 17, 8, [805, 430, 431, 78])),
  (120111, (0, 94, 8, [806, 807, 808, 78])),
  (120114, (0, 95, 5, [810, 811, 812, 79])),
  (50029, (0, 43, 15, [814, 559, 560, 82])),
  (120118, (0, 96, 5, [815, 816, 817, 79])),
  (50033, (0, 97, 15, [819, 820, 821, 82])),
  (150118, (1, 98, 0, [823, 824, 102])),
  (210105, (1, 99, 0, [826, 827, 103])),
  (150123, (0, 100, 15, [829, 830, 831, 82])),
  (120128, (0, 101, 12, [833, 835, 16, 77])),
  (120330, (0, 102, 15, [837, 838, 839, 82])),
  (150144, (0, 103, 15, [841, 843, 17, 82])),
  (120131, (0, 104, 12, [846, 848, 18, 77]))]
def q_itab_2 : List (Nat × (Nat × Nat × Nat × List Nat)) := [(120334, (0, 105, 11, [850, 851, 852, 83])),
  (110035, (0, 106, 0, [854, 855, 856, 84])),
  (120335, (0, 97, 15, [858, 820, 821, 82])),
  (160049, (0, 107, 12, [859, 860, 861, 77])),
  (160053, (0, 108, 12, [863, 864, 865, 77])),
  (120144, (0, 30, 11, [867, 504, 505, 83])),
  (120148, (1, 27, 0, [868, 494, 77])),
  (120151, (0, 109, 4, [869, 870, 871, 85])),
  (120159, (0, 110, 11, [873, 874, 875, 83])),
  (110165, (0, 40, 4, [877, 541, 542, 85])),
  (120163, (0, 111, 12, [878, 880, 19, 77])),
  (120170, (0, 36, 9, [882, 526, 527, 87])),
  (120178, (0, 66, 2, [883, 684, 685, 86])),
  (120183, (1, 67, 0, [884, 688, 95])),
  (120189, (0, 112, 11, [885, 886, 887, 83])),
  (120193, (0, 113, 11, [889, 890, 891, 83])),
  (110169, (0, 114, 11, [893, 894, 895, 83])),
  (110177, (0, 109, 4, [897, 870, 871, 85])),
  (110181, (0, 115, 11, [898, 900, 20, 83])),
  (110185, (0, 116, 11, [902, 903, 904, 83])),
  (110172, (1, 117, 0, [906, 907, 105])),
  (120196, (1, 68, 0, [912, 691, 95])),
  (160057, (0, 118, 12, [913, 914, 915, 77])),
  (120206, (0, 119, 2, [917, 918, 919, 86])),
  (120217, (0, 120, 1, [921, 922, 923, 88])),
  (160061, (0, 121, 12, [925, 926, 927, 77])),
  (120222, (0, 122, 1, [929, 930, 931, 88])),
  (120225, (0, 123, 1, [934, 935, 936, 88])),
  (10031, (0, 122, 1, [938, 930, 931, 88])),
  (120228, (0, 124, 1, [939, 940, 941, 88])),
  (120231, (0, 125, 1, [943, 944, 945, 88])),
  (160065, (0, 126, 12, [947, 948, 949, 77])),
  (120234, (0, 127, 1, [951, 952, 953, 88])),
  (10055, (0, 57, 9, [955, 642, 643, 87])),
  (10061, (0, 74, 9, [956, 720, 721, 87])),
  (10064, (0, 36, 9, [957, 526, 527, 87])),
  (10068, (0, 78, 9, [958, 738, 739, 87])),
  (160069, (0, 128, 12, [959, 960, 961, 77])),
  (120238, (0, 129, 12, [963, 965, 21, 77])),
  (120242, (0, 130, 11, [967, 968, 969, 83])),
  (120243, (0, 131, 7, [971, 972, 973, 89])),
  (70015, (1, 67, 0, [975, 688, 95])),
  (70021, (1, 68, 0, [976, 691, 95])),
  (70025, (0, 132, 7, [977, 979, 22, 89])),
  (160073, (0, 133, 12, [982, 983, 984, 77])),
  (160078, (0, 134, 12, [986, 987, 988, 77])),
  (120253, (0, 135, 0, [990, 991, 992, 84])),
  (160082, (0, 136, 12, [994, 995, 996, 77])),
  (120254, (0, 63, 0, [998, 672, 673, 84])),
  (160086, (0, 137, 12, [999, 1000, 1001, 77])),
  (160090, (0, 138, 12, [1003, 1004, 1005, 77])),
  (120257, (0, 139, 0, [1007, 1008, 1009, 84])),
  (48, (0, 140, 0, [1011, 1013, 23, 84])),
  (52, (0, 141, 0, [1015, 1017, 24, 84])),
  (56, (0, 142, 11, [1019, 1020, 1021, 83])),
  (61, (0, 114, 11, [1023, 894, 895, 83])),
  (160094, (0, 143, 12, [1024, 1025, 1026, 77])),
  (120261, (0, 144, 14, [1028, 1029, 1030, 91])),
  (140333, (7, 145, 0, [1032, 1674, 375, 1033, 90])),
  (170100, (5, 146, 14, [1035, 1675, 1707, 1037, 90]))]
def q_itab_3 : List (Nat × (Nat × Nat × Nat × List Nat)) := [(170104, (5, 147, 14, [1039, 1676, 1708, 1041, 90])),
  (170114, (1, 49, 0, [1043, 586, 100])),
  (170108, (1, 148, 0, [1045, 1046, 101])),
  (170083, (5, 149, 14, [1053, 1055, 1056, 1054, 90])),
  (170133, (1, 150, 0, [1058, 1059, 106])),
  (270236, (1, 151, 0, [1061, 1062, 101])),
  (180013, (1, 152, 0, [1064, 1065, 101])),
  (120264, (0, 153, 1, [1071, 1072, 1073, 88])),
  (10035, (0, 154, 14, [1075, 1076, 1077, 91])),
  (140050, (7, 155, 0, [1079, 1677, 375, 1080, 90])),
  (170191, (1, 156, 0, [1082, 1083, 106])),
  (170195, (5, 157, 14, [1085, 1678, 1709, 1087, 90])),
  (170125, (1, 158, 0, [1089, 1090, 106])),
  (261065, (1, 160, 0, [1106, 1107, 103])),
  (261059, (1, 99, 0, [1127, 827, 103])),
  (10043, (8, 162, 0, [1129, 1130, 1131, 92])),
  (260335, (8, 163, 0, [1133, 1134, 1135, 92])),
  (10048, (8, 164, 0, [1138, 1139, 1140, 92])),
  (260492, (8, 165, 0, [1142, 1143, 1144, 92])),
  (260495, (1, 166, 0, [1146, 1147, 106])),
  (270009, (1, 161, 0, [1149, 1125, 92])),
  (10052, (0, 167, 14, [1156, 1157, 1158, 91])),
  (140053, (7, 168, 0, [1160, 1679, 375, 1161, 90])),
  (170245, (1, 169, 0, [1163, 1164, 105])),
  (170248, (1, 170, 0, [1166, 1167, 105])),
  (261062, (1, 172, 0, [1182, 1183, 103])),
  (120268, (0, 173, 14, [1190, 1191, 1192, 91])),
  (140343, (7, 174, 0, [1194, 1680, 375, 1195, 90])),
  (160098, (0, 175, 12, [1197, 1198, 1199, 77])),
  (120269, (0, 176, 14, [1201, 1202, 1203, 91])),
  (140329, (7, 177, 0, [1205, 1681, 375, 1206, 90])),
  (170144, (1, 161, 0, [1209, 1125, 92])),
  (160102, (0, 178, 12, [1211, 1212, 1213, 77])),
  (120273, (0, 179, 4, [1215, 1216, 1217, 85])),
  (40075, (0, 109, 4, [1219, 870, 871, 85])),
  (40079, (0, 36, 9, [1220, 526, 527, 87])),
  (40083, (0, 66, 2, [1221, 684, 685, 86])),
  (160106, (0, 180, 12, [1222, 1223, 1224, 77])),
  (120277, (0, 40, 4, [1226, 541, 542, 85])),
  (120280, (0, 181, 2, [1227, 1228, 1229, 86])),
  (20036, (0, 182, 2, [1231, 1232, 1233, 86])),
  (20032, (0, 183, 2, [1235, 1236, 1237, 86])),
  (120283, (0, 183, 2, [1239, 1236, 1237, 86])),
  (120284, (0, 182, 2, [1240, 1232, 1233, 86])),
  (120287, (0, 184, 2, [1241, 1242, 1243, 86])),
  (160110, (0, 185, 12, [1245, 1246, 1247, 77])),
  (120290, (0, 142, 11, [1249, 1020, 1021, 83])),
  (120293, (1, 117, 0, [1250, 907, 105])),
  (120298, (0, 186, 11, [1251, 1252, 1253, 83])),
  (120301, (0, 187, 11, [1255, 1256, 1257, 83])),
  (120304, (0, 188, 11, [1259, 1260, 1261, 83])),
  (110189, (0, 189, 11, [1263, 1265, 25, 83])),
  (120307, (0, 190, 11, [1267, 1268, 1269, 83])),
  (110193, (0, 113, 11, [1271, 890, 891, 83])),
  (120310, (0, 114, 11, [1273, 894, 895, 83])),
  (160114, (0, 191, 12, [1274, 1275, 1276, 77])),
  (160118, (0, 192, 12, [1278, 1279, 1280, 77])),
  (120314, (1, 193, 0, [1282, 1283, 77])),
  (120338, (0, 86, 15, [1285, 770, 771, 82])),
  (160122, (0, 194, 12, [1286, 1287, 1288, 77]))]
def q_itab_4 : List (Nat × (Nat × Nat × Nat × List Nat)) := [(160126, (0, 195, 12, [1290, 1291, 1292, 77])),
  (160012, (3, 196, 0, [1296, 1297, 94])),
  (160017, (0, 197, 13, [1353, 1354, 1355, 94])),
  (130043, (1, 198, 0, [1357, 1358, 94])),
  (160022, (0, 199, 13, [1360, 1361, 1362, 94])),
  (130129, (0, 200, 13, [1364, 1366, 26, 94])),
  (130091, (0, 201, 13, [1368, 1370, 27, 94])),
  (130078, (0, 202, 13, [1372, 1374, 28, 94])),
  (130082, (0, 203, 13, [1376, 1378, 29, 94])),
  (130133, (0, 204, 13, [1380, 1382, 30, 94])),
  (130094, (0, 205, 13, [1384, 1386, 31, 94])),
  (130097, (1, 206, 0, [1388, 1389, 94])),
  (130047, (0, 207, 13, [1391, 1393, 32, 94])),
  (130100, (0, 208, 13, [1395, 1397, 33, 94])),
  (130051, (0, 209, 13, [1399, 1401, 34, 94])),
  (130136, (0, 210, 13, [1403, 1405, 35, 94])),
  (130140, (0, 211, 13, [1407, 1409, 36, 94])),
  (130039, (0, 212, 13, [1411, 1413, 37, 94])),
  (130126, (0, 213, 13, [1415, 1417, 38, 94])),
  (130055, (0, 214, 13, [1419, 1421, 39, 94])),
  (130113, (0, 215, 13, [1423, 1425, 40, 94])),
  (130116, (0, 216, 13, [1427, 1429, 41, 94])),
  (130119, (0, 217, 13, [1431, 1433, 42, 94])),
  (160027, (0, 218, 13, [1435, 1436, 1437, 94])),
  (130106, (0, 219, 13, [1439, 1441, 43, 94])),
  (130103, (0, 220, 13, [1443, 1445, 44, 94])),
  (130143, (0, 221, 13, [1447, 1449, 45, 94])),
  (130123, (0, 222, 13, [1451, 1453, 46, 94])),
  (130059, (0, 223, 13, [1455, 1457, 47, 94])),
  (160031, (0, 224, 13, [1459, 1460, 1461, 94])),
  (130146, (0, 225, 13, [1463, 1465, 48, 94])),
  (130149, (0, 226, 13, [1467, 1469, 49, 94])),
  (130066, (0, 227, 13, [1471, 1473, 50, 94])),
  (160035, (0, 228, 13, [1475, 1476, 1477, 94])),
  (130152, (0, 229, 13, [1479, 1481, 51, 94])),
  (130155, (0, 230, 13, [1483, 1485, 52, 94])),
  (160039, (0, 231, 13, [1487, 1488, 1489, 94])),
  (130158, (0, 232, 13, [1491, 1493, 53, 94])),
  (130161, (0, 233, 13, [1495, 1497, 54, 94])),
  (130109, (0, 234, 13, [1499, 1501, 55, 94])),
  (130062, (0, 235, 13, [1503, 1505, 56, 94])),
  (160043, (0, 236, 13, [1507, 1508, 1509, 94])),
  (130164, (0, 237, 13, [1511, 1513, 57, 94])),
  (130167, (0, 238, 13, [1515, 1517, 58, 94])),
  (160048, (0, 239, 13, [1519, 1520, 1521, 94])),
  (130180, (0, 240, 13, [1523, 1525, 59, 94])),
  (130085, (0, 241, 13, [1527, 1529, 60, 94])),
  (130173, (0, 242, 13, [1531, 1533, 61, 94])),
  (130177, (0, 243, 13, [1535, 1537, 62, 94])),
  (130183, (0, 244, 13, [1539, 1541, 63, 94])),
  (160052, (0, 245, 13, [1543, 1544, 1545, 94])),
  (160056, (0, 246, 13, [1547, 1548, 1549, 94])),
  (130186, (0, 247, 13, [1551, 1553, 64, 94])),
  (130189, (0, 248, 13, [1555, 1557, 65, 94])),
  (130192, (0, 249, 13, [1559, 1561, 66, 94])),
  (160060, (0, 250, 13, [1563, 1564, 1565, 94])),
  (130195, (0, 251, 13, [1567, 1569, 67, 94])),
  (160064, (0, 252, 13, [1571, 1572, 1573, 94])),
  (160068, (0, 253, 13, [1575, 1576, 1577, 94])),
  (160072, (0, 254, 13, [1579, 1580, 1581, 94]))]
def q_itab_5 : List (Nat × (Nat × Nat × Nat × List Nat)) := [(130202, (0, 255, 13, [1583, 1585, 68, 94])),
  (160077, (0, 256, 13, [1587, 1588, 1589, 94])),
  (160081, (0, 257, 13, [1591, 1592, 1593, 94])),
  (130205, (0, 258, 13, [1595, 1597, 69, 94])),
  (160085, (0, 259, 13, [1599, 1600, 1601, 94])),
  (130208, (0, 260, 13, [1603, 1605, 70, 94])),
  (160089, (0, 261, 13, [1607, 1608, 1609, 94])),
  (160093, (0, 262, 13, [1611, 1612, 1613, 94])),
  (130214, (0, 263, 13, [1615, 1617, 71, 94])),
  (130211, (0, 264, 13, [1619, 1621, 72, 94])),
  (160097, (0, 265, 13, [1623, 1624, 1625, 94])),
  (130223, (1, 266, 0, [1627, 1628, 94])),
  (130217, (0, 267, 13, [1630, 1632, 73, 94])),
  (160101, (0, 268, 13, [1634, 1635, 1636, 94])),
  (160105, (0, 269, 13, [1638, 1639, 1640, 94])),
  (130226, (0, 270, 13, [1642, 1644, 74, 94])),
  (160109, (0, 271, 13, [1646, 1647, 1648, 94])),
  (160113, (0, 272, 13, [1650, 1651, 1652, 94])),
  (130229, (0, 273, 13, [1654, 1656, 75, 94])),
  (160117, (0, 274, 13, [1658, 1659, 1660, 94])),
  (160121, (0, 275, 13, [1662, 1663, 1664, 94])),
  (160125, (0, 276, 13, [1666, 1667, 1668, 94])),
  (160129, (0, 277, 13, [1670, 1671, 1672, 94]))]
def q_itab : List (Nat × (Nat × Nat × Nat × List Nat)) := q_itab_0 ++ q_itab_1 ++ q_itab_2 ++ q_itab_3 ++ q_itab_4 ++ q_itab_5
/-- what a row of q_itab says, by its kind: 0 virtual, 1 static, 2 static of a nest mate, 3 a constructor, 4 of a nest mate, 5 inherited, 7 of the class above, 8 of the String -/
def q_iokb (e : Nat × (Nat × Nat × Nat × List Nat)) : Bool := match q_own[e.1 / 10000]?, q_mtab[e.2.2.1]? with
  | some own, some d => (match e.2.1 with
    | 0 => (match qcl[e.2.2.2.1]? with
      | some r => q_ins e.2.2.2.2 [.methodLink own (e.1 % 10000) d.1, .instanceMethod d.1, .selects r.1 d.1 d.1, .initialized r.1] && decide (r.1 = d.1.cls)
      | none => false)
    | 1 => q_ins e.2.2.2.2 [.methodLink own (e.1 % 10000) d.1, .static d.1, .initialized d.1.cls]
    | 2 => decide (q_nest[e.2.2.2.2.headD 0]? = some (.methodLinkNest own (e.1 % 10000) d.1 RX12)) && q_ins (e.2.2.2.2.drop 1) [.static d.1, .initialized d.1.cls]
    | 3 => q_ins e.2.2.2.2 [.methodLink own (e.1 % 10000) d.1, .instanceMethod d.1, .initialized d.1.cls] && (decide (d.1.name = "<init>") && decide (d.2.2.2.1 = none))
    | 4 => decide (q_nest[e.2.2.2.2.headD 0]? = some (.methodLinkNest own (e.1 % 10000) d.1 RX12)) && (q_ins (e.2.2.2.2.drop 1) [.instanceMethod d.1, .initialized d.1.cls] && (decide (d.1.name = "<init>") && decide (d.2.2.2.1 = none)))
    | 5 => (match qcl[e.2.2.2.1]? with
      | some r => q_ins e.2.2.2.2 [.methodLink own (e.1 % 10000) d.1, .sameMethod d.1.cls d.1.cls d.1.name d.1.desc, .selects r.1 d.1 d.1, .instanceMethod d.1, .initialized d.1.cls]
      | none => false)
    | 7 => q_ins e.2.2.2.2 [.methodLink own (e.1 % 10000) d.1, .sameMethod d.1.cls d.1.cls d.1.name d.1.desc, .superclass own d.1.cls, .instanceMethod d.1, .initialized d.1.cls] && decide (d.1.name ≠ "<init>")
    | 8 => q_ins e.2.2.2.2 [.methodLink own (e.1 % 10000) d.1, .instanceMethod d.1, .selects "java/lang/String" d.1 d.1, .initialized "java/lang/String"] && decide (d.1.cls = "java/lang/String")
    | _ => false)
  | _, _ => false
theorem q_itab_0_ok : q_itab_0.all q_iokb = true := by decide +kernel
theorem q_itab_1_ok : q_itab_1.all q_iokb = true := by decide +kernel
theorem q_itab_2_ok : q_itab_2.all q_iokb = true := by decide +kernel
theorem q_itab_3_ok : q_itab_3.all q_iokb = true := by decide +kernel
theorem q_itab_4_ok : q_itab_4.all q_iokb = true := by decide +kernel
theorem q_itab_5_ok : q_itab_5.all q_iokb = true := by decide +kernel
theorem q_itab_ok : q_itab.all q_iokb = true := by unfold q_itab; rw [List.all_append, List.all_append, List.all_append, List.all_append, List.all_append, q_itab_0_ok, q_itab_1_ok, q_itab_2_ok, q_itab_3_ok, q_itab_4_ok, q_itab_5_ok]; rfl
