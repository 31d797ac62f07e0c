/-! THE TABLES of the small machine, by program (wip/tools/mktables.py) -/
def zt_own (c : Nat) : String := match c with
  | 0 => RX0
  | 1 => RX1
  | 2 => RX2
  | 3 => RX3
  | 4 => RX4
  | 5 => RX5
  | 6 => RX6
  | 7 => RX7
  | 8 => RL
  | _ => RJ7
def zt_ty (c k : Nat) : FieldType := match c with
  | 3 => tyX0 k
  | 4 => tyX1 k
  | 5 => tyX2 k
  | 6 => tyX3 k
  | 7 => tyX4 k
  | 8 => tyX5 k
  | 9 => tyX6 k
  | 10 => tyX7 k
  | _ => .int
def zt_T (c : Nat) : u_T := match c with
  | 3 => TX0
  | 4 => TX1
  | 5 => TX2
  | 6 => TX3
  | 7 => TX4
  | 8 => TX5
  | 9 => TX6
  | 10 => TX7
  | _ => TX0
def zt_fin (ci k : Nat) : Bool := (zt_T ci k).2.2.2
/-- a method: name, bytes, locals, answer; its class's number, its arguments, frames and locals that it may need below it -/
abbrev zx_M : Type := MethodName × ByteArray × Nat × Option FieldType × Nat × Nat × Nat × Nat
def zt_Ml : List zx_M := [
  (yJ7_fill_53178, cJ7_fill_53178, 4, none, 9, 2, 0, 0),
  (yJ7_fill_fda19, cJ7_fill_fda19, 5, none, 9, 4, 1, 22),
  (yJ7_rangeCheck_23922, cJ7_rangeCheck_23922, 3, none, 9, 3, 0, 0),
  (yX0_become, cX0_become, 4, none, 0, 4, 5, 126),
  (yX0_closeTailBlock, cX0_closeTailBlock, 2, none, 0, 2, 3, 75),
  (yX0_findTwin, cX0_findTwin, 6, (some .int), 0, 3, 1, 23),
  (yX0_giveNumbers, cX0_giveNumbers, 4, none, 0, 2, 3, 68),
  (yX0_giveNumbersBelow, cX0_giveNumbersBelow, 6, none, 0, 3, 2, 43),
  (yX0_init, cX0_init, 1, none, 0, 1, 2, 60),
  (yX0_joinTail, cX0_joinTail, 7, none, 0, 4, 0, 0),
  (yX0_putBlocks, cX0_putBlocks, 5, none, 0, 4, 4, 102),
  (yX0_putBlocksOf, cX0_putBlocksOf, 8, none, 0, 5, 3, 75),
  (yX0_putExports, cX0_putExports, 3, none, 0, 2, 2, 42),
  (yX0_putFileRow, cX0_putFileRow, 8, none, 0, 5, 2, 42),
  (yX0_putFolders, cX0_putFolders, 7, none, 0, 3, 2, 43),
  (yX0_putHead, cX0_putHead, 4, none, 0, 3, 2, 42),
  (yX0_putInodes, cX0_putInodes, 9, none, 0, 4, 3, 69),
  (yX0_putTailBlocks, cX0_putTailBlocks, 7, none, 0, 4, 4, 96),
  (yX0_putTails, cX0_putTails, 3, none, 0, 2, 2, 42),
  (yX0_wholeBlocks, cX0_wholeBlocks, 2, (some .int), 0, 2, 0, 0),
  (yX1_blockByte, cX1_blockByte, 4, (some .int), 1, 4, 2, 48),
  (yX1_byteAt, cX1_byteAt, 2, (some .int), 1, 2, 0, 0),
  (yX1_canBeBlock, cX1_canBeBlock, 4, (some .boolean), 1, 4, 2, 47),
  (yX1_copyFrom, cX1_copyFrom, 2, none, 1, 2, 2, 41),
  (yX1_fileByte, cX1_fileByte, 8, (some .int), 1, 3, 3, 71),
  (yX1_firstNamePlace, cX1_firstNamePlace, 2, (some .int), 1, 2, 2, 42),
  (yX1_hasBytesOf, cX1_hasBytesOf, 3, (some .boolean), 1, 2, 0, 0),
  (yX1_hasNumber, cX1_hasNumber, 2, (some .boolean), 1, 2, 0, 0),
  (yX1_homeOf, cX1_homeOf, 2, (some .int), 1, 2, 2, 42),
  (yX1_init, cX1_init, 2, none, 1, 2, 1, 40),
  (yX1_kindOf, cX1_kindOf, 2, (some .int), 1, 2, 2, 42),
  (yX1_modeOf, cX1_modeOf, 2, (some .int), 1, 2, 2, 42),
  (yX1_namesOf, cX1_namesOf, 2, (some .int), 1, 2, 2, 42),
  (yX1_openedByte, cX1_openedByte, 8, (some .int), 1, 4, 1, 21),
  (yX1_openedBytes, cX1_openedBytes, 7, (some .int), 1, 3, 1, 21),
  (yX1_opensTo, cX1_opensTo, 1, (some .int), 1, 1, 0, 0),
  (yX1_ownerOf, cX1_ownerOf, 2, (some .int), 1, 2, 2, 42),
  (yX1_packetBytes, cX1_packetBytes, 1, (some .int), 1, 1, 0, 0),
  (yX1_putByte, cX1_putByte, 2, none, 1, 2, 0, 0),
  (yX1_putInt, cX1_putInt, 2, none, 1, 2, 2, 42),
  (yX1_putWord, cX1_putWord, 2, none, 1, 2, 1, 21),
  (yX1_readHead, cX1_readHead, 1, none, 1, 1, 1, 21),
  (yX1_rowOf, cX1_rowOf, 2, (some .int), 1, 2, 1, 21),
  (yX1_setWord, cX1_setWord, 3, none, 1, 3, 0, 0),
  (yX1_sizeOf, cX1_sizeOf, 4, (some .int), 1, 2, 2, 42),
  (yX1_storedBytes, cX1_storedBytes, 1, (some .int), 1, 1, 0, 0),
  (yX1_sum, cX1_sum, 4, (some .int), 1, 1, 0, 0),
  (yX1_tailBlocks, cX1_tailBlocks, 1, (some .int), 1, 1, 0, 0),
  (yX1_tailRow, cX1_tailRow, 2, (some .int), 1, 2, 0, 0),
  (yX1_targetOf, cX1_targetOf, 7, (some .int), 1, 3, 3, 65),
  (yX1_wholeBlocks, cX1_wholeBlocks, 2, (some .int), 1, 2, 0, 0),
  (yX1_wordAt, cX1_wordAt, 2, (some .int), 1, 2, 0, 0),
  (yX2_areFoldersNamedAtHome, cX2_areFoldersNamedAtHome, 7, (some .boolean), 2, 2, 3, 65),
  (yX2_areFoldersRight, cX2_areFoldersRight, 4, (some .boolean), 2, 1, 3, 65),
  (yX2_areInodesRight, cX2_areInodesRight, 4, (some .boolean), 2, 1, 4, 96),
  (yX2_areNamesRight, cX2_areNamesRight, 6, (some .boolean), 2, 3, 1, 21),
  (yX2_arePlacesRight, cX2_arePlacesRight, 1, (some .boolean), 2, 1, 1, 21),
  (yX2_areTailsRight, cX2_areTailsRight, 5, (some .boolean), 2, 1, 3, 70),
  (yX2_comesToFirst, cX2_comesToFirst, 4, (some .boolean), 2, 2, 3, 63),
  (yX2_firstFault, cX2_firstFault, 2, (some .int), 2, 2, 5, 119),
  (yX2_init, cX2_init, 1, none, 2, 1, 1, 40),
  (yX2_isFileRight, cX2_isFileRight, 7, (some .boolean), 2, 2, 3, 70),
  (yX2_isHeadRight, cX2_isHeadRight, 1, (some .boolean), 2, 1, 1, 21),
  (yX2_isTailRight, cX2_isTailRight, 5, (some .boolean), 2, 3, 1, 21),
  (yX2_isTreeRight, cX2_isTreeRight, 4, (some .boolean), 2, 2, 4, 91),
  (yX2_rowBytes, cX2_rowBytes, 2, (some .int), 2, 2, 1, 21),
  (yX3_addFound, cX3_addFound, 2, none, 3, 1, 0, 0),
  (yX3_addToFound, cX3_addToFound, 3, none, 3, 3, 0, 0),
  (yX3_byteOf, cX3_byteOf, 3, (some .int), 3, 3, 4, 98),
  (yX3_depthOf, cX3_depthOf, 2, (some .int), 3, 2, 0, 0),
  (yX3_find, cX3_find, 8, none, 3, 3, 4, 91),
  (yX3_hasView, cX3_hasView, 2, (some .boolean), 3, 2, 0, 0),
  (yX3_imageOf, cX3_imageOf, 2, (some .int), 3, 2, 0, 0),
  (yX3_init, cX3_init, 3, none, 3, 1, 2, 61),
  (yX3_isLaid, cX3_isLaid, 3, (some .boolean), 3, 2, 0, 0),
  (yX3_kindOf, cX3_kindOf, 2, (some .int), 3, 2, 3, 63),
  (yX3_lay, cX3_lay, 3, (some .int), 3, 3, 2, 43),
  (yX3_lead, cX3_lead, 4, (some .int), 3, 3, 5, 118),
  (yX3_modeOf, cX3_modeOf, 2, (some .int), 3, 2, 3, 63),
  (yX3_nameBelow, cX3_nameBelow, 5, (some .int), 3, 3, 4, 92),
  (yX3_nextName, cX3_nextName, 7, (some .int), 3, 2, 3, 65),
  (yX3_numberOf, cX3_numberOf, 2, (some .int), 3, 2, 0, 0),
  (yX3_ownerOf, cX3_ownerOf, 2, (some .int), 3, 2, 3, 63),
  (yX3_passName, cX3_passName, 8, (some .int), 3, 3, 3, 65),
  (yX3_sizeOf, cX3_sizeOf, 2, (some .int), 3, 2, 5, 116),
  (yX3_startViews, cX3_startViews, 2, none, 3, 1, 1, 22),
  (yX3_takeAway, cX3_takeAway, 2, (some .int), 3, 1, 0, 0),
  (yX3_upperImage, cX3_upperImage, 2, (some (.object "TreeImages$Image")), 3, 2, 0, 0),
  (yX4_addPacked, cX4_addPacked, 2, none, 4, 2, 0, 0),
  (yX4_copy, cX4_copy, 5, none, 4, 4, 1, 21),
  (yX4_init, cX4_init, 1, none, 4, 1, 1, 40),
  (yX4_isZero, cX4_isZero, 4, (some .boolean), 4, 3, 0, 0),
  (yX4_nextRun, cX4_nextRun, 4, (some .int), 4, 3, 0, 0),
  (yX4_pack, cX4_pack, 9, none, 4, 4, 1, 23),
  (yX4_runAt, cX4_runAt, 4, (some .int), 4, 3, 0, 0),
  (yX4_store, cX4_store, 5, (some .int), 4, 5, 2, 51),
  (yX5_addName, cX5_addName, 7, (some .int), 5, 4, 1, 22),
  (yX5_addNode, cX5_addNode, 5, (some .int), 5, 4, 2, 48),
  (yX5_append, cX5_append, 5, (some .int), 5, 4, 2, 46),
  (yX5_firstFrom, cX5_firstFrom, 3, (some .int), 5, 2, 0, 0),
  (yX5_firstNameOf, cX5_firstNameOf, 2, (some .int), 5, 2, 1, 22),
  (yX5_hasNode, cX5_hasNode, 2, (some .boolean), 5, 2, 0, 0),
  (yX5_haveSameBytes, cX5_haveSameBytes, 4, (some .boolean), 5, 3, 0, 0),
  (yX5_init, cX5_init, 1, none, 5, 1, 2, 43),
  (yX5_nameAt, cX5_nameAt, 2, (some .int), 5, 2, 0, 0),
  (yX5_reset, cX5_reset, 1, none, 5, 1, 1, 23),
  (yX5_startNode, cX5_startNode, 4, none, 5, 3, 0, 0),
  (yX5_takesName, cX5_takesName, 5, (some .boolean), 5, 3, 1, 22),
  (yX6_addBelow, cX6_addBelow, 4, (some .int), 6, 4, 3, 72),
  (yX6_bare, cX6_bare, 1, (some .int), 6, 1, 1, 21),
  (yX6_build, cX6_build, 2, (some .int), 6, 2, 6, 149),
  (yX6_clear, cX6_clear, 2, (some .int), 6, 1, 2, 43),
  (yX6_count, cX6_count, 2, (some .int), 6, 2, 0, 0),
  (yX6_data, cX6_data, 4, (some .int), 6, 4, 3, 70),
  (yX6_drop, cX6_drop, 1, (some .int), 6, 1, 1, 22),
  (yX6_end, cX6_end, 2, (some .int), 6, 2, 0, 0),
  (yX6_feed, cX6_feed, 6, (some .int), 6, 6, 3, 63),
  (yX6_file, cX6_file, 3, (some .int), 6, 3, 4, 95),
  (yX6_folder, cX6_folder, 3, (some .int), 6, 3, 4, 95),
  (yX6_hasImage, cX6_hasImage, 2, (some .boolean), 6, 2, 0, 0),
  (yX6_hide, cX6_hide, 3, (some .int), 6, 3, 4, 95),
  (yX6_image, cX6_image, 4, (some .int), 6, 3, 1, 21),
  (yX6_init, cX6_init, 2, none, 6, 1, 3, 83),
  (yX6_isBlock, cX6_isBlock, 1, (some .boolean), 6, 1, 0, 0),
  (yX6_isName, cX6_isName, 1, (some .boolean), 6, 1, 0, 0),
  (yX6_isWord, cX6_isWord, 1, (some .boolean), 6, 1, 0, 0),
  (yX6_link, cX6_link, 4, (some .int), 6, 4, 2, 48),
  (yX6_list, cX6_list, 3, (some .int), 6, 3, 5, 116),
  (yX6_load, cX6_load, 2, (some .int), 6, 1, 6, 140),
  (yX6_look, cX6_look, 3, (some .int), 6, 3, 6, 141),
  (yX6_node, cX6_node, 5, (some .int), 6, 4, 3, 65),
  (yX6_out, cX6_out, 3, (some .int), 6, 3, 1, 21),
  (yX6_over, cX6_over, 2, (some .int), 6, 2, 3, 65),
  (yX6_owner, cX6_owner, 4, (some .int), 6, 4, 1, 21),
  (yX6_read, cX6_read, 3, (some .int), 6, 3, 6, 137),
  (yX6_same, cX6_same, 3, (some .int), 6, 3, 1, 22),
  (yX6_view, cX6_view, 3, (some .int), 6, 3, 6, 137),
  (yX7_alike, cX7_alike, 4, (some .int), 7, 3, 0, 0),
  (yX7_areFolders, cX7_areFolders, 9, (some .boolean), 7, 3, 4, 88),
  (yX7_areInodes, cX7_areInodes, 10, (some .boolean), 7, 4, 4, 104),
  (yX7_areTails, cX7_areTails, 8, (some .boolean), 7, 3, 3, 72),
  (yX7_bare, cX7_bare, 2, (some .int), 7, 1, 1, 21),
  (yX7_build, cX7_build, 7, (some .int), 7, 2, 4, 98),
  (yX7_byteAt, cX7_byteAt, 3, (some .int), 7, 3, 0, 0),
  (yX7_canBe, cX7_canBe, 9, (some .boolean), 7, 5, 2, 44),
  (yX7_child, cX7_child, 6, (some .int), 7, 4, 4, 88),
  (yX7_clear, cX7_clear, 2, (some .int), 7, 1, 0, 0),
  (yX7_comes, cX7_comes, 4, (some .int), 7, 4, 2, 43),
  (yX7_count, cX7_count, 2, (some .int), 7, 2, 0, 0),
  (yX7_data, cX7_data, 5, (some .int), 7, 4, 2, 43),
  (yX7_drop, cX7_drop, 1, (some .int), 7, 1, 1, 23),
  (yX7_end, cX7_end, 2, (some .int), 7, 2, 1, 22),
  (yX7_feed, cX7_feed, 8, (some .int), 7, 6, 0, 0),
  (yX7_file, cX7_file, 3, (some .int), 7, 3, 3, 66),
  (yX7_first, cX7_first, 2, none, 7, 1, 0, 0),
  (yX7_firstLike, cX7_firstLike, 4, (some .int), 7, 2, 1, 24),
  (yX7_firstOf, cX7_firstOf, 3, (some .int), 7, 3, 3, 66),
  (yX7_folder, cX7_folder, 3, (some .int), 7, 3, 3, 66),
  (yX7_hide, cX7_hide, 3, (some .int), 7, 3, 3, 66),
  (yX7_image, cX7_image, 3, (some .int), 7, 3, 3, 65),
  (yX7_in, cX7_in, 3, (some .boolean), 7, 3, 0, 0),
  (yX7_init, cX7_init, 1, none, 7, 1, 1, 40),
  (yX7_inode, cX7_inode, 3, (some .int), 7, 3, 2, 44),
  (yX7_isFile, cX7_isFile, 13, (some .boolean), 7, 4, 3, 72),
  (yX7_isFolder, cX7_isFolder, 3, (some .boolean), 7, 3, 3, 66),
  (yX7_isImage, cX7_isImage, 2, (some .boolean), 7, 2, 1, 22),
  (yX7_isLaid, cX7_isLaid, 4, (some .boolean), 7, 2, 0, 0),
  (yX7_isNode, cX7_isNode, 2, (some .boolean), 7, 2, 1, 22),
  (yX7_isSameFile, cX7_isSameFile, 5, (some .boolean), 7, 3, 0, 0),
  (yX7_isThere, cX7_isThere, 5, (some .boolean), 7, 3, 0, 0),
  (yX7_isTree, cX7_isTree, 7, (some .boolean), 7, 3, 5, 116),
  (yX7_isView, cX7_isView, 2, (some .boolean), 7, 2, 1, 22),
  (yX7_judge, cX7_judge, 5, (some .int), 7, 2, 6, 142),
  (yX7_kindOf, cX7_kindOf, 2, (some .int), 7, 2, 4, 91),
  (yX7_leads, cX7_leads, 9, (some .int), 7, 3, 5, 113),
  (yX7_lies, cX7_lies, 1, (some .int), 7, 1, 0, 0),
  (yX7_link, cX7_link, 4, (some .int), 7, 4, 2, 43),
  (yX7_list, cX7_list, 5, (some .int), 7, 3, 7, 164),
  (yX7_load, cX7_load, 2, (some .int), 7, 1, 7, 166),
  (yX7_look, cX7_look, 7, (some .int), 7, 3, 6, 141),
  (yX7_manyOf, cX7_manyOf, 3, (some .int), 7, 3, 3, 66),
  (yX7_nameAt, cX7_nameAt, 3, (some .int), 7, 3, 2, 44),
  (yX7_nameIt, cX7_nameIt, 4, none, 7, 4, 0, 0),
  (yX7_named, cX7_named, 9, (some .int), 7, 5, 4, 88),
  (yX7_namesIn, cX7_namesIn, 4, (some .int), 7, 2, 7, 164),
  (yX7_namesOf, cX7_namesOf, 4, (some .int), 7, 2, 0, 0),
  (yX7_nextIn, cX7_nextIn, 4, (some .int), 7, 3, 6, 141),
  (yX7_nextName, cX7_nextName, 5, (some .int), 7, 3, 0, 0),
  (yX7_node, cX7_node, 4, (some .int), 7, 4, 4, 91),
  (yX7_number, cX7_number, 5, none, 7, 1, 1, 24),
  (yX7_numberAt, cX7_numberAt, 3, (some .int), 7, 3, 2, 44),
  (yX7_numbersIn, cX7_numbersIn, 2, (some .int), 7, 2, 2, 44),
  (yX7_opened, cX7_opened, 8, (some .int), 7, 5, 1, 22),
  (yX7_out, cX7_out, 3, (some .int), 7, 3, 2, 43),
  (yX7_over, cX7_over, 2, (some .int), 7, 2, 2, 43),
  (yX7_owner, cX7_owner, 4, (some .int), 7, 4, 2, 43),
  (yX7_pack, cX7_pack, 6, none, 7, 2, 1, 23),
  (yX7_putWord, cX7_putWord, 3, none, 7, 3, 0, 0),
  (yX7_read, cX7_read, 10, (some .int), 7, 3, 5, 112),
  (yX7_same, cX7_same, 5, (some .int), 7, 3, 2, 43),
  (yX7_store, cX7_store, 4, (some .int), 7, 2, 2, 48),
  (yX7_sumOf, cX7_sumOf, 5, (some .int), 7, 2, 0, 0),
  (yX7_tailsIn, cX7_tailsIn, 2, (some .int), 7, 2, 2, 44),
  (yX7_tell, cX7_tell, 2, none, 7, 2, 0, 0),
  (yX7_tellFile, cX7_tellFile, 8, none, 7, 3, 3, 71),
  (yX7_tellInodes, cX7_tellInodes, 9, none, 7, 2, 2, 42),
  (yX7_tellWord, cX7_tellWord, 2, none, 7, 2, 1, 21),
  (yX7_thrown, cX7_thrown, 1, (some .int), 7, 1, 0, 0),
  (yX7_told, cX7_told, 6, (some .int), 7, 4, 3, 66),
  (yX7_view, cX7_view, 5, (some .int), 7, 3, 8, 187),
  (yX7_word, cX7_word, 3, (some .int), 7, 3, 1, 22),
  (yL_law, cL_law, 7, (some .boolean), 8, 1, 12, 300)]
def zt_M (y : Nat) : Option zx_M := zt_Ml[y]?
theorem zM_J7_fill_53178 : zt_M 0 = some (yJ7_fill_53178, cJ7_fill_53178, 4, none, 9, 2, 0, 0) := rfl
theorem zM_J7_fill_fda19 : zt_M 1 = some (yJ7_fill_fda19, cJ7_fill_fda19, 5, none, 9, 4, 1, 22) := rfl
theorem zM_J7_rangeCheck_23922 : zt_M 2 = some (yJ7_rangeCheck_23922, cJ7_rangeCheck_23922, 3, none, 9, 3, 0, 0) := rfl
theorem zM_X0_become : zt_M 3 = some (yX0_become, cX0_become, 4, none, 0, 4, 5, 126) := rfl
theorem zM_X0_closeTailBlock : zt_M 4 = some (yX0_closeTailBlock, cX0_closeTailBlock, 2, none, 0, 2, 3, 75) := rfl
theorem zM_X0_findTwin : zt_M 5 = some (yX0_findTwin, cX0_findTwin, 6, (some .int), 0, 3, 1, 23) := rfl
theorem zM_X0_giveNumbers : zt_M 6 = some (yX0_giveNumbers, cX0_giveNumbers, 4, none, 0, 2, 3, 68) := rfl
theorem zM_X0_giveNumbersBelow : zt_M 7 = some (yX0_giveNumbersBelow, cX0_giveNumbersBelow, 6, none, 0, 3, 2, 43) := rfl
theorem zM_X0_init : zt_M 8 = some (yX0_init, cX0_init, 1, none, 0, 1, 2, 60) := rfl
theorem zM_X0_joinTail : zt_M 9 = some (yX0_joinTail, cX0_joinTail, 7, none, 0, 4, 0, 0) := rfl
theorem zM_X0_putBlocks : zt_M 10 = some (yX0_putBlocks, cX0_putBlocks, 5, none, 0, 4, 4, 102) := rfl
theorem zM_X0_putBlocksOf : zt_M 11 = some (yX0_putBlocksOf, cX0_putBlocksOf, 8, none, 0, 5, 3, 75) := rfl
theorem zM_X0_putExports : zt_M 12 = some (yX0_putExports, cX0_putExports, 3, none, 0, 2, 2, 42) := rfl
theorem zM_X0_putFileRow : zt_M 13 = some (yX0_putFileRow, cX0_putFileRow, 8, none, 0, 5, 2, 42) := rfl
theorem zM_X0_putFolders : zt_M 14 = some (yX0_putFolders, cX0_putFolders, 7, none, 0, 3, 2, 43) := rfl
theorem zM_X0_putHead : zt_M 15 = some (yX0_putHead, cX0_putHead, 4, none, 0, 3, 2, 42) := rfl
theorem zM_X0_putInodes : zt_M 16 = some (yX0_putInodes, cX0_putInodes, 9, none, 0, 4, 3, 69) := rfl
theorem zM_X0_putTailBlocks : zt_M 17 = some (yX0_putTailBlocks, cX0_putTailBlocks, 7, none, 0, 4, 4, 96) := rfl
theorem zM_X0_putTails : zt_M 18 = some (yX0_putTails, cX0_putTails, 3, none, 0, 2, 2, 42) := rfl
theorem zM_X0_wholeBlocks : zt_M 19 = some (yX0_wholeBlocks, cX0_wholeBlocks, 2, (some .int), 0, 2, 0, 0) := rfl
theorem zM_X1_blockByte : zt_M 20 = some (yX1_blockByte, cX1_blockByte, 4, (some .int), 1, 4, 2, 48) := rfl
theorem zM_X1_byteAt : zt_M 21 = some (yX1_byteAt, cX1_byteAt, 2, (some .int), 1, 2, 0, 0) := rfl
theorem zM_X1_canBeBlock : zt_M 22 = some (yX1_canBeBlock, cX1_canBeBlock, 4, (some .boolean), 1, 4, 2, 47) := rfl
theorem zM_X1_copyFrom : zt_M 23 = some (yX1_copyFrom, cX1_copyFrom, 2, none, 1, 2, 2, 41) := rfl
theorem zM_X1_fileByte : zt_M 24 = some (yX1_fileByte, cX1_fileByte, 8, (some .int), 1, 3, 3, 71) := rfl
theorem zM_X1_firstNamePlace : zt_M 25 = some (yX1_firstNamePlace, cX1_firstNamePlace, 2, (some .int), 1, 2, 2, 42) := rfl
theorem zM_X1_hasBytesOf : zt_M 26 = some (yX1_hasBytesOf, cX1_hasBytesOf, 3, (some .boolean), 1, 2, 0, 0) := rfl
theorem zM_X1_hasNumber : zt_M 27 = some (yX1_hasNumber, cX1_hasNumber, 2, (some .boolean), 1, 2, 0, 0) := rfl
theorem zM_X1_homeOf : zt_M 28 = some (yX1_homeOf, cX1_homeOf, 2, (some .int), 1, 2, 2, 42) := rfl
theorem zM_X1_init : zt_M 29 = some (yX1_init, cX1_init, 2, none, 1, 2, 1, 40) := rfl
theorem zM_X1_kindOf : zt_M 30 = some (yX1_kindOf, cX1_kindOf, 2, (some .int), 1, 2, 2, 42) := rfl
theorem zM_X1_modeOf : zt_M 31 = some (yX1_modeOf, cX1_modeOf, 2, (some .int), 1, 2, 2, 42) := rfl
theorem zM_X1_namesOf : zt_M 32 = some (yX1_namesOf, cX1_namesOf, 2, (some .int), 1, 2, 2, 42) := rfl
theorem zM_X1_openedByte : zt_M 33 = some (yX1_openedByte, cX1_openedByte, 8, (some .int), 1, 4, 1, 21) := rfl
theorem zM_X1_openedBytes : zt_M 34 = some (yX1_openedBytes, cX1_openedBytes, 7, (some .int), 1, 3, 1, 21) := rfl
theorem zM_X1_opensTo : zt_M 35 = some (yX1_opensTo, cX1_opensTo, 1, (some .int), 1, 1, 0, 0) := rfl
theorem zM_X1_ownerOf : zt_M 36 = some (yX1_ownerOf, cX1_ownerOf, 2, (some .int), 1, 2, 2, 42) := rfl
theorem zM_X1_packetBytes : zt_M 37 = some (yX1_packetBytes, cX1_packetBytes, 1, (some .int), 1, 1, 0, 0) := rfl
theorem zM_X1_putByte : zt_M 38 = some (yX1_putByte, cX1_putByte, 2, none, 1, 2, 0, 0) := rfl
theorem zM_X1_putInt : zt_M 39 = some (yX1_putInt, cX1_putInt, 2, none, 1, 2, 2, 42) := rfl
theorem zM_X1_putWord : zt_M 40 = some (yX1_putWord, cX1_putWord, 2, none, 1, 2, 1, 21) := rfl
theorem zM_X1_readHead : zt_M 41 = some (yX1_readHead, cX1_readHead, 1, none, 1, 1, 1, 21) := rfl
theorem zM_X1_rowOf : zt_M 42 = some (yX1_rowOf, cX1_rowOf, 2, (some .int), 1, 2, 1, 21) := rfl
theorem zM_X1_setWord : zt_M 43 = some (yX1_setWord, cX1_setWord, 3, none, 1, 3, 0, 0) := rfl
theorem zM_X1_sizeOf : zt_M 44 = some (yX1_sizeOf, cX1_sizeOf, 4, (some .int), 1, 2, 2, 42) := rfl
theorem zM_X1_storedBytes : zt_M 45 = some (yX1_storedBytes, cX1_storedBytes, 1, (some .int), 1, 1, 0, 0) := rfl
theorem zM_X1_sum : zt_M 46 = some (yX1_sum, cX1_sum, 4, (some .int), 1, 1, 0, 0) := rfl
theorem zM_X1_tailBlocks : zt_M 47 = some (yX1_tailBlocks, cX1_tailBlocks, 1, (some .int), 1, 1, 0, 0) := rfl
theorem zM_X1_tailRow : zt_M 48 = some (yX1_tailRow, cX1_tailRow, 2, (some .int), 1, 2, 0, 0) := rfl
theorem zM_X1_targetOf : zt_M 49 = some (yX1_targetOf, cX1_targetOf, 7, (some .int), 1, 3, 3, 65) := rfl
theorem zM_X1_wholeBlocks : zt_M 50 = some (yX1_wholeBlocks, cX1_wholeBlocks, 2, (some .int), 1, 2, 0, 0) := rfl
theorem zM_X1_wordAt : zt_M 51 = some (yX1_wordAt, cX1_wordAt, 2, (some .int), 1, 2, 0, 0) := rfl
theorem zM_X2_areFoldersNamedAtHome : zt_M 52 = some (yX2_areFoldersNamedAtHome, cX2_areFoldersNamedAtHome, 7, (some .boolean), 2, 2, 3, 65) := rfl
theorem zM_X2_areFoldersRight : zt_M 53 = some (yX2_areFoldersRight, cX2_areFoldersRight, 4, (some .boolean), 2, 1, 3, 65) := rfl
theorem zM_X2_areInodesRight : zt_M 54 = some (yX2_areInodesRight, cX2_areInodesRight, 4, (some .boolean), 2, 1, 4, 96) := rfl
theorem zM_X2_areNamesRight : zt_M 55 = some (yX2_areNamesRight, cX2_areNamesRight, 6, (some .boolean), 2, 3, 1, 21) := rfl
theorem zM_X2_arePlacesRight : zt_M 56 = some (yX2_arePlacesRight, cX2_arePlacesRight, 1, (some .boolean), 2, 1, 1, 21) := rfl
theorem zM_X2_areTailsRight : zt_M 57 = some (yX2_areTailsRight, cX2_areTailsRight, 5, (some .boolean), 2, 1, 3, 70) := rfl
theorem zM_X2_comesToFirst : zt_M 58 = some (yX2_comesToFirst, cX2_comesToFirst, 4, (some .boolean), 2, 2, 3, 63) := rfl
theorem zM_X2_firstFault : zt_M 59 = some (yX2_firstFault, cX2_firstFault, 2, (some .int), 2, 2, 5, 119) := rfl
theorem zM_X2_init : zt_M 60 = some (yX2_init, cX2_init, 1, none, 2, 1, 1, 40) := rfl
theorem zM_X2_isFileRight : zt_M 61 = some (yX2_isFileRight, cX2_isFileRight, 7, (some .boolean), 2, 2, 3, 70) := rfl
theorem zM_X2_isHeadRight : zt_M 62 = some (yX2_isHeadRight, cX2_isHeadRight, 1, (some .boolean), 2, 1, 1, 21) := rfl
theorem zM_X2_isTailRight : zt_M 63 = some (yX2_isTailRight, cX2_isTailRight, 5, (some .boolean), 2, 3, 1, 21) := rfl
theorem zM_X2_isTreeRight : zt_M 64 = some (yX2_isTreeRight, cX2_isTreeRight, 4, (some .boolean), 2, 2, 4, 91) := rfl
theorem zM_X2_rowBytes : zt_M 65 = some (yX2_rowBytes, cX2_rowBytes, 2, (some .int), 2, 2, 1, 21) := rfl
theorem zM_X3_addFound : zt_M 66 = some (yX3_addFound, cX3_addFound, 2, none, 3, 1, 0, 0) := rfl
theorem zM_X3_addToFound : zt_M 67 = some (yX3_addToFound, cX3_addToFound, 3, none, 3, 3, 0, 0) := rfl
theorem zM_X3_byteOf : zt_M 68 = some (yX3_byteOf, cX3_byteOf, 3, (some .int), 3, 3, 4, 98) := rfl
theorem zM_X3_depthOf : zt_M 69 = some (yX3_depthOf, cX3_depthOf, 2, (some .int), 3, 2, 0, 0) := rfl
theorem zM_X3_find : zt_M 70 = some (yX3_find, cX3_find, 8, none, 3, 3, 4, 91) := rfl
theorem zM_X3_hasView : zt_M 71 = some (yX3_hasView, cX3_hasView, 2, (some .boolean), 3, 2, 0, 0) := rfl
theorem zM_X3_imageOf : zt_M 72 = some (yX3_imageOf, cX3_imageOf, 2, (some .int), 3, 2, 0, 0) := rfl
theorem zM_X3_init : zt_M 73 = some (yX3_init, cX3_init, 3, none, 3, 1, 2, 61) := rfl
theorem zM_X3_isLaid : zt_M 74 = some (yX3_isLaid, cX3_isLaid, 3, (some .boolean), 3, 2, 0, 0) := rfl
theorem zM_X3_kindOf : zt_M 75 = some (yX3_kindOf, cX3_kindOf, 2, (some .int), 3, 2, 3, 63) := rfl
theorem zM_X3_lay : zt_M 76 = some (yX3_lay, cX3_lay, 3, (some .int), 3, 3, 2, 43) := rfl
theorem zM_X3_lead : zt_M 77 = some (yX3_lead, cX3_lead, 4, (some .int), 3, 3, 5, 118) := rfl
theorem zM_X3_modeOf : zt_M 78 = some (yX3_modeOf, cX3_modeOf, 2, (some .int), 3, 2, 3, 63) := rfl
theorem zM_X3_nameBelow : zt_M 79 = some (yX3_nameBelow, cX3_nameBelow, 5, (some .int), 3, 3, 4, 92) := rfl
theorem zM_X3_nextName : zt_M 80 = some (yX3_nextName, cX3_nextName, 7, (some .int), 3, 2, 3, 65) := rfl
theorem zM_X3_numberOf : zt_M 81 = some (yX3_numberOf, cX3_numberOf, 2, (some .int), 3, 2, 0, 0) := rfl
theorem zM_X3_ownerOf : zt_M 82 = some (yX3_ownerOf, cX3_ownerOf, 2, (some .int), 3, 2, 3, 63) := rfl
theorem zM_X3_passName : zt_M 83 = some (yX3_passName, cX3_passName, 8, (some .int), 3, 3, 3, 65) := rfl
theorem zM_X3_sizeOf : zt_M 84 = some (yX3_sizeOf, cX3_sizeOf, 2, (some .int), 3, 2, 5, 116) := rfl
theorem zM_X3_startViews : zt_M 85 = some (yX3_startViews, cX3_startViews, 2, none, 3, 1, 1, 22) := rfl
theorem zM_X3_takeAway : zt_M 86 = some (yX3_takeAway, cX3_takeAway, 2, (some .int), 3, 1, 0, 0) := rfl
theorem zM_X3_upperImage : zt_M 87 = some (yX3_upperImage, cX3_upperImage, 2, (some (.object "TreeImages$Image")), 3, 2, 0, 0) := rfl
theorem zM_X4_addPacked : zt_M 88 = some (yX4_addPacked, cX4_addPacked, 2, none, 4, 2, 0, 0) := rfl
theorem zM_X4_copy : zt_M 89 = some (yX4_copy, cX4_copy, 5, none, 4, 4, 1, 21) := rfl
theorem zM_X4_init : zt_M 90 = some (yX4_init, cX4_init, 1, none, 4, 1, 1, 40) := rfl
theorem zM_X4_isZero : zt_M 91 = some (yX4_isZero, cX4_isZero, 4, (some .boolean), 4, 3, 0, 0) := rfl
theorem zM_X4_nextRun : zt_M 92 = some (yX4_nextRun, cX4_nextRun, 4, (some .int), 4, 3, 0, 0) := rfl
theorem zM_X4_pack : zt_M 93 = some (yX4_pack, cX4_pack, 9, none, 4, 4, 1, 23) := rfl
theorem zM_X4_runAt : zt_M 94 = some (yX4_runAt, cX4_runAt, 4, (some .int), 4, 3, 0, 0) := rfl
theorem zM_X4_store : zt_M 95 = some (yX4_store, cX4_store, 5, (some .int), 4, 5, 2, 51) := rfl
theorem zM_X5_addName : zt_M 96 = some (yX5_addName, cX5_addName, 7, (some .int), 5, 4, 1, 22) := rfl
theorem zM_X5_addNode : zt_M 97 = some (yX5_addNode, cX5_addNode, 5, (some .int), 5, 4, 2, 48) := rfl
theorem zM_X5_append : zt_M 98 = some (yX5_append, cX5_append, 5, (some .int), 5, 4, 2, 46) := rfl
theorem zM_X5_firstFrom : zt_M 99 = some (yX5_firstFrom, cX5_firstFrom, 3, (some .int), 5, 2, 0, 0) := rfl
theorem zM_X5_firstNameOf : zt_M 100 = some (yX5_firstNameOf, cX5_firstNameOf, 2, (some .int), 5, 2, 1, 22) := rfl
theorem zM_X5_hasNode : zt_M 101 = some (yX5_hasNode, cX5_hasNode, 2, (some .boolean), 5, 2, 0, 0) := rfl
theorem zM_X5_haveSameBytes : zt_M 102 = some (yX5_haveSameBytes, cX5_haveSameBytes, 4, (some .boolean), 5, 3, 0, 0) := rfl
theorem zM_X5_init : zt_M 103 = some (yX5_init, cX5_init, 1, none, 5, 1, 2, 43) := rfl
theorem zM_X5_nameAt : zt_M 104 = some (yX5_nameAt, cX5_nameAt, 2, (some .int), 5, 2, 0, 0) := rfl
theorem zM_X5_reset : zt_M 105 = some (yX5_reset, cX5_reset, 1, none, 5, 1, 1, 23) := rfl
theorem zM_X5_startNode : zt_M 106 = some (yX5_startNode, cX5_startNode, 4, none, 5, 3, 0, 0) := rfl
theorem zM_X5_takesName : zt_M 107 = some (yX5_takesName, cX5_takesName, 5, (some .boolean), 5, 3, 1, 22) := rfl
theorem zM_X6_addBelow : zt_M 108 = some (yX6_addBelow, cX6_addBelow, 4, (some .int), 6, 4, 3, 72) := rfl
theorem zM_X6_bare : zt_M 109 = some (yX6_bare, cX6_bare, 1, (some .int), 6, 1, 1, 21) := rfl
theorem zM_X6_build : zt_M 110 = some (yX6_build, cX6_build, 2, (some .int), 6, 2, 6, 149) := rfl
theorem zM_X6_clear : zt_M 111 = some (yX6_clear, cX6_clear, 2, (some .int), 6, 1, 2, 43) := rfl
theorem zM_X6_count : zt_M 112 = some (yX6_count, cX6_count, 2, (some .int), 6, 2, 0, 0) := rfl
theorem zM_X6_data : zt_M 113 = some (yX6_data, cX6_data, 4, (some .int), 6, 4, 3, 70) := rfl
theorem zM_X6_drop : zt_M 114 = some (yX6_drop, cX6_drop, 1, (some .int), 6, 1, 1, 22) := rfl
theorem zM_X6_end : zt_M 115 = some (yX6_end, cX6_end, 2, (some .int), 6, 2, 0, 0) := rfl
theorem zM_X6_feed : zt_M 116 = some (yX6_feed, cX6_feed, 6, (some .int), 6, 6, 3, 63) := rfl
theorem zM_X6_file : zt_M 117 = some (yX6_file, cX6_file, 3, (some .int), 6, 3, 4, 95) := rfl
theorem zM_X6_folder : zt_M 118 = some (yX6_folder, cX6_folder, 3, (some .int), 6, 3, 4, 95) := rfl
theorem zM_X6_hasImage : zt_M 119 = some (yX6_hasImage, cX6_hasImage, 2, (some .boolean), 6, 2, 0, 0) := rfl
theorem zM_X6_hide : zt_M 120 = some (yX6_hide, cX6_hide, 3, (some .int), 6, 3, 4, 95) := rfl
theorem zM_X6_image : zt_M 121 = some (yX6_image, cX6_image, 4, (some .int), 6, 3, 1, 21) := rfl
theorem zM_X6_init : zt_M 122 = some (yX6_init, cX6_init, 2, none, 6, 1, 3, 83) := rfl
theorem zM_X6_isBlock : zt_M 123 = some (yX6_isBlock, cX6_isBlock, 1, (some .boolean), 6, 1, 0, 0) := rfl
theorem zM_X6_isName : zt_M 124 = some (yX6_isName, cX6_isName, 1, (some .boolean), 6, 1, 0, 0) := rfl
theorem zM_X6_isWord : zt_M 125 = some (yX6_isWord, cX6_isWord, 1, (some .boolean), 6, 1, 0, 0) := rfl
theorem zM_X6_link : zt_M 126 = some (yX6_link, cX6_link, 4, (some .int), 6, 4, 2, 48) := rfl
theorem zM_X6_list : zt_M 127 = some (yX6_list, cX6_list, 3, (some .int), 6, 3, 5, 116) := rfl
theorem zM_X6_load : zt_M 128 = some (yX6_load, cX6_load, 2, (some .int), 6, 1, 6, 140) := rfl
theorem zM_X6_look : zt_M 129 = some (yX6_look, cX6_look, 3, (some .int), 6, 3, 6, 141) := rfl
theorem zM_X6_node : zt_M 130 = some (yX6_node, cX6_node, 5, (some .int), 6, 4, 3, 65) := rfl
theorem zM_X6_out : zt_M 131 = some (yX6_out, cX6_out, 3, (some .int), 6, 3, 1, 21) := rfl
theorem zM_X6_over : zt_M 132 = some (yX6_over, cX6_over, 2, (some .int), 6, 2, 3, 65) := rfl
theorem zM_X6_owner : zt_M 133 = some (yX6_owner, cX6_owner, 4, (some .int), 6, 4, 1, 21) := rfl
theorem zM_X6_read : zt_M 134 = some (yX6_read, cX6_read, 3, (some .int), 6, 3, 6, 137) := rfl
theorem zM_X6_same : zt_M 135 = some (yX6_same, cX6_same, 3, (some .int), 6, 3, 1, 22) := rfl
theorem zM_X6_view : zt_M 136 = some (yX6_view, cX6_view, 3, (some .int), 6, 3, 6, 137) := rfl
theorem zM_X7_alike : zt_M 137 = some (yX7_alike, cX7_alike, 4, (some .int), 7, 3, 0, 0) := rfl
theorem zM_X7_areFolders : zt_M 138 = some (yX7_areFolders, cX7_areFolders, 9, (some .boolean), 7, 3, 4, 88) := rfl
theorem zM_X7_areInodes : zt_M 139 = some (yX7_areInodes, cX7_areInodes, 10, (some .boolean), 7, 4, 4, 104) := rfl
theorem zM_X7_areTails : zt_M 140 = some (yX7_areTails, cX7_areTails, 8, (some .boolean), 7, 3, 3, 72) := rfl
theorem zM_X7_bare : zt_M 141 = some (yX7_bare, cX7_bare, 2, (some .int), 7, 1, 1, 21) := rfl
theorem zM_X7_build : zt_M 142 = some (yX7_build, cX7_build, 7, (some .int), 7, 2, 4, 98) := rfl
theorem zM_X7_byteAt : zt_M 143 = some (yX7_byteAt, cX7_byteAt, 3, (some .int), 7, 3, 0, 0) := rfl
theorem zM_X7_canBe : zt_M 144 = some (yX7_canBe, cX7_canBe, 9, (some .boolean), 7, 5, 2, 44) := rfl
theorem zM_X7_child : zt_M 145 = some (yX7_child, cX7_child, 6, (some .int), 7, 4, 4, 88) := rfl
theorem zM_X7_clear : zt_M 146 = some (yX7_clear, cX7_clear, 2, (some .int), 7, 1, 0, 0) := rfl
theorem zM_X7_comes : zt_M 147 = some (yX7_comes, cX7_comes, 4, (some .int), 7, 4, 2, 43) := rfl
theorem zM_X7_count : zt_M 148 = some (yX7_count, cX7_count, 2, (some .int), 7, 2, 0, 0) := rfl
theorem zM_X7_data : zt_M 149 = some (yX7_data, cX7_data, 5, (some .int), 7, 4, 2, 43) := rfl
theorem zM_X7_drop : zt_M 150 = some (yX7_drop, cX7_drop, 1, (some .int), 7, 1, 1, 23) := rfl
theorem zM_X7_end : zt_M 151 = some (yX7_end, cX7_end, 2, (some .int), 7, 2, 1, 22) := rfl
theorem zM_X7_feed : zt_M 152 = some (yX7_feed, cX7_feed, 8, (some .int), 7, 6, 0, 0) := rfl
theorem zM_X7_file : zt_M 153 = some (yX7_file, cX7_file, 3, (some .int), 7, 3, 3, 66) := rfl
theorem zM_X7_first : zt_M 154 = some (yX7_first, cX7_first, 2, none, 7, 1, 0, 0) := rfl
theorem zM_X7_firstLike : zt_M 155 = some (yX7_firstLike, cX7_firstLike, 4, (some .int), 7, 2, 1, 24) := rfl
theorem zM_X7_firstOf : zt_M 156 = some (yX7_firstOf, cX7_firstOf, 3, (some .int), 7, 3, 3, 66) := rfl
theorem zM_X7_folder : zt_M 157 = some (yX7_folder, cX7_folder, 3, (some .int), 7, 3, 3, 66) := rfl
theorem zM_X7_hide : zt_M 158 = some (yX7_hide, cX7_hide, 3, (some .int), 7, 3, 3, 66) := rfl
theorem zM_X7_image : zt_M 159 = some (yX7_image, cX7_image, 3, (some .int), 7, 3, 3, 65) := rfl
theorem zM_X7_in : zt_M 160 = some (yX7_in, cX7_in, 3, (some .boolean), 7, 3, 0, 0) := rfl
theorem zM_X7_init : zt_M 161 = some (yX7_init, cX7_init, 1, none, 7, 1, 1, 40) := rfl
theorem zM_X7_inode : zt_M 162 = some (yX7_inode, cX7_inode, 3, (some .int), 7, 3, 2, 44) := rfl
theorem zM_X7_isFile : zt_M 163 = some (yX7_isFile, cX7_isFile, 13, (some .boolean), 7, 4, 3, 72) := rfl
theorem zM_X7_isFolder : zt_M 164 = some (yX7_isFolder, cX7_isFolder, 3, (some .boolean), 7, 3, 3, 66) := rfl
theorem zM_X7_isImage : zt_M 165 = some (yX7_isImage, cX7_isImage, 2, (some .boolean), 7, 2, 1, 22) := rfl
theorem zM_X7_isLaid : zt_M 166 = some (yX7_isLaid, cX7_isLaid, 4, (some .boolean), 7, 2, 0, 0) := rfl
theorem zM_X7_isNode : zt_M 167 = some (yX7_isNode, cX7_isNode, 2, (some .boolean), 7, 2, 1, 22) := rfl
theorem zM_X7_isSameFile : zt_M 168 = some (yX7_isSameFile, cX7_isSameFile, 5, (some .boolean), 7, 3, 0, 0) := rfl
theorem zM_X7_isThere : zt_M 169 = some (yX7_isThere, cX7_isThere, 5, (some .boolean), 7, 3, 0, 0) := rfl
theorem zM_X7_isTree : zt_M 170 = some (yX7_isTree, cX7_isTree, 7, (some .boolean), 7, 3, 5, 116) := rfl
theorem zM_X7_isView : zt_M 171 = some (yX7_isView, cX7_isView, 2, (some .boolean), 7, 2, 1, 22) := rfl
theorem zM_X7_judge : zt_M 172 = some (yX7_judge, cX7_judge, 5, (some .int), 7, 2, 6, 142) := rfl
theorem zM_X7_kindOf : zt_M 173 = some (yX7_kindOf, cX7_kindOf, 2, (some .int), 7, 2, 4, 91) := rfl
theorem zM_X7_leads : zt_M 174 = some (yX7_leads, cX7_leads, 9, (some .int), 7, 3, 5, 113) := rfl
theorem zM_X7_lies : zt_M 175 = some (yX7_lies, cX7_lies, 1, (some .int), 7, 1, 0, 0) := rfl
theorem zM_X7_link : zt_M 176 = some (yX7_link, cX7_link, 4, (some .int), 7, 4, 2, 43) := rfl
theorem zM_X7_list : zt_M 177 = some (yX7_list, cX7_list, 5, (some .int), 7, 3, 7, 164) := rfl
theorem zM_X7_load : zt_M 178 = some (yX7_load, cX7_load, 2, (some .int), 7, 1, 7, 166) := rfl
theorem zM_X7_look : zt_M 179 = some (yX7_look, cX7_look, 7, (some .int), 7, 3, 6, 141) := rfl
theorem zM_X7_manyOf : zt_M 180 = some (yX7_manyOf, cX7_manyOf, 3, (some .int), 7, 3, 3, 66) := rfl
theorem zM_X7_nameAt : zt_M 181 = some (yX7_nameAt, cX7_nameAt, 3, (some .int), 7, 3, 2, 44) := rfl
theorem zM_X7_nameIt : zt_M 182 = some (yX7_nameIt, cX7_nameIt, 4, none, 7, 4, 0, 0) := rfl
theorem zM_X7_named : zt_M 183 = some (yX7_named, cX7_named, 9, (some .int), 7, 5, 4, 88) := rfl
theorem zM_X7_namesIn : zt_M 184 = some (yX7_namesIn, cX7_namesIn, 4, (some .int), 7, 2, 7, 164) := rfl
theorem zM_X7_namesOf : zt_M 185 = some (yX7_namesOf, cX7_namesOf, 4, (some .int), 7, 2, 0, 0) := rfl
theorem zM_X7_nextIn : zt_M 186 = some (yX7_nextIn, cX7_nextIn, 4, (some .int), 7, 3, 6, 141) := rfl
theorem zM_X7_nextName : zt_M 187 = some (yX7_nextName, cX7_nextName, 5, (some .int), 7, 3, 0, 0) := rfl
theorem zM_X7_node : zt_M 188 = some (yX7_node, cX7_node, 4, (some .int), 7, 4, 4, 91) := rfl
theorem zM_X7_number : zt_M 189 = some (yX7_number, cX7_number, 5, none, 7, 1, 1, 24) := rfl
theorem zM_X7_numberAt : zt_M 190 = some (yX7_numberAt, cX7_numberAt, 3, (some .int), 7, 3, 2, 44) := rfl
theorem zM_X7_numbersIn : zt_M 191 = some (yX7_numbersIn, cX7_numbersIn, 2, (some .int), 7, 2, 2, 44) := rfl
theorem zM_X7_opened : zt_M 192 = some (yX7_opened, cX7_opened, 8, (some .int), 7, 5, 1, 22) := rfl
theorem zM_X7_out : zt_M 193 = some (yX7_out, cX7_out, 3, (some .int), 7, 3, 2, 43) := rfl
theorem zM_X7_over : zt_M 194 = some (yX7_over, cX7_over, 2, (some .int), 7, 2, 2, 43) := rfl
theorem zM_X7_owner : zt_M 195 = some (yX7_owner, cX7_owner, 4, (some .int), 7, 4, 2, 43) := rfl
theorem zM_X7_pack : zt_M 196 = some (yX7_pack, cX7_pack, 6, none, 7, 2, 1, 23) := rfl
theorem zM_X7_putWord : zt_M 197 = some (yX7_putWord, cX7_putWord, 3, none, 7, 3, 0, 0) := rfl
theorem zM_X7_read : zt_M 198 = some (yX7_read, cX7_read, 10, (some .int), 7, 3, 5, 112) := rfl
theorem zM_X7_same : zt_M 199 = some (yX7_same, cX7_same, 5, (some .int), 7, 3, 2, 43) := rfl
theorem zM_X7_store : zt_M 200 = some (yX7_store, cX7_store, 4, (some .int), 7, 2, 2, 48) := rfl
theorem zM_X7_sumOf : zt_M 201 = some (yX7_sumOf, cX7_sumOf, 5, (some .int), 7, 2, 0, 0) := rfl
theorem zM_X7_tailsIn : zt_M 202 = some (yX7_tailsIn, cX7_tailsIn, 2, (some .int), 7, 2, 2, 44) := rfl
theorem zM_X7_tell : zt_M 203 = some (yX7_tell, cX7_tell, 2, none, 7, 2, 0, 0) := rfl
theorem zM_X7_tellFile : zt_M 204 = some (yX7_tellFile, cX7_tellFile, 8, none, 7, 3, 3, 71) := rfl
theorem zM_X7_tellInodes : zt_M 205 = some (yX7_tellInodes, cX7_tellInodes, 9, none, 7, 2, 2, 42) := rfl
theorem zM_X7_tellWord : zt_M 206 = some (yX7_tellWord, cX7_tellWord, 2, none, 7, 2, 1, 21) := rfl
theorem zM_X7_thrown : zt_M 207 = some (yX7_thrown, cX7_thrown, 1, (some .int), 7, 1, 0, 0) := rfl
theorem zM_X7_told : zt_M 208 = some (yX7_told, cX7_told, 6, (some .int), 7, 4, 3, 66) := rfl
theorem zM_X7_view : zt_M 209 = some (yX7_view, cX7_view, 5, (some .int), 7, 3, 8, 187) := rfl
theorem zM_X7_word : zt_M 210 = some (yX7_word, cX7_word, 3, (some .int), 7, 3, 1, 22) := rfl
theorem zM_L_law : zt_M 211 = some (yL_law, cL_law, 7, (some .boolean), 8, 1, 12, 300) := rfl
def zt_Cl_0 : List (Nat × Nat × Nat × Nat) := [(0, 3, 3, 0), (0, 11, 2, 90), (0, 55, 0, 6), (0, 59, 0, 15), (0, 63, 0, 10), (0, 67, 0, 17), (0, 76, 0, 43), (0, 80, 0, 16), (0, 83, 0, 14), (0, 87, 0, 18), (0, 91, 0, 12), (0, 94, 0, 46), (0, 98, 0, 41), (0, 101, 1, 0), (0, 115, 0, 7), (0, 119, 0, 100), (0, 126, 0, 38), (0, 130, 0, 40), (0, 133, 0, 5), (0, 137, 0, 11)]
def zt_Cl_1 : List (Nat × Nat × Nat × Nat) := [(0, 144, 0, 102), (0, 148, 1, 19), (0, 155, 0, 95), (0, 165, 0, 4), (0, 168, 0, 9), (0, 184, 0, 13), (0, 188, 0, 104), (1, 3, 3, 0), (1, 19, 0, 38), (1, 23, 0, 40), (1, 26, 4, 0), (1, 32, 5, 0), (1, 38, 0, 41), (1, 41, 0, 21), (1, 48, 0, 51), (1, 68, 0, 42), (1, 71, 0, 25), (1, 74, 0, 44), (1, 77, 0, 50), (1, 80, 0, 48)]
def zt_Cl_2 : List (Nat × Nat × Nat × Nat) := [(1, 83, 0, 20), (1, 87, 1, 45), (1, 91, 0, 34), (1, 94, 0, 33), (1, 97, 1, 35), (1, 100, 1, 37), (2, 3, 3, 0), (2, 15, 0, 41), (2, 20, 1, 62), (2, 24, 1, 56), (2, 27, 0, 51), (2, 31, 0, 46), (2, 35, 1, 57), (2, 38, 1, 54), (2, 41, 1, 53), (2, 44, 0, 64), (2, 51, 0, 21), (2, 57, 1, 123), (2, 76, 0, 47), (2, 79, 0, 48)]
def zt_Cl_3 : List (Nat × Nat × Nat × Nat) := [(2, 82, 0, 22), (2, 86, 1, 65), (2, 90, 0, 42), (2, 93, 1, 61), (2, 97, 0, 50), (2, 100, 1, 63), (2, 104, 1, 45), (2, 107, 0, 30), (2, 110, 0, 44), (2, 113, 0, 25), (2, 116, 1, 55), (2, 119, 0, 27), (2, 122, 0, 32), (2, 125, 0, 28), (2, 128, 0, 52), (2, 131, 1, 58), (2, 134, 1, 0), (3, 3, 3, 0), (3, 39, 2, 29), (3, 46, 0, 85)]
def zt_Cl_4 : List (Nat × Nat × Nat × Nat) := [(3, 52, 0, 87), (3, 56, 0, 81), (3, 60, 0, 30), (3, 63, 0, 31), (3, 66, 0, 36), (3, 69, 0, 75), (3, 70, 0, 44), (3, 73, 0, 79), (3, 80, 1, 0), (3, 86, 0, 80), (3, 89, 0, 83), (3, 92, 0, 24), (3, 95, 0, 70), (3, 102, 0, 66), (3, 105, 0, 67), (3, 108, 0, 49), (3, 111, 0, 25), (3, 114, 0, 51), (4, 3, 3, 0), (4, 15, 1, 91)]
def zt_Cl_5 : List (Nat × Nat × Nat × Nat) := [(4, 19, 0, 93), (4, 27, 1, 89), (4, 32, 0, 38), (4, 38, 1, 94), (4, 42, 0, 88), (4, 45, 1, 92), (5, 3, 3, 0), (5, 39, 0, 105), (5, 49, 0, 106), (5, 53, 0, 99), (5, 57, 0, 96), (5, 61, 1, 1), (6, 3, 3, 0), (6, 11, 2, 103), (6, 22, 2, 29), (6, 31, 2, 8), (6, 38, 2, 60), (6, 45, 2, 73), (6, 50, 0, 108), (6, 54, 0, 101)]
def zt_Cl_6 : List (Nat × Nat × Nat × Nat) := [(6, 58, 1, 124), (6, 61, 0, 107), (6, 72, 0, 96), (6, 78, 0, 98), (6, 81, 1, 125), (6, 94, 0, 105), (6, 97, 1, 123), (6, 103, 0, 3), (6, 110, 0, 39), (6, 113, 0, 59), (6, 117, 0, 23), (6, 121, 0, 74), (6, 124, 0, 119), (6, 130, 0, 21), (6, 140, 0, 47), (6, 147, 0, 26), (6, 151, 0, 27), (6, 154, 0, 30), (6, 157, 0, 31), (6, 160, 0, 36)]
def zt_Cl_7 : List (Nat × Nat × Nat × Nat) := [(6, 163, 0, 32), (6, 166, 0, 44), (6, 169, 0, 76), (6, 173, 0, 86), (6, 176, 0, 71), (6, 179, 0, 75), (6, 180, 0, 77), (6, 184, 0, 79), (6, 187, 0, 72), (6, 190, 0, 81), (6, 193, 0, 84), (6, 194, 0, 78), (6, 195, 0, 82), (6, 196, 0, 69), (6, 199, 0, 68), (6, 208, 0, 97), (7, 1, 3, 0), (7, 101, 1, 160), (7, 108, 0, 167), (7, 112, 0, 169)]
def zt_Cl_8 : List (Nat × Nat × Nat × Nat) := [(7, 116, 0, 182), (7, 120, 0, 147), (7, 124, 0, 185), (7, 135, 0, 203), (7, 145, 0, 187), (7, 152, 0, 137), (7, 155, 0, 196), (7, 159, 0, 168), (7, 162, 0, 200), (7, 171, 0, 189), (7, 174, 0, 155), (7, 177, 0, 204), (7, 181, 0, 205), (7, 184, 0, 206), (7, 187, 0, 201), (7, 190, 0, 197), (7, 198, 0, 143), (7, 201, 0, 210), (7, 204, 1, 175), (7, 207, 0, 191)]
def zt_Cl_9 : List (Nat × Nat × Nat × Nat) := [(7, 210, 0, 140), (7, 213, 0, 139), (7, 216, 0, 138), (7, 219, 0, 170), (7, 222, 0, 144), (7, 226, 0, 162), (7, 229, 0, 163), (7, 232, 0, 202), (7, 235, 0, 164), (7, 238, 0, 180), (7, 241, 0, 181), (7, 244, 0, 190), (7, 247, 0, 183), (7, 251, 0, 156), (7, 254, 0, 172), (7, 260, 0, 166), (7, 263, 0, 165), (7, 266, 0, 208), (7, 272, 0, 154), (7, 275, 0, 145)]
def zt_Cl_10 : List (Nat × Nat × Nat × Nat) := [(7, 278, 0, 171), (7, 281, 0, 173), (7, 284, 0, 174), (7, 287, 0, 186), (7, 290, 0, 184), (7, 293, 0, 192), (8, 15, 2, 122), (8, 18, 2, 161), (8, 19, 0, 118), (8, 22, 0, 157), (8, 23, 0, 117), (8, 26, 0, 153), (8, 27, 0, 120), (8, 30, 0, 158), (8, 31, 0, 126), (8, 35, 0, 176), (8, 36, 0, 113), (8, 39, 0, 149), (8, 40, 0, 133), (8, 43, 0, 195)]
def zt_Cl_11 : List (Nat × Nat × Nat × Nat) := [(8, 44, 0, 111), (8, 48, 0, 146), (8, 49, 0, 110), (8, 53, 0, 142), (8, 54, 0, 116), (8, 58, 0, 152), (8, 59, 0, 115), (8, 62, 0, 151), (8, 63, 0, 128), (8, 66, 0, 178), (8, 67, 0, 114), (8, 70, 0, 150), (8, 71, 6, 131), (8, 76, 0, 193), (8, 77, 0, 207), (8, 80, 0, 121), (8, 83, 0, 159), (8, 84, 0, 135), (8, 87, 0, 199), (8, 88, 0, 130)]
def zt_Cl_12 : List (Nat × Nat × Nat × Nat) := [(8, 91, 0, 188), (8, 92, 0, 132), (8, 95, 0, 194), (8, 96, 0, 109), (8, 99, 0, 141), (8, 100, 0, 129), (8, 103, 0, 179), (8, 104, 0, 127), (8, 107, 0, 177), (8, 108, 0, 136), (8, 111, 0, 209), (8, 112, 0, 134), (8, 115, 0, 198), (8, 116, 0, 112), (8, 119, 0, 148), (9, 13, 1, 2)]
def zt_Cl : List (Nat × Nat × Nat × Nat) := zt_Cl_0 ++ (zt_Cl_1 ++ (zt_Cl_2 ++ (zt_Cl_3 ++ (zt_Cl_4 ++ (zt_Cl_5 ++ (zt_Cl_6 ++ (zt_Cl_7 ++ (zt_Cl_8 ++ (zt_Cl_9 ++ (zt_Cl_10 ++ (zt_Cl_11 ++ (zt_Cl_12))))))))))))
def zt_C (c i : Nat) : Option (Nat × Nat) := (zt_Cl.find? (fun e => e.1 == c && e.2.1 == i)).map (fun e => e.2.2)
def zt_Fl_0 : List (Nat × Nat × Nat × Nat) := [(0, 12, 3, 0), (0, 18, 3, 1), (0, 22, 3, 2), (0, 25, 3, 3), (0, 28, 3, 4), (0, 31, 3, 5), (0, 34, 3, 6), (0, 37, 3, 7), (0, 40, 3, 8), (0, 43, 3, 9), (0, 46, 3, 10), (0, 49, 3, 11), (0, 52, 3, 12), (0, 70, 4, 1), (0, 107, 3, 13), (0, 110, 8, 0), (0, 123, 8, 8), (0, 141, 8, 5), (0, 152, 8, 6), (0, 159, 3, 14)]
def zt_Fl_1 : List (Nat × Nat × Nat × Nat) := [(0, 162, 3, 15), (0, 172, 8, 2), (0, 175, 8, 1), (0, 178, 8, 3), (0, 181, 8, 4), (1, 9, 4, 0), (1, 15, 4, 1), (1, 45, 4, 2), (1, 51, 4, 3), (1, 54, 4, 4), (1, 57, 4, 5), (1, 60, 4, 6), (1, 63, 4, 7), (2, 9, 5, 0), (2, 47, 4, 1), (2, 54, 4, 2), (2, 61, 4, 4), (2, 64, 4, 5), (2, 67, 4, 6), (2, 70, 4, 7)]
def zt_Fl_2 : List (Nat × Nat × Nat × Nat) := [(2, 73, 4, 3), (3, 9, 6, 0), (3, 17, 6, 1), (3, 21, 6, 2), (3, 24, 6, 3), (3, 27, 6, 4), (3, 30, 6, 5), (3, 33, 6, 6), (3, 36, 6, 7), (3, 42, 6, 10), (3, 49, 6, 11), (3, 77, 6, 9), (3, 99, 6, 8), (4, 9, 7, 0), (4, 23, 7, 1), (5, 9, 8, 0), (5, 15, 8, 1), (5, 18, 8, 2), (5, 21, 8, 3), (5, 24, 8, 4)]
def zt_Fl_3 : List (Nat × Nat × Nat × Nat) := [(5, 27, 8, 5), (5, 30, 8, 6), (5, 33, 8, 7), (5, 36, 8, 8), (5, 42, 8, 10), (5, 46, 8, 9), (6, 12, 9, 0), (6, 18, 9, 1), (6, 25, 9, 2), (6, 32, 9, 3), (6, 39, 9, 4), (6, 46, 9, 5), (6, 65, 8, 0), (6, 69, 8, 3), (6, 75, 8, 5), (6, 84, 8, 1), (6, 87, 8, 2), (6, 90, 8, 9), (6, 100, 9, 6), (6, 107, 4, 1)]
def zt_Fl_4 : List (Nat × Nat × Nat × Nat) := [(6, 134, 4, 2), (6, 137, 4, 3), (6, 144, 4, 4), (6, 202, 6, 10), (6, 205, 6, 11), (7, 7, 10, 2), (7, 13, 10, 3), (7, 16, 10, 4), (7, 19, 10, 5), (7, 22, 10, 6), (7, 25, 10, 8), (7, 28, 10, 9), (7, 31, 10, 10), (7, 34, 10, 12), (7, 37, 10, 13), (7, 40, 10, 16), (7, 43, 10, 17), (7, 46, 10, 20), (7, 49, 10, 21), (7, 52, 10, 23)]
def zt_Fl_5 : List (Nat × Nat × Nat × Nat) := [(7, 55, 10, 24), (7, 58, 10, 25), (7, 61, 10, 26), (7, 64, 10, 28), (7, 67, 10, 29), (7, 70, 10, 30), (7, 73, 10, 31), (7, 76, 10, 32), (7, 79, 10, 33), (7, 82, 10, 36), (7, 85, 10, 38), (7, 88, 10, 39), (7, 91, 10, 40), (7, 94, 10, 1), (7, 98, 10, 0), (7, 105, 10, 7), (7, 129, 10, 14), (7, 132, 10, 15), (7, 139, 10, 19), (7, 142, 10, 18)]
def zt_Fl_6 : List (Nat × Nat × Nat × Nat) := [(7, 149, 10, 22), (7, 165, 10, 27), (7, 168, 10, 11), (7, 195, 10, 34), (7, 257, 10, 35), (7, 269, 10, 37)]
def zt_Fl : List (Nat × Nat × Nat × Nat) := zt_Fl_0 ++ (zt_Fl_1 ++ (zt_Fl_2 ++ (zt_Fl_3 ++ (zt_Fl_4 ++ (zt_Fl_5 ++ (zt_Fl_6))))))
def zt_F (c i : Nat) : Option (Nat × Nat) := (zt_Fl.find? (fun e => e.1 == c && e.2.1 == i)).map (fun e => e.2.2)
def zt_Nl_0 : List (Nat × Nat × Nat × Nat) := [(0, 9, 7, 2), (3, 15, 4, 8), (6, 9, 8, 11), (6, 16, 4, 8), (6, 29, 3, 16), (6, 36, 5, 1), (6, 43, 6, 12), (8, 8, 9, 7), (8, 16, 10, 41)]
def zt_Nl : List (Nat × Nat × Nat × Nat) := zt_Nl_0
def zt_N (c i : Nat) : Option (Nat × Nat) := (zt_Nl.find? (fun e => e.1 == c && e.2.1 == i)).map (fun e => e.2.2)
def zt_Kl : List (Nat × Nat × Int32) := [(1, 90, 32768), (4, 31, 32768), (6, 211, 65535), (7, 128, 65535), (7, 158, 32768)]
def zt_K (c i : Nat) : Option Int32 := (zt_Kl.find? (fun e => e.1 == c && e.2.1 == i)).map (fun e => e.2.2)
def zt_Jl : List (Nat × Nat × Int64) := [(1, 66, 65521), (7, 193, 65521)]
def zt_J (c i : Nat) : Option Int64 := (zt_Jl.find? (fun e => e.1 == c && e.2.1 == i)).map (fun e => e.2.2)
def zt_Al : List (Nat × Nat) := [(3, 15), (6, 16)]
def zt_X (c i : Nat) : Bool := c == 6 && i == 127
def zt_A (c i : Nat) : Bool := zt_Al.any (fun e => e.1 == c && e.2 == i)
theorem zC_0_3 : zt_C 0 3 = some (3, 0) := by decide +kernel
theorem zC_0_11 : zt_C 0 11 = some (2, 90) := by decide +kernel
theorem zC_0_55 : zt_C 0 55 = some (0, 6) := by decide +kernel
theorem zC_0_59 : zt_C 0 59 = some (0, 15) := by decide +kernel
theorem zC_0_63 : zt_C 0 63 = some (0, 10) := by decide +kernel
theorem zC_0_67 : zt_C 0 67 = some (0, 17) := by decide +kernel
theorem zC_0_76 : zt_C 0 76 = some (0, 43) := by decide +kernel
theorem zC_0_80 : zt_C 0 80 = some (0, 16) := by decide +kernel
theorem zC_0_83 : zt_C 0 83 = some (0, 14) := by decide +kernel
theorem zC_0_87 : zt_C 0 87 = some (0, 18) := by decide +kernel
theorem zC_0_91 : zt_C 0 91 = some (0, 12) := by decide +kernel
theorem zC_0_94 : zt_C 0 94 = some (0, 46) := by decide +kernel
theorem zC_0_98 : zt_C 0 98 = some (0, 41) := by decide +kernel
theorem zC_0_101 : zt_C 0 101 = some (1, 0) := by decide +kernel
theorem zC_0_115 : zt_C 0 115 = some (0, 7) := by decide +kernel
theorem zC_0_119 : zt_C 0 119 = some (0, 100) := by decide +kernel
theorem zC_0_126 : zt_C 0 126 = some (0, 38) := by decide +kernel
theorem zC_0_130 : zt_C 0 130 = some (0, 40) := by decide +kernel
theorem zC_0_133 : zt_C 0 133 = some (0, 5) := by decide +kernel
theorem zC_0_137 : zt_C 0 137 = some (0, 11) := by decide +kernel
theorem zC_0_144 : zt_C 0 144 = some (0, 102) := by decide +kernel
theorem zC_0_148 : zt_C 0 148 = some (1, 19) := by decide +kernel
theorem zC_0_155 : zt_C 0 155 = some (0, 95) := by decide +kernel
theorem zC_0_165 : zt_C 0 165 = some (0, 4) := by decide +kernel
theorem zC_0_168 : zt_C 0 168 = some (0, 9) := by decide +kernel
theorem zC_0_184 : zt_C 0 184 = some (0, 13) := by decide +kernel
theorem zC_0_188 : zt_C 0 188 = some (0, 104) := by decide +kernel
theorem zC_1_3 : zt_C 1 3 = some (3, 0) := by decide +kernel
theorem zC_1_19 : zt_C 1 19 = some (0, 38) := by decide +kernel
theorem zC_1_23 : zt_C 1 23 = some (0, 40) := by decide +kernel
theorem zC_1_26 : zt_C 1 26 = some (4, 0) := by decide +kernel
theorem zC_1_32 : zt_C 1 32 = some (5, 0) := by decide +kernel
theorem zC_1_38 : zt_C 1 38 = some (0, 41) := by decide +kernel
theorem zC_1_41 : zt_C 1 41 = some (0, 21) := by decide +kernel
theorem zC_1_48 : zt_C 1 48 = some (0, 51) := by decide +kernel
theorem zC_1_68 : zt_C 1 68 = some (0, 42) := by decide +kernel
theorem zC_1_71 : zt_C 1 71 = some (0, 25) := by decide +kernel
theorem zC_1_74 : zt_C 1 74 = some (0, 44) := by decide +kernel
theorem zC_1_77 : zt_C 1 77 = some (0, 50) := by decide +kernel
theorem zC_1_80 : zt_C 1 80 = some (0, 48) := by decide +kernel
theorem zC_1_83 : zt_C 1 83 = some (0, 20) := by decide +kernel
theorem zC_1_87 : zt_C 1 87 = some (1, 45) := by decide +kernel
theorem zC_1_91 : zt_C 1 91 = some (0, 34) := by decide +kernel
theorem zC_1_94 : zt_C 1 94 = some (0, 33) := by decide +kernel
theorem zC_1_97 : zt_C 1 97 = some (1, 35) := by decide +kernel
theorem zC_1_100 : zt_C 1 100 = some (1, 37) := by decide +kernel
theorem zC_2_3 : zt_C 2 3 = some (3, 0) := by decide +kernel
theorem zC_2_15 : zt_C 2 15 = some (0, 41) := by decide +kernel
theorem zC_2_20 : zt_C 2 20 = some (1, 62) := by decide +kernel
theorem zC_2_24 : zt_C 2 24 = some (1, 56) := by decide +kernel
theorem zC_2_27 : zt_C 2 27 = some (0, 51) := by decide +kernel
theorem zC_2_31 : zt_C 2 31 = some (0, 46) := by decide +kernel
theorem zC_2_35 : zt_C 2 35 = some (1, 57) := by decide +kernel
theorem zC_2_38 : zt_C 2 38 = some (1, 54) := by decide +kernel
theorem zC_2_41 : zt_C 2 41 = some (1, 53) := by decide +kernel
theorem zC_2_44 : zt_C 2 44 = some (0, 64) := by decide +kernel
theorem zC_2_51 : zt_C 2 51 = some (0, 21) := by decide +kernel
theorem zC_2_57 : zt_C 2 57 = some (1, 123) := by decide +kernel
theorem zC_2_76 : zt_C 2 76 = some (0, 47) := by decide +kernel
theorem zC_2_79 : zt_C 2 79 = some (0, 48) := by decide +kernel
theorem zC_2_82 : zt_C 2 82 = some (0, 22) := by decide +kernel
theorem zC_2_86 : zt_C 2 86 = some (1, 65) := by decide +kernel
theorem zC_2_90 : zt_C 2 90 = some (0, 42) := by decide +kernel
theorem zC_2_93 : zt_C 2 93 = some (1, 61) := by decide +kernel
theorem zC_2_97 : zt_C 2 97 = some (0, 50) := by decide +kernel
theorem zC_2_100 : zt_C 2 100 = some (1, 63) := by decide +kernel
theorem zC_2_104 : zt_C 2 104 = some (1, 45) := by decide +kernel
theorem zC_2_107 : zt_C 2 107 = some (0, 30) := by decide +kernel
theorem zC_2_110 : zt_C 2 110 = some (0, 44) := by decide +kernel
theorem zC_2_113 : zt_C 2 113 = some (0, 25) := by decide +kernel
theorem zC_2_116 : zt_C 2 116 = some (1, 55) := by decide +kernel
theorem zC_2_119 : zt_C 2 119 = some (0, 27) := by decide +kernel
theorem zC_2_122 : zt_C 2 122 = some (0, 32) := by decide +kernel
theorem zC_2_125 : zt_C 2 125 = some (0, 28) := by decide +kernel
theorem zC_2_128 : zt_C 2 128 = some (0, 52) := by decide +kernel
theorem zC_2_131 : zt_C 2 131 = some (1, 58) := by decide +kernel
theorem zC_2_134 : zt_C 2 134 = some (1, 0) := by decide +kernel
theorem zC_3_3 : zt_C 3 3 = some (3, 0) := by decide +kernel
theorem zC_3_39 : zt_C 3 39 = some (2, 29) := by decide +kernel
theorem zC_3_46 : zt_C 3 46 = some (0, 85) := by decide +kernel
theorem zC_3_52 : zt_C 3 52 = some (0, 87) := by decide +kernel
theorem zC_3_56 : zt_C 3 56 = some (0, 81) := by decide +kernel
theorem zC_3_60 : zt_C 3 60 = some (0, 30) := by decide +kernel
theorem zC_3_63 : zt_C 3 63 = some (0, 31) := by decide +kernel
theorem zC_3_66 : zt_C 3 66 = some (0, 36) := by decide +kernel
theorem zC_3_69 : zt_C 3 69 = some (0, 75) := by decide +kernel
theorem zC_3_70 : zt_C 3 70 = some (0, 44) := by decide +kernel
theorem zC_3_73 : zt_C 3 73 = some (0, 79) := by decide +kernel
theorem zC_3_80 : zt_C 3 80 = some (1, 0) := by decide +kernel
theorem zC_3_86 : zt_C 3 86 = some (0, 80) := by decide +kernel
theorem zC_3_89 : zt_C 3 89 = some (0, 83) := by decide +kernel
theorem zC_3_92 : zt_C 3 92 = some (0, 24) := by decide +kernel
theorem zC_3_95 : zt_C 3 95 = some (0, 70) := by decide +kernel
theorem zC_3_102 : zt_C 3 102 = some (0, 66) := by decide +kernel
theorem zC_3_105 : zt_C 3 105 = some (0, 67) := by decide +kernel
theorem zC_3_108 : zt_C 3 108 = some (0, 49) := by decide +kernel
theorem zC_3_111 : zt_C 3 111 = some (0, 25) := by decide +kernel
theorem zC_3_114 : zt_C 3 114 = some (0, 51) := by decide +kernel
theorem zC_4_3 : zt_C 4 3 = some (3, 0) := by decide +kernel
theorem zC_4_15 : zt_C 4 15 = some (1, 91) := by decide +kernel
theorem zC_4_19 : zt_C 4 19 = some (0, 93) := by decide +kernel
theorem zC_4_27 : zt_C 4 27 = some (1, 89) := by decide +kernel
theorem zC_4_32 : zt_C 4 32 = some (0, 38) := by decide +kernel
theorem zC_4_38 : zt_C 4 38 = some (1, 94) := by decide +kernel
theorem zC_4_42 : zt_C 4 42 = some (0, 88) := by decide +kernel
theorem zC_4_45 : zt_C 4 45 = some (1, 92) := by decide +kernel
theorem zC_5_3 : zt_C 5 3 = some (3, 0) := by decide +kernel
theorem zC_5_39 : zt_C 5 39 = some (0, 105) := by decide +kernel
theorem zC_5_49 : zt_C 5 49 = some (0, 106) := by decide +kernel
theorem zC_5_53 : zt_C 5 53 = some (0, 99) := by decide +kernel
theorem zC_5_57 : zt_C 5 57 = some (0, 96) := by decide +kernel
theorem zC_5_61 : zt_C 5 61 = some (1, 1) := by decide +kernel
theorem zC_6_3 : zt_C 6 3 = some (3, 0) := by decide +kernel
theorem zC_6_11 : zt_C 6 11 = some (2, 103) := by decide +kernel
theorem zC_6_22 : zt_C 6 22 = some (2, 29) := by decide +kernel
theorem zC_6_31 : zt_C 6 31 = some (2, 8) := by decide +kernel
theorem zC_6_38 : zt_C 6 38 = some (2, 60) := by decide +kernel
theorem zC_6_45 : zt_C 6 45 = some (2, 73) := by decide +kernel
theorem zC_6_50 : zt_C 6 50 = some (0, 108) := by decide +kernel
theorem zC_6_54 : zt_C 6 54 = some (0, 101) := by decide +kernel
theorem zC_6_58 : zt_C 6 58 = some (1, 124) := by decide +kernel
theorem zC_6_61 : zt_C 6 61 = some (0, 107) := by decide +kernel
theorem zC_6_72 : zt_C 6 72 = some (0, 96) := by decide +kernel
theorem zC_6_78 : zt_C 6 78 = some (0, 98) := by decide +kernel
theorem zC_6_81 : zt_C 6 81 = some (1, 125) := by decide +kernel
theorem zC_6_94 : zt_C 6 94 = some (0, 105) := by decide +kernel
theorem zC_6_97 : zt_C 6 97 = some (1, 123) := by decide +kernel
theorem zC_6_103 : zt_C 6 103 = some (0, 3) := by decide +kernel
theorem zC_6_110 : zt_C 6 110 = some (0, 39) := by decide +kernel
theorem zC_6_113 : zt_C 6 113 = some (0, 59) := by decide +kernel
theorem zC_6_117 : zt_C 6 117 = some (0, 23) := by decide +kernel
theorem zC_6_121 : zt_C 6 121 = some (0, 74) := by decide +kernel
theorem zC_6_124 : zt_C 6 124 = some (0, 119) := by decide +kernel
theorem zC_6_130 : zt_C 6 130 = some (0, 21) := by decide +kernel
theorem zC_6_140 : zt_C 6 140 = some (0, 47) := by decide +kernel
theorem zC_6_147 : zt_C 6 147 = some (0, 26) := by decide +kernel
theorem zC_6_151 : zt_C 6 151 = some (0, 27) := by decide +kernel
theorem zC_6_154 : zt_C 6 154 = some (0, 30) := by decide +kernel
theorem zC_6_157 : zt_C 6 157 = some (0, 31) := by decide +kernel
theorem zC_6_160 : zt_C 6 160 = some (0, 36) := by decide +kernel
theorem zC_6_163 : zt_C 6 163 = some (0, 32) := by decide +kernel
theorem zC_6_166 : zt_C 6 166 = some (0, 44) := by decide +kernel
theorem zC_6_169 : zt_C 6 169 = some (0, 76) := by decide +kernel
theorem zC_6_173 : zt_C 6 173 = some (0, 86) := by decide +kernel
theorem zC_6_176 : zt_C 6 176 = some (0, 71) := by decide +kernel
theorem zC_6_179 : zt_C 6 179 = some (0, 75) := by decide +kernel
theorem zC_6_180 : zt_C 6 180 = some (0, 77) := by decide +kernel
theorem zC_6_184 : zt_C 6 184 = some (0, 79) := by decide +kernel
theorem zC_6_187 : zt_C 6 187 = some (0, 72) := by decide +kernel
theorem zC_6_190 : zt_C 6 190 = some (0, 81) := by decide +kernel
theorem zC_6_193 : zt_C 6 193 = some (0, 84) := by decide +kernel
theorem zC_6_194 : zt_C 6 194 = some (0, 78) := by decide +kernel
theorem zC_6_195 : zt_C 6 195 = some (0, 82) := by decide +kernel
theorem zC_6_196 : zt_C 6 196 = some (0, 69) := by decide +kernel
theorem zC_6_199 : zt_C 6 199 = some (0, 68) := by decide +kernel
theorem zC_6_208 : zt_C 6 208 = some (0, 97) := by decide +kernel
theorem zC_7_1 : zt_C 7 1 = some (3, 0) := by decide +kernel
theorem zC_7_101 : zt_C 7 101 = some (1, 160) := by decide +kernel
theorem zC_7_108 : zt_C 7 108 = some (0, 167) := by decide +kernel
theorem zC_7_112 : zt_C 7 112 = some (0, 169) := by decide +kernel
theorem zC_7_116 : zt_C 7 116 = some (0, 182) := by decide +kernel
theorem zC_7_120 : zt_C 7 120 = some (0, 147) := by decide +kernel
theorem zC_7_124 : zt_C 7 124 = some (0, 185) := by decide +kernel
theorem zC_7_135 : zt_C 7 135 = some (0, 203) := by decide +kernel
theorem zC_7_145 : zt_C 7 145 = some (0, 187) := by decide +kernel
theorem zC_7_152 : zt_C 7 152 = some (0, 137) := by decide +kernel
theorem zC_7_155 : zt_C 7 155 = some (0, 196) := by decide +kernel
theorem zC_7_159 : zt_C 7 159 = some (0, 168) := by decide +kernel
theorem zC_7_162 : zt_C 7 162 = some (0, 200) := by decide +kernel
theorem zC_7_171 : zt_C 7 171 = some (0, 189) := by decide +kernel
theorem zC_7_174 : zt_C 7 174 = some (0, 155) := by decide +kernel
theorem zC_7_177 : zt_C 7 177 = some (0, 204) := by decide +kernel
theorem zC_7_181 : zt_C 7 181 = some (0, 205) := by decide +kernel
theorem zC_7_184 : zt_C 7 184 = some (0, 206) := by decide +kernel
theorem zC_7_187 : zt_C 7 187 = some (0, 201) := by decide +kernel
theorem zC_7_190 : zt_C 7 190 = some (0, 197) := by decide +kernel
theorem zC_7_198 : zt_C 7 198 = some (0, 143) := by decide +kernel
theorem zC_7_201 : zt_C 7 201 = some (0, 210) := by decide +kernel
theorem zC_7_204 : zt_C 7 204 = some (1, 175) := by decide +kernel
theorem zC_7_207 : zt_C 7 207 = some (0, 191) := by decide +kernel
theorem zC_7_210 : zt_C 7 210 = some (0, 140) := by decide +kernel
theorem zC_7_213 : zt_C 7 213 = some (0, 139) := by decide +kernel
theorem zC_7_216 : zt_C 7 216 = some (0, 138) := by decide +kernel
theorem zC_7_219 : zt_C 7 219 = some (0, 170) := by decide +kernel
theorem zC_7_222 : zt_C 7 222 = some (0, 144) := by decide +kernel
theorem zC_7_226 : zt_C 7 226 = some (0, 162) := by decide +kernel
theorem zC_7_229 : zt_C 7 229 = some (0, 163) := by decide +kernel
theorem zC_7_232 : zt_C 7 232 = some (0, 202) := by decide +kernel
theorem zC_7_235 : zt_C 7 235 = some (0, 164) := by decide +kernel
theorem zC_7_238 : zt_C 7 238 = some (0, 180) := by decide +kernel
theorem zC_7_241 : zt_C 7 241 = some (0, 181) := by decide +kernel
theorem zC_7_244 : zt_C 7 244 = some (0, 190) := by decide +kernel
theorem zC_7_247 : zt_C 7 247 = some (0, 183) := by decide +kernel
theorem zC_7_251 : zt_C 7 251 = some (0, 156) := by decide +kernel
theorem zC_7_254 : zt_C 7 254 = some (0, 172) := by decide +kernel
theorem zC_7_260 : zt_C 7 260 = some (0, 166) := by decide +kernel
theorem zC_7_263 : zt_C 7 263 = some (0, 165) := by decide +kernel
theorem zC_7_266 : zt_C 7 266 = some (0, 208) := by decide +kernel
theorem zC_7_272 : zt_C 7 272 = some (0, 154) := by decide +kernel
theorem zC_7_275 : zt_C 7 275 = some (0, 145) := by decide +kernel
theorem zC_7_278 : zt_C 7 278 = some (0, 171) := by decide +kernel
theorem zC_7_281 : zt_C 7 281 = some (0, 173) := by decide +kernel
theorem zC_7_284 : zt_C 7 284 = some (0, 174) := by decide +kernel
theorem zC_7_287 : zt_C 7 287 = some (0, 186) := by decide +kernel
theorem zC_7_290 : zt_C 7 290 = some (0, 184) := by decide +kernel
theorem zC_7_293 : zt_C 7 293 = some (0, 192) := by decide +kernel
theorem zC_8_15 : zt_C 8 15 = some (2, 122) := by decide +kernel
theorem zC_8_18 : zt_C 8 18 = some (2, 161) := by decide +kernel
theorem zC_8_19 : zt_C 8 19 = some (0, 118) := by decide +kernel
theorem zC_8_22 : zt_C 8 22 = some (0, 157) := by decide +kernel
theorem zC_8_23 : zt_C 8 23 = some (0, 117) := by decide +kernel
theorem zC_8_26 : zt_C 8 26 = some (0, 153) := by decide +kernel
theorem zC_8_27 : zt_C 8 27 = some (0, 120) := by decide +kernel
theorem zC_8_30 : zt_C 8 30 = some (0, 158) := by decide +kernel
theorem zC_8_31 : zt_C 8 31 = some (0, 126) := by decide +kernel
theorem zC_8_35 : zt_C 8 35 = some (0, 176) := by decide +kernel
theorem zC_8_36 : zt_C 8 36 = some (0, 113) := by decide +kernel
theorem zC_8_39 : zt_C 8 39 = some (0, 149) := by decide +kernel
theorem zC_8_40 : zt_C 8 40 = some (0, 133) := by decide +kernel
theorem zC_8_43 : zt_C 8 43 = some (0, 195) := by decide +kernel
theorem zC_8_44 : zt_C 8 44 = some (0, 111) := by decide +kernel
theorem zC_8_48 : zt_C 8 48 = some (0, 146) := by decide +kernel
theorem zC_8_49 : zt_C 8 49 = some (0, 110) := by decide +kernel
theorem zC_8_53 : zt_C 8 53 = some (0, 142) := by decide +kernel
theorem zC_8_54 : zt_C 8 54 = some (0, 116) := by decide +kernel
theorem zC_8_58 : zt_C 8 58 = some (0, 152) := by decide +kernel
theorem zC_8_59 : zt_C 8 59 = some (0, 115) := by decide +kernel
theorem zC_8_62 : zt_C 8 62 = some (0, 151) := by decide +kernel
theorem zC_8_63 : zt_C 8 63 = some (0, 128) := by decide +kernel
theorem zC_8_66 : zt_C 8 66 = some (0, 178) := by decide +kernel
theorem zC_8_67 : zt_C 8 67 = some (0, 114) := by decide +kernel
theorem zC_8_70 : zt_C 8 70 = some (0, 150) := by decide +kernel
theorem zC_8_71 : zt_C 8 71 = some (6, 131) := by decide +kernel
theorem zC_8_76 : zt_C 8 76 = some (0, 193) := by decide +kernel
theorem zC_8_77 : zt_C 8 77 = some (0, 207) := by decide +kernel
theorem zC_8_80 : zt_C 8 80 = some (0, 121) := by decide +kernel
theorem zC_8_83 : zt_C 8 83 = some (0, 159) := by decide +kernel
theorem zC_8_84 : zt_C 8 84 = some (0, 135) := by decide +kernel
theorem zC_8_87 : zt_C 8 87 = some (0, 199) := by decide +kernel
theorem zC_8_88 : zt_C 8 88 = some (0, 130) := by decide +kernel
theorem zC_8_91 : zt_C 8 91 = some (0, 188) := by decide +kernel
theorem zC_8_92 : zt_C 8 92 = some (0, 132) := by decide +kernel
theorem zC_8_95 : zt_C 8 95 = some (0, 194) := by decide +kernel
theorem zC_8_96 : zt_C 8 96 = some (0, 109) := by decide +kernel
theorem zC_8_99 : zt_C 8 99 = some (0, 141) := by decide +kernel
theorem zC_8_100 : zt_C 8 100 = some (0, 129) := by decide +kernel
theorem zC_8_103 : zt_C 8 103 = some (0, 179) := by decide +kernel
theorem zC_8_104 : zt_C 8 104 = some (0, 127) := by decide +kernel
theorem zC_8_107 : zt_C 8 107 = some (0, 177) := by decide +kernel
theorem zC_8_108 : zt_C 8 108 = some (0, 136) := by decide +kernel
theorem zC_8_111 : zt_C 8 111 = some (0, 209) := by decide +kernel
theorem zC_8_112 : zt_C 8 112 = some (0, 134) := by decide +kernel
theorem zC_8_115 : zt_C 8 115 = some (0, 198) := by decide +kernel
theorem zC_8_116 : zt_C 8 116 = some (0, 112) := by decide +kernel
theorem zC_8_119 : zt_C 8 119 = some (0, 148) := by decide +kernel
theorem zC_9_13 : zt_C 9 13 = some (1, 2) := by decide +kernel
theorem zF_0_12 : zt_F 0 12 = some (3, 0) := by decide +kernel
theorem zF_0_18 : zt_F 0 18 = some (3, 1) := by decide +kernel
theorem zF_0_22 : zt_F 0 22 = some (3, 2) := by decide +kernel
theorem zF_0_25 : zt_F 0 25 = some (3, 3) := by decide +kernel
theorem zF_0_28 : zt_F 0 28 = some (3, 4) := by decide +kernel
theorem zF_0_31 : zt_F 0 31 = some (3, 5) := by decide +kernel
theorem zF_0_34 : zt_F 0 34 = some (3, 6) := by decide +kernel
theorem zF_0_37 : zt_F 0 37 = some (3, 7) := by decide +kernel
theorem zF_0_40 : zt_F 0 40 = some (3, 8) := by decide +kernel
theorem zF_0_43 : zt_F 0 43 = some (3, 9) := by decide +kernel
theorem zF_0_46 : zt_F 0 46 = some (3, 10) := by decide +kernel
theorem zF_0_49 : zt_F 0 49 = some (3, 11) := by decide +kernel
theorem zF_0_52 : zt_F 0 52 = some (3, 12) := by decide +kernel
theorem zF_0_70 : zt_F 0 70 = some (4, 1) := by decide +kernel
theorem zF_0_107 : zt_F 0 107 = some (3, 13) := by decide +kernel
theorem zF_0_110 : zt_F 0 110 = some (8, 0) := by decide +kernel
theorem zF_0_123 : zt_F 0 123 = some (8, 8) := by decide +kernel
theorem zF_0_141 : zt_F 0 141 = some (8, 5) := by decide +kernel
theorem zF_0_152 : zt_F 0 152 = some (8, 6) := by decide +kernel
theorem zF_0_159 : zt_F 0 159 = some (3, 14) := by decide +kernel
theorem zF_0_162 : zt_F 0 162 = some (3, 15) := by decide +kernel
theorem zF_0_172 : zt_F 0 172 = some (8, 2) := by decide +kernel
theorem zF_0_175 : zt_F 0 175 = some (8, 1) := by decide +kernel
theorem zF_0_178 : zt_F 0 178 = some (8, 3) := by decide +kernel
theorem zF_0_181 : zt_F 0 181 = some (8, 4) := by decide +kernel
theorem zF_1_9 : zt_F 1 9 = some (4, 0) := by decide +kernel
theorem zF_1_15 : zt_F 1 15 = some (4, 1) := by decide +kernel
theorem zF_1_45 : zt_F 1 45 = some (4, 2) := by decide +kernel
theorem zF_1_51 : zt_F 1 51 = some (4, 3) := by decide +kernel
theorem zF_1_54 : zt_F 1 54 = some (4, 4) := by decide +kernel
theorem zF_1_57 : zt_F 1 57 = some (4, 5) := by decide +kernel
theorem zF_1_60 : zt_F 1 60 = some (4, 6) := by decide +kernel
theorem zF_1_63 : zt_F 1 63 = some (4, 7) := by decide +kernel
theorem zF_2_9 : zt_F 2 9 = some (5, 0) := by decide +kernel
theorem zF_2_47 : zt_F 2 47 = some (4, 1) := by decide +kernel
theorem zF_2_54 : zt_F 2 54 = some (4, 2) := by decide +kernel
theorem zF_2_61 : zt_F 2 61 = some (4, 4) := by decide +kernel
theorem zF_2_64 : zt_F 2 64 = some (4, 5) := by decide +kernel
theorem zF_2_67 : zt_F 2 67 = some (4, 6) := by decide +kernel
theorem zF_2_70 : zt_F 2 70 = some (4, 7) := by decide +kernel
theorem zF_2_73 : zt_F 2 73 = some (4, 3) := by decide +kernel
theorem zF_3_9 : zt_F 3 9 = some (6, 0) := by decide +kernel
theorem zF_3_17 : zt_F 3 17 = some (6, 1) := by decide +kernel
theorem zF_3_21 : zt_F 3 21 = some (6, 2) := by decide +kernel
theorem zF_3_24 : zt_F 3 24 = some (6, 3) := by decide +kernel
theorem zF_3_27 : zt_F 3 27 = some (6, 4) := by decide +kernel
theorem zF_3_30 : zt_F 3 30 = some (6, 5) := by decide +kernel
theorem zF_3_33 : zt_F 3 33 = some (6, 6) := by decide +kernel
theorem zF_3_36 : zt_F 3 36 = some (6, 7) := by decide +kernel
theorem zF_3_42 : zt_F 3 42 = some (6, 10) := by decide +kernel
theorem zF_3_49 : zt_F 3 49 = some (6, 11) := by decide +kernel
theorem zF_3_77 : zt_F 3 77 = some (6, 9) := by decide +kernel
theorem zF_3_99 : zt_F 3 99 = some (6, 8) := by decide +kernel
theorem zF_4_9 : zt_F 4 9 = some (7, 0) := by decide +kernel
theorem zF_4_23 : zt_F 4 23 = some (7, 1) := by decide +kernel
theorem zF_5_9 : zt_F 5 9 = some (8, 0) := by decide +kernel
theorem zF_5_15 : zt_F 5 15 = some (8, 1) := by decide +kernel
theorem zF_5_18 : zt_F 5 18 = some (8, 2) := by decide +kernel
theorem zF_5_21 : zt_F 5 21 = some (8, 3) := by decide +kernel
theorem zF_5_24 : zt_F 5 24 = some (8, 4) := by decide +kernel
theorem zF_5_27 : zt_F 5 27 = some (8, 5) := by decide +kernel
theorem zF_5_30 : zt_F 5 30 = some (8, 6) := by decide +kernel
theorem zF_5_33 : zt_F 5 33 = some (8, 7) := by decide +kernel
theorem zF_5_36 : zt_F 5 36 = some (8, 8) := by decide +kernel
theorem zF_5_42 : zt_F 5 42 = some (8, 10) := by decide +kernel
theorem zF_5_46 : zt_F 5 46 = some (8, 9) := by decide +kernel
theorem zF_6_12 : zt_F 6 12 = some (9, 0) := by decide +kernel
theorem zF_6_18 : zt_F 6 18 = some (9, 1) := by decide +kernel
theorem zF_6_25 : zt_F 6 25 = some (9, 2) := by decide +kernel
theorem zF_6_32 : zt_F 6 32 = some (9, 3) := by decide +kernel
theorem zF_6_39 : zt_F 6 39 = some (9, 4) := by decide +kernel
theorem zF_6_46 : zt_F 6 46 = some (9, 5) := by decide +kernel
theorem zF_6_65 : zt_F 6 65 = some (8, 0) := by decide +kernel
theorem zF_6_69 : zt_F 6 69 = some (8, 3) := by decide +kernel
theorem zF_6_75 : zt_F 6 75 = some (8, 5) := by decide +kernel
theorem zF_6_84 : zt_F 6 84 = some (8, 1) := by decide +kernel
theorem zF_6_87 : zt_F 6 87 = some (8, 2) := by decide +kernel
theorem zF_6_90 : zt_F 6 90 = some (8, 9) := by decide +kernel
theorem zF_6_100 : zt_F 6 100 = some (9, 6) := by decide +kernel
theorem zF_6_107 : zt_F 6 107 = some (4, 1) := by decide +kernel
theorem zF_6_134 : zt_F 6 134 = some (4, 2) := by decide +kernel
theorem zF_6_137 : zt_F 6 137 = some (4, 3) := by decide +kernel
theorem zF_6_144 : zt_F 6 144 = some (4, 4) := by decide +kernel
theorem zF_6_202 : zt_F 6 202 = some (6, 10) := by decide +kernel
theorem zF_6_205 : zt_F 6 205 = some (6, 11) := by decide +kernel
theorem zF_7_7 : zt_F 7 7 = some (10, 2) := by decide +kernel
theorem zF_7_13 : zt_F 7 13 = some (10, 3) := by decide +kernel
theorem zF_7_16 : zt_F 7 16 = some (10, 4) := by decide +kernel
theorem zF_7_19 : zt_F 7 19 = some (10, 5) := by decide +kernel
theorem zF_7_22 : zt_F 7 22 = some (10, 6) := by decide +kernel
theorem zF_7_25 : zt_F 7 25 = some (10, 8) := by decide +kernel
theorem zF_7_28 : zt_F 7 28 = some (10, 9) := by decide +kernel
theorem zF_7_31 : zt_F 7 31 = some (10, 10) := by decide +kernel
theorem zF_7_34 : zt_F 7 34 = some (10, 12) := by decide +kernel
theorem zF_7_37 : zt_F 7 37 = some (10, 13) := by decide +kernel
theorem zF_7_40 : zt_F 7 40 = some (10, 16) := by decide +kernel
theorem zF_7_43 : zt_F 7 43 = some (10, 17) := by decide +kernel
theorem zF_7_46 : zt_F 7 46 = some (10, 20) := by decide +kernel
theorem zF_7_49 : zt_F 7 49 = some (10, 21) := by decide +kernel
theorem zF_7_52 : zt_F 7 52 = some (10, 23) := by decide +kernel
theorem zF_7_55 : zt_F 7 55 = some (10, 24) := by decide +kernel
theorem zF_7_58 : zt_F 7 58 = some (10, 25) := by decide +kernel
theorem zF_7_61 : zt_F 7 61 = some (10, 26) := by decide +kernel
theorem zF_7_64 : zt_F 7 64 = some (10, 28) := by decide +kernel
theorem zF_7_67 : zt_F 7 67 = some (10, 29) := by decide +kernel
theorem zF_7_70 : zt_F 7 70 = some (10, 30) := by decide +kernel
theorem zF_7_73 : zt_F 7 73 = some (10, 31) := by decide +kernel
theorem zF_7_76 : zt_F 7 76 = some (10, 32) := by decide +kernel
theorem zF_7_79 : zt_F 7 79 = some (10, 33) := by decide +kernel
theorem zF_7_82 : zt_F 7 82 = some (10, 36) := by decide +kernel
theorem zF_7_85 : zt_F 7 85 = some (10, 38) := by decide +kernel
theorem zF_7_88 : zt_F 7 88 = some (10, 39) := by decide +kernel
theorem zF_7_91 : zt_F 7 91 = some (10, 40) := by decide +kernel
theorem zF_7_94 : zt_F 7 94 = some (10, 1) := by decide +kernel
theorem zF_7_98 : zt_F 7 98 = some (10, 0) := by decide +kernel
theorem zF_7_105 : zt_F 7 105 = some (10, 7) := by decide +kernel
theorem zF_7_129 : zt_F 7 129 = some (10, 14) := by decide +kernel
theorem zF_7_132 : zt_F 7 132 = some (10, 15) := by decide +kernel
theorem zF_7_139 : zt_F 7 139 = some (10, 19) := by decide +kernel
theorem zF_7_142 : zt_F 7 142 = some (10, 18) := by decide +kernel
theorem zF_7_149 : zt_F 7 149 = some (10, 22) := by decide +kernel
theorem zF_7_165 : zt_F 7 165 = some (10, 27) := by decide +kernel
theorem zF_7_168 : zt_F 7 168 = some (10, 11) := by decide +kernel
theorem zF_7_195 : zt_F 7 195 = some (10, 34) := by decide +kernel
theorem zF_7_257 : zt_F 7 257 = some (10, 35) := by decide +kernel
theorem zF_7_269 : zt_F 7 269 = some (10, 37) := by decide +kernel
theorem zN_0_9 : zt_N 0 9 = some (7, 2) := by decide +kernel
theorem zN_3_15 : zt_N 3 15 = some (4, 8) := by decide +kernel
theorem zN_6_9 : zt_N 6 9 = some (8, 11) := by decide +kernel
theorem zN_6_16 : zt_N 6 16 = some (4, 8) := by decide +kernel
theorem zN_6_29 : zt_N 6 29 = some (3, 16) := by decide +kernel
theorem zN_6_36 : zt_N 6 36 = some (5, 1) := by decide +kernel
theorem zN_6_43 : zt_N 6 43 = some (6, 12) := by decide +kernel
theorem zN_8_8 : zt_N 8 8 = some (9, 7) := by decide +kernel
theorem zN_8_16 : zt_N 8 16 = some (10, 41) := by decide +kernel
theorem zK_1_90 : zt_K 1 90 = some (32768) := by decide +kernel
theorem zK_4_31 : zt_K 4 31 = some (32768) := by decide +kernel
theorem zK_6_211 : zt_K 6 211 = some (65535) := by decide +kernel
theorem zK_7_128 : zt_K 7 128 = some (65535) := by decide +kernel
theorem zK_7_158 : zt_K 7 158 = some (32768) := by decide +kernel
theorem zJ_1_66 : zt_J 1 66 = some (65521) := by decide +kernel
theorem zJ_7_193 : zt_J 7 193 = some (65521) := by decide +kernel
theorem zA_3_15 : zt_A 3 15 = true := by decide +kernel
theorem zA_6_16 : zt_A 6 16 = true := by decide +kernel
def zt_nest : List Cond := [.methodLinkNest RX0 11 yX4_init "TreeImages", .methodLinkNest RX2 57 yX6_isBlock "TreeImages", .methodLinkNest RX6 31 yX0_init "TreeImages", .methodLinkNest RX6 38 yX2_init "TreeImages"]
def zt_okM (Z : zx_M) : Prop := plainName Z.1.cls = true ∧ Cond.code Z.1 Z.2.1 Z.2.2.1 Z.2.2.2.1 ∈ zt_all ∧ Cond.initialized Z.1.cls ∈ zt_all ∧ Z.1.cls = zt_own Z.2.2.2.2.1 ∧ Z.1.cls ≠ "java/lang/invoke/MethodHandle" ∧ Z.1.cls ≠ "java/lang/invoke/VarHandle" ∧ Z.2.2.2.2.1 ≠ 8
def zt_okC (e : Nat × Nat × Nat × Nat) : Prop :=
  (e.2.2.1 = 0 → ∃ Z, zt_M e.2.2.2 = some Z ∧ zt_okM Z ∧ Cond.methodLink (zt_own e.1) e.2.1 Z.1 ∈ zt_all ∧ Cond.instanceMethod Z.1 ∈ zt_all ∧ Cond.selects Z.1.cls Z.1 Z.1 ∈ zt_all ∧ (parseMethodDescriptor Z.1.desc).map (fun d => d.parameters.length + 1) = some Z.2.2.2.2.2.1 ∧ ∃ r, vwCl[3 + Z.2.2.2.2.1]? = some r ∧ r.1 = Z.1.cls) ∧
  (e.2.2.1 = 1 → ∃ Z, zt_M e.2.2.2 = some Z ∧ zt_okM Z ∧ (Cond.methodLink (zt_own e.1) e.2.1 Z.1 ∈ zt_all ∨ Cond.methodLinkNest (zt_own e.1) e.2.1 Z.1 "TreeImages" ∈ zt_nest) ∧ Cond.static Z.1 ∈ zt_all ∧ (parseMethodDescriptor Z.1.desc).map (fun d => d.parameters.length) = some Z.2.2.2.2.2.1) ∧
  (e.2.2.1 = 2 → ∃ Z, zt_M e.2.2.2 = some Z ∧ zt_okM Z ∧ (Cond.methodLink (zt_own e.1) e.2.1 Z.1 ∈ zt_all ∨ Cond.methodLinkNest (zt_own e.1) e.2.1 Z.1 "TreeImages" ∈ zt_nest) ∧ Cond.instanceMethod Z.1 ∈ zt_all ∧ Z.1.name = "<init>" ∧ Z.2.2.2.1 = none ∧ (parseMethodDescriptor Z.1.desc).map (fun d => d.parameters.length + 1) = some Z.2.2.2.2.2.1) ∧
  (e.2.2.1 = 3 → Cond.methodLink (zt_own e.1) e.2.1 objectInit ∈ zt_all) ∧
  (e.2.2.1 = 4 → Cond.methodLink (zt_own e.1) e.2.1 Lib.Math.min.name ∈ zt_all) ∧
  (e.2.2.1 = 5 → Cond.methodLink (zt_own e.1) e.2.1 arraycopyName ∈ zt_all)
def zt_okF (e : Nat × Nat × Nat × Nat) : Prop := ∃ C T N, vwCl[e.2.2.1]? = some (C, T, N) ∧ T = zt_T e.2.2.1 ∧ e.2.2.2 < N ∧ (∀ w ∈ u_ws C T N, w ∈ zt_all) ∧ Cond.fieldLink (zt_own e.1) e.2.1 (T e.2.2.2).1 (T e.2.2.2).2.1 (T e.2.2.2).2.2.1 ∈ zt_all ∧ (∀ k, k < N → parseFieldDescriptor (T k).2.2.1 = some (zt_ty e.2.2.1 k)) ∧ (∀ a, a < N → ∀ b, b < N → a ≠ b → (T a).2.1 ≠ (T b).2.1) ∧ (T e.2.2.2).1 = C
def zt_okN (e : Nat × Nat × Nat × Nat) : Prop := ∃ C T, vwCl[e.2.2.1]? = some (C, T, e.2.2.2) ∧ (∀ w ∈ u_ws C T e.2.2.2, w ∈ zt_all) ∧ Cond.classLink (zt_own e.1) e.2.1 C ∈ zt_all ∧ Cond.instantiable C e.2.2.2 ∈ zt_all ∧ Cond.initialized C ∈ zt_all ∧ (∀ k, k < e.2.2.2 → parseFieldDescriptor (T k).2.2.1 = some (zt_ty e.2.2.1 k)) ∧ ∀ k, k < e.2.2.2 → defaultValue (zt_ty e.2.2.1 k) = (match zt_ty e.2.2.1 k with | .int => Value.int 0 | _ => Value.null)
theorem zt_ownC : ∀ (c : Nat) (r : vw_C), vwCl[3 + c]? = some r → r.1 = zt_own c
  | 0, _, h => by cases h; rfl
  | 1, _, h => by cases h; rfl
  | 2, _, h => by cases h; rfl
  | 3, _, h => by cases h; rfl
  | 4, _, h => by cases h; rfl
  | 5, _, h => by cases h; rfl
  | 6, _, h => by cases h; rfl
  | 7, _, h => by cases h; rfl
  | c + 8, r, h => by rw [List.getElem?_eq_none (by simp only [vwCl, List.length_cons, List.length_nil]; omega)] at h; cases h
theorem zo_M0 : zt_okM (yJ7_fill_53178, cJ7_fill_53178, 4, none, 9, 2, 0, 0) := ⟨by decide +kernel, zt_in_za_0 _ (List.mem_of_getElem? (i := 0) rfl), zt_in_za_0 _ (List.mem_of_getElem? (i := 1) rfl), rfl, by decide +kernel, by decide +kernel, by decide⟩
theorem zo_M1 : zt_okM (yJ7_fill_fda19, cJ7_fill_fda19, 5, none, 9, 4, 1, 22) := ⟨by decide +kernel, zt_in_za_0 _ (List.mem_of_getElem? (i := 2) rfl), zt_in_za_0 _ (List.mem_of_getElem? (i := 1) rfl), rfl, by decide +kernel, by decide +kernel, by decide⟩
theorem zo_M2 : zt_okM (yJ7_rangeCheck_23922, cJ7_rangeCheck_23922, 3, none, 9, 3, 0, 0) := ⟨by decide +kernel, zt_in_za_0 _ (List.mem_of_getElem? (i := 3) rfl), zt_in_za_0 _ (List.mem_of_getElem? (i := 1) rfl), rfl, by decide +kernel, by decide +kernel, by decide⟩
theorem zo_M3 : zt_okM (yX0_become, cX0_become, 4, none, 0, 4, 5, 126) := ⟨by decide +kernel, zt_in_za_0 _ (List.mem_of_getElem? (i := 4) rfl), zt_in_za_0 _ (List.mem_of_getElem? (i := 5) rfl), rfl, by decide +kernel, by decide +kernel, by decide⟩
theorem zo_M4 : zt_okM (yX0_closeTailBlock, cX0_closeTailBlock, 2, none, 0, 2, 3, 75) := ⟨by decide +kernel, zt_in_za_0 _ (List.mem_of_getElem? (i := 6) rfl), zt_in_za_0 _ (List.mem_of_getElem? (i := 5) rfl), rfl, by decide +kernel, by decide +kernel, by decide⟩
theorem zo_M5 : zt_okM (yX0_findTwin, cX0_findTwin, 6, (some .int), 0, 3, 1, 23) := ⟨by decide +kernel, zt_in_za_0 _ (List.mem_of_getElem? (i := 7) rfl), zt_in_za_0 _ (List.mem_of_getElem? (i := 5) rfl), rfl, by decide +kernel, by decide +kernel, by decide⟩
theorem zo_M6 : zt_okM (yX0_giveNumbers, cX0_giveNumbers, 4, none, 0, 2, 3, 68) := ⟨by decide +kernel, zt_in_za_0 _ (List.mem_of_getElem? (i := 8) rfl), zt_in_za_0 _ (List.mem_of_getElem? (i := 5) rfl), rfl, by decide +kernel, by decide +kernel, by decide⟩
theorem zo_M7 : zt_okM (yX0_giveNumbersBelow, cX0_giveNumbersBelow, 6, none, 0, 3, 2, 43) := ⟨by decide +kernel, zt_in_za_0 _ (List.mem_of_getElem? (i := 9) rfl), zt_in_za_0 _ (List.mem_of_getElem? (i := 5) rfl), rfl, by decide +kernel, by decide +kernel, by decide⟩
theorem zo_M8 : zt_okM (yX0_init, cX0_init, 1, none, 0, 1, 2, 60) := ⟨by decide +kernel, zt_in_za_0 _ (List.mem_of_getElem? (i := 10) rfl), zt_in_za_0 _ (List.mem_of_getElem? (i := 5) rfl), rfl, by decide +kernel, by decide +kernel, by decide⟩
theorem zo_M9 : zt_okM (yX0_joinTail, cX0_joinTail, 7, none, 0, 4, 0, 0) := ⟨by decide +kernel, zt_in_za_0 _ (List.mem_of_getElem? (i := 11) rfl), zt_in_za_0 _ (List.mem_of_getElem? (i := 5) rfl), rfl, by decide +kernel, by decide +kernel, by decide⟩
theorem zo_M10 : zt_okM (yX0_putBlocks, cX0_putBlocks, 5, none, 0, 4, 4, 102) := ⟨by decide +kernel, zt_in_za_0 _ (List.mem_of_getElem? (i := 12) rfl), zt_in_za_0 _ (List.mem_of_getElem? (i := 5) rfl), rfl, by decide +kernel, by decide +kernel, by decide⟩
theorem zo_M11 : zt_okM (yX0_putBlocksOf, cX0_putBlocksOf, 8, none, 0, 5, 3, 75) := ⟨by decide +kernel, zt_in_za_0 _ (List.mem_of_getElem? (i := 13) rfl), zt_in_za_0 _ (List.mem_of_getElem? (i := 5) rfl), rfl, by decide +kernel, by decide +kernel, by decide⟩
theorem zo_M12 : zt_okM (yX0_putExports, cX0_putExports, 3, none, 0, 2, 2, 42) := ⟨by decide +kernel, zt_in_za_0 _ (List.mem_of_getElem? (i := 14) rfl), zt_in_za_0 _ (List.mem_of_getElem? (i := 5) rfl), rfl, by decide +kernel, by decide +kernel, by decide⟩
theorem zo_M13 : zt_okM (yX0_putFileRow, cX0_putFileRow, 8, none, 0, 5, 2, 42) := ⟨by decide +kernel, zt_in_za_0 _ (List.mem_of_getElem? (i := 15) rfl), zt_in_za_0 _ (List.mem_of_getElem? (i := 5) rfl), rfl, by decide +kernel, by decide +kernel, by decide⟩
theorem zo_M14 : zt_okM (yX0_putFolders, cX0_putFolders, 7, none, 0, 3, 2, 43) := ⟨by decide +kernel, zt_in_za_0 _ (List.mem_of_getElem? (i := 16) rfl), zt_in_za_0 _ (List.mem_of_getElem? (i := 5) rfl), rfl, by decide +kernel, by decide +kernel, by decide⟩
theorem zo_M15 : zt_okM (yX0_putHead, cX0_putHead, 4, none, 0, 3, 2, 42) := ⟨by decide +kernel, zt_in_za_0 _ (List.mem_of_getElem? (i := 17) rfl), zt_in_za_0 _ (List.mem_of_getElem? (i := 5) rfl), rfl, by decide +kernel, by decide +kernel, by decide⟩
theorem zo_M16 : zt_okM (yX0_putInodes, cX0_putInodes, 9, none, 0, 4, 3, 69) := ⟨by decide +kernel, zt_in_za_0 _ (List.mem_of_getElem? (i := 18) rfl), zt_in_za_0 _ (List.mem_of_getElem? (i := 5) rfl), rfl, by decide +kernel, by decide +kernel, by decide⟩
theorem zo_M17 : zt_okM (yX0_putTailBlocks, cX0_putTailBlocks, 7, none, 0, 4, 4, 96) := ⟨by decide +kernel, zt_in_za_0 _ (List.mem_of_getElem? (i := 19) rfl), zt_in_za_0 _ (List.mem_of_getElem? (i := 5) rfl), rfl, by decide +kernel, by decide +kernel, by decide⟩
theorem zo_M18 : zt_okM (yX0_putTails, cX0_putTails, 3, none, 0, 2, 2, 42) := ⟨by decide +kernel, zt_in_za_0 _ (List.mem_of_getElem? (i := 20) rfl), zt_in_za_0 _ (List.mem_of_getElem? (i := 5) rfl), rfl, by decide +kernel, by decide +kernel, by decide⟩
theorem zo_M19 : zt_okM (yX0_wholeBlocks, cX0_wholeBlocks, 2, (some .int), 0, 2, 0, 0) := ⟨by decide +kernel, zt_in_za_0 _ (List.mem_of_getElem? (i := 21) rfl), zt_in_za_0 _ (List.mem_of_getElem? (i := 5) rfl), rfl, by decide +kernel, by decide +kernel, by decide⟩
theorem zo_M20 : zt_okM (yX1_blockByte, cX1_blockByte, 4, (some .int), 1, 4, 2, 48) := ⟨by decide +kernel, zt_in_za_0 _ (List.mem_of_getElem? (i := 22) rfl), zt_in_za_0 _ (List.mem_of_getElem? (i := 23) rfl), rfl, by decide +kernel, by decide +kernel, by decide⟩
theorem zo_M21 : zt_okM (yX1_byteAt, cX1_byteAt, 2, (some .int), 1, 2, 0, 0) := ⟨by decide +kernel, zt_in_za_0 _ (List.mem_of_getElem? (i := 24) rfl), zt_in_za_0 _ (List.mem_of_getElem? (i := 23) rfl), rfl, by decide +kernel, by decide +kernel, by decide⟩
theorem zo_M22 : zt_okM (yX1_canBeBlock, cX1_canBeBlock, 4, (some .boolean), 1, 4, 2, 47) := ⟨by decide +kernel, zt_in_za_0 _ (List.mem_of_getElem? (i := 25) rfl), zt_in_za_0 _ (List.mem_of_getElem? (i := 23) rfl), rfl, by decide +kernel, by decide +kernel, by decide⟩
theorem zo_M23 : zt_okM (yX1_copyFrom, cX1_copyFrom, 2, none, 1, 2, 2, 41) := ⟨by decide +kernel, zt_in_za_0 _ (List.mem_of_getElem? (i := 26) rfl), zt_in_za_0 _ (List.mem_of_getElem? (i := 23) rfl), rfl, by decide +kernel, by decide +kernel, by decide⟩
theorem zo_M24 : zt_okM (yX1_fileByte, cX1_fileByte, 8, (some .int), 1, 3, 3, 71) := ⟨by decide +kernel, zt_in_za_0 _ (List.mem_of_getElem? (i := 27) rfl), zt_in_za_0 _ (List.mem_of_getElem? (i := 23) rfl), rfl, by decide +kernel, by decide +kernel, by decide⟩
theorem zo_M25 : zt_okM (yX1_firstNamePlace, cX1_firstNamePlace, 2, (some .int), 1, 2, 2, 42) := ⟨by decide +kernel, zt_in_za_0 _ (List.mem_of_getElem? (i := 28) rfl), zt_in_za_0 _ (List.mem_of_getElem? (i := 23) rfl), rfl, by decide +kernel, by decide +kernel, by decide⟩
theorem zo_M26 : zt_okM (yX1_hasBytesOf, cX1_hasBytesOf, 3, (some .boolean), 1, 2, 0, 0) := ⟨by decide +kernel, zt_in_za_0 _ (List.mem_of_getElem? (i := 29) rfl), zt_in_za_0 _ (List.mem_of_getElem? (i := 23) rfl), rfl, by decide +kernel, by decide +kernel, by decide⟩
theorem zo_M27 : zt_okM (yX1_hasNumber, cX1_hasNumber, 2, (some .boolean), 1, 2, 0, 0) := ⟨by decide +kernel, zt_in_za_1 _ (List.mem_of_getElem? (i := 0) rfl), zt_in_za_0 _ (List.mem_of_getElem? (i := 23) rfl), rfl, by decide +kernel, by decide +kernel, by decide⟩
theorem zo_M28 : zt_okM (yX1_homeOf, cX1_homeOf, 2, (some .int), 1, 2, 2, 42) := ⟨by decide +kernel, zt_in_za_1 _ (List.mem_of_getElem? (i := 1) rfl), zt_in_za_0 _ (List.mem_of_getElem? (i := 23) rfl), rfl, by decide +kernel, by decide +kernel, by decide⟩
theorem zo_M29 : zt_okM (yX1_init, cX1_init, 2, none, 1, 2, 1, 40) := ⟨by decide +kernel, zt_in_za_1 _ (List.mem_of_getElem? (i := 2) rfl), zt_in_za_0 _ (List.mem_of_getElem? (i := 23) rfl), rfl, by decide +kernel, by decide +kernel, by decide⟩
theorem zo_M30 : zt_okM (yX1_kindOf, cX1_kindOf, 2, (some .int), 1, 2, 2, 42) := ⟨by decide +kernel, zt_in_za_1 _ (List.mem_of_getElem? (i := 3) rfl), zt_in_za_0 _ (List.mem_of_getElem? (i := 23) rfl), rfl, by decide +kernel, by decide +kernel, by decide⟩
theorem zo_M31 : zt_okM (yX1_modeOf, cX1_modeOf, 2, (some .int), 1, 2, 2, 42) := ⟨by decide +kernel, zt_in_za_1 _ (List.mem_of_getElem? (i := 4) rfl), zt_in_za_0 _ (List.mem_of_getElem? (i := 23) rfl), rfl, by decide +kernel, by decide +kernel, by decide⟩
theorem zo_M32 : zt_okM (yX1_namesOf, cX1_namesOf, 2, (some .int), 1, 2, 2, 42) := ⟨by decide +kernel, zt_in_za_1 _ (List.mem_of_getElem? (i := 5) rfl), zt_in_za_0 _ (List.mem_of_getElem? (i := 23) rfl), rfl, by decide +kernel, by decide +kernel, by decide⟩
theorem zo_M33 : zt_okM (yX1_openedByte, cX1_openedByte, 8, (some .int), 1, 4, 1, 21) := ⟨by decide +kernel, zt_in_za_1 _ (List.mem_of_getElem? (i := 6) rfl), zt_in_za_0 _ (List.mem_of_getElem? (i := 23) rfl), rfl, by decide +kernel, by decide +kernel, by decide⟩
theorem zo_M34 : zt_okM (yX1_openedBytes, cX1_openedBytes, 7, (some .int), 1, 3, 1, 21) := ⟨by decide +kernel, zt_in_za_1 _ (List.mem_of_getElem? (i := 7) rfl), zt_in_za_0 _ (List.mem_of_getElem? (i := 23) rfl), rfl, by decide +kernel, by decide +kernel, by decide⟩
theorem zo_M35 : zt_okM (yX1_opensTo, cX1_opensTo, 1, (some .int), 1, 1, 0, 0) := ⟨by decide +kernel, zt_in_za_1 _ (List.mem_of_getElem? (i := 8) rfl), zt_in_za_0 _ (List.mem_of_getElem? (i := 23) rfl), rfl, by decide +kernel, by decide +kernel, by decide⟩
theorem zo_M36 : zt_okM (yX1_ownerOf, cX1_ownerOf, 2, (some .int), 1, 2, 2, 42) := ⟨by decide +kernel, zt_in_za_1 _ (List.mem_of_getElem? (i := 9) rfl), zt_in_za_0 _ (List.mem_of_getElem? (i := 23) rfl), rfl, by decide +kernel, by decide +kernel, by decide⟩
theorem zo_M37 : zt_okM (yX1_packetBytes, cX1_packetBytes, 1, (some .int), 1, 1, 0, 0) := ⟨by decide +kernel, zt_in_za_1 _ (List.mem_of_getElem? (i := 10) rfl), zt_in_za_0 _ (List.mem_of_getElem? (i := 23) rfl), rfl, by decide +kernel, by decide +kernel, by decide⟩
theorem zo_M38 : zt_okM (yX1_putByte, cX1_putByte, 2, none, 1, 2, 0, 0) := ⟨by decide +kernel, zt_in_za_1 _ (List.mem_of_getElem? (i := 11) rfl), zt_in_za_0 _ (List.mem_of_getElem? (i := 23) rfl), rfl, by decide +kernel, by decide +kernel, by decide⟩
theorem zo_M39 : zt_okM (yX1_putInt, cX1_putInt, 2, none, 1, 2, 2, 42) := ⟨by decide +kernel, zt_in_za_1 _ (List.mem_of_getElem? (i := 12) rfl), zt_in_za_0 _ (List.mem_of_getElem? (i := 23) rfl), rfl, by decide +kernel, by decide +kernel, by decide⟩
theorem zo_M40 : zt_okM (yX1_putWord, cX1_putWord, 2, none, 1, 2, 1, 21) := ⟨by decide +kernel, zt_in_za_1 _ (List.mem_of_getElem? (i := 13) rfl), zt_in_za_0 _ (List.mem_of_getElem? (i := 23) rfl), rfl, by decide +kernel, by decide +kernel, by decide⟩
theorem zo_M41 : zt_okM (yX1_readHead, cX1_readHead, 1, none, 1, 1, 1, 21) := ⟨by decide +kernel, zt_in_za_1 _ (List.mem_of_getElem? (i := 14) rfl), zt_in_za_0 _ (List.mem_of_getElem? (i := 23) rfl), rfl, by decide +kernel, by decide +kernel, by decide⟩
theorem zo_M42 : zt_okM (yX1_rowOf, cX1_rowOf, 2, (some .int), 1, 2, 1, 21) := ⟨by decide +kernel, zt_in_za_1 _ (List.mem_of_getElem? (i := 15) rfl), zt_in_za_0 _ (List.mem_of_getElem? (i := 23) rfl), rfl, by decide +kernel, by decide +kernel, by decide⟩
theorem zo_M43 : zt_okM (yX1_setWord, cX1_setWord, 3, none, 1, 3, 0, 0) := ⟨by decide +kernel, zt_in_za_1 _ (List.mem_of_getElem? (i := 16) rfl), zt_in_za_0 _ (List.mem_of_getElem? (i := 23) rfl), rfl, by decide +kernel, by decide +kernel, by decide⟩
theorem zo_M44 : zt_okM (yX1_sizeOf, cX1_sizeOf, 4, (some .int), 1, 2, 2, 42) := ⟨by decide +kernel, zt_in_za_1 _ (List.mem_of_getElem? (i := 17) rfl), zt_in_za_0 _ (List.mem_of_getElem? (i := 23) rfl), rfl, by decide +kernel, by decide +kernel, by decide⟩
theorem zo_M45 : zt_okM (yX1_storedBytes, cX1_storedBytes, 1, (some .int), 1, 1, 0, 0) := ⟨by decide +kernel, zt_in_za_1 _ (List.mem_of_getElem? (i := 18) rfl), zt_in_za_0 _ (List.mem_of_getElem? (i := 23) rfl), rfl, by decide +kernel, by decide +kernel, by decide⟩
theorem zo_M46 : zt_okM (yX1_sum, cX1_sum, 4, (some .int), 1, 1, 0, 0) := ⟨by decide +kernel, zt_in_za_1 _ (List.mem_of_getElem? (i := 19) rfl), zt_in_za_0 _ (List.mem_of_getElem? (i := 23) rfl), rfl, by decide +kernel, by decide +kernel, by decide⟩
theorem zo_M47 : zt_okM (yX1_tailBlocks, cX1_tailBlocks, 1, (some .int), 1, 1, 0, 0) := ⟨by decide +kernel, zt_in_za_1 _ (List.mem_of_getElem? (i := 20) rfl), zt_in_za_0 _ (List.mem_of_getElem? (i := 23) rfl), rfl, by decide +kernel, by decide +kernel, by decide⟩
theorem zo_M48 : zt_okM (yX1_tailRow, cX1_tailRow, 2, (some .int), 1, 2, 0, 0) := ⟨by decide +kernel, zt_in_za_1 _ (List.mem_of_getElem? (i := 21) rfl), zt_in_za_0 _ (List.mem_of_getElem? (i := 23) rfl), rfl, by decide +kernel, by decide +kernel, by decide⟩
theorem zo_M49 : zt_okM (yX1_targetOf, cX1_targetOf, 7, (some .int), 1, 3, 3, 65) := ⟨by decide +kernel, zt_in_za_1 _ (List.mem_of_getElem? (i := 22) rfl), zt_in_za_0 _ (List.mem_of_getElem? (i := 23) rfl), rfl, by decide +kernel, by decide +kernel, by decide⟩
theorem zo_M50 : zt_okM (yX1_wholeBlocks, cX1_wholeBlocks, 2, (some .int), 1, 2, 0, 0) := ⟨by decide +kernel, zt_in_za_1 _ (List.mem_of_getElem? (i := 23) rfl), zt_in_za_0 _ (List.mem_of_getElem? (i := 23) rfl), rfl, by decide +kernel, by decide +kernel, by decide⟩
theorem zo_M51 : zt_okM (yX1_wordAt, cX1_wordAt, 2, (some .int), 1, 2, 0, 0) := ⟨by decide +kernel, zt_in_za_1 _ (List.mem_of_getElem? (i := 24) rfl), zt_in_za_0 _ (List.mem_of_getElem? (i := 23) rfl), rfl, by decide +kernel, by decide +kernel, by decide⟩
theorem zo_M52 : zt_okM (yX2_areFoldersNamedAtHome, cX2_areFoldersNamedAtHome, 7, (some .boolean), 2, 2, 3, 65) := ⟨by decide +kernel, zt_in_za_1 _ (List.mem_of_getElem? (i := 25) rfl), zt_in_za_1 _ (List.mem_of_getElem? (i := 26) rfl), rfl, by decide +kernel, by decide +kernel, by decide⟩
theorem zo_M53 : zt_okM (yX2_areFoldersRight, cX2_areFoldersRight, 4, (some .boolean), 2, 1, 3, 65) := ⟨by decide +kernel, zt_in_za_1 _ (List.mem_of_getElem? (i := 27) rfl), zt_in_za_1 _ (List.mem_of_getElem? (i := 26) rfl), rfl, by decide +kernel, by decide +kernel, by decide⟩
theorem zo_M54 : zt_okM (yX2_areInodesRight, cX2_areInodesRight, 4, (some .boolean), 2, 1, 4, 96) := ⟨by decide +kernel, zt_in_za_1 _ (List.mem_of_getElem? (i := 28) rfl), zt_in_za_1 _ (List.mem_of_getElem? (i := 26) rfl), rfl, by decide +kernel, by decide +kernel, by decide⟩
theorem zo_M55 : zt_okM (yX2_areNamesRight, cX2_areNamesRight, 6, (some .boolean), 2, 3, 1, 21) := ⟨by decide +kernel, zt_in_za_1 _ (List.mem_of_getElem? (i := 29) rfl), zt_in_za_1 _ (List.mem_of_getElem? (i := 26) rfl), rfl, by decide +kernel, by decide +kernel, by decide⟩
theorem zo_M56 : zt_okM (yX2_arePlacesRight, cX2_arePlacesRight, 1, (some .boolean), 2, 1, 1, 21) := ⟨by decide +kernel, zt_in_za_2 _ (List.mem_of_getElem? (i := 0) rfl), zt_in_za_1 _ (List.mem_of_getElem? (i := 26) rfl), rfl, by decide +kernel, by decide +kernel, by decide⟩
theorem zo_M57 : zt_okM (yX2_areTailsRight, cX2_areTailsRight, 5, (some .boolean), 2, 1, 3, 70) := ⟨by decide +kernel, zt_in_za_2 _ (List.mem_of_getElem? (i := 1) rfl), zt_in_za_1 _ (List.mem_of_getElem? (i := 26) rfl), rfl, by decide +kernel, by decide +kernel, by decide⟩
theorem zo_M58 : zt_okM (yX2_comesToFirst, cX2_comesToFirst, 4, (some .boolean), 2, 2, 3, 63) := ⟨by decide +kernel, zt_in_za_2 _ (List.mem_of_getElem? (i := 2) rfl), zt_in_za_1 _ (List.mem_of_getElem? (i := 26) rfl), rfl, by decide +kernel, by decide +kernel, by decide⟩
theorem zo_M59 : zt_okM (yX2_firstFault, cX2_firstFault, 2, (some .int), 2, 2, 5, 119) := ⟨by decide +kernel, zt_in_za_2 _ (List.mem_of_getElem? (i := 3) rfl), zt_in_za_1 _ (List.mem_of_getElem? (i := 26) rfl), rfl, by decide +kernel, by decide +kernel, by decide⟩
theorem zo_M60 : zt_okM (yX2_init, cX2_init, 1, none, 2, 1, 1, 40) := ⟨by decide +kernel, zt_in_za_2 _ (List.mem_of_getElem? (i := 4) rfl), zt_in_za_1 _ (List.mem_of_getElem? (i := 26) rfl), rfl, by decide +kernel, by decide +kernel, by decide⟩
theorem zo_M61 : zt_okM (yX2_isFileRight, cX2_isFileRight, 7, (some .boolean), 2, 2, 3, 70) := ⟨by decide +kernel, zt_in_za_2 _ (List.mem_of_getElem? (i := 5) rfl), zt_in_za_1 _ (List.mem_of_getElem? (i := 26) rfl), rfl, by decide +kernel, by decide +kernel, by decide⟩
theorem zo_M62 : zt_okM (yX2_isHeadRight, cX2_isHeadRight, 1, (some .boolean), 2, 1, 1, 21) := ⟨by decide +kernel, zt_in_za_2 _ (List.mem_of_getElem? (i := 6) rfl), zt_in_za_1 _ (List.mem_of_getElem? (i := 26) rfl), rfl, by decide +kernel, by decide +kernel, by decide⟩
theorem zo_M63 : zt_okM (yX2_isTailRight, cX2_isTailRight, 5, (some .boolean), 2, 3, 1, 21) := ⟨by decide +kernel, zt_in_za_2 _ (List.mem_of_getElem? (i := 7) rfl), zt_in_za_1 _ (List.mem_of_getElem? (i := 26) rfl), rfl, by decide +kernel, by decide +kernel, by decide⟩
theorem zo_M64 : zt_okM (yX2_isTreeRight, cX2_isTreeRight, 4, (some .boolean), 2, 2, 4, 91) := ⟨by decide +kernel, zt_in_za_2 _ (List.mem_of_getElem? (i := 8) rfl), zt_in_za_1 _ (List.mem_of_getElem? (i := 26) rfl), rfl, by decide +kernel, by decide +kernel, by decide⟩
theorem zo_M65 : zt_okM (yX2_rowBytes, cX2_rowBytes, 2, (some .int), 2, 2, 1, 21) := ⟨by decide +kernel, zt_in_za_2 _ (List.mem_of_getElem? (i := 9) rfl), zt_in_za_1 _ (List.mem_of_getElem? (i := 26) rfl), rfl, by decide +kernel, by decide +kernel, by decide⟩
theorem zo_M66 : zt_okM (yX3_addFound, cX3_addFound, 2, none, 3, 1, 0, 0) := ⟨by decide +kernel, zt_in_za_2 _ (List.mem_of_getElem? (i := 10) rfl), zt_in_za_2 _ (List.mem_of_getElem? (i := 11) rfl), rfl, by decide +kernel, by decide +kernel, by decide⟩
theorem zo_M67 : zt_okM (yX3_addToFound, cX3_addToFound, 3, none, 3, 3, 0, 0) := ⟨by decide +kernel, zt_in_za_2 _ (List.mem_of_getElem? (i := 12) rfl), zt_in_za_2 _ (List.mem_of_getElem? (i := 11) rfl), rfl, by decide +kernel, by decide +kernel, by decide⟩
theorem zo_M68 : zt_okM (yX3_byteOf, cX3_byteOf, 3, (some .int), 3, 3, 4, 98) := ⟨by decide +kernel, zt_in_za_2 _ (List.mem_of_getElem? (i := 13) rfl), zt_in_za_2 _ (List.mem_of_getElem? (i := 11) rfl), rfl, by decide +kernel, by decide +kernel, by decide⟩
theorem zo_M69 : zt_okM (yX3_depthOf, cX3_depthOf, 2, (some .int), 3, 2, 0, 0) := ⟨by decide +kernel, zt_in_za_2 _ (List.mem_of_getElem? (i := 14) rfl), zt_in_za_2 _ (List.mem_of_getElem? (i := 11) rfl), rfl, by decide +kernel, by decide +kernel, by decide⟩
theorem zo_M70 : zt_okM (yX3_find, cX3_find, 8, none, 3, 3, 4, 91) := ⟨by decide +kernel, zt_in_za_2 _ (List.mem_of_getElem? (i := 15) rfl), zt_in_za_2 _ (List.mem_of_getElem? (i := 11) rfl), rfl, by decide +kernel, by decide +kernel, by decide⟩
theorem zo_M71 : zt_okM (yX3_hasView, cX3_hasView, 2, (some .boolean), 3, 2, 0, 0) := ⟨by decide +kernel, zt_in_za_2 _ (List.mem_of_getElem? (i := 16) rfl), zt_in_za_2 _ (List.mem_of_getElem? (i := 11) rfl), rfl, by decide +kernel, by decide +kernel, by decide⟩
theorem zo_M72 : zt_okM (yX3_imageOf, cX3_imageOf, 2, (some .int), 3, 2, 0, 0) := ⟨by decide +kernel, zt_in_za_2 _ (List.mem_of_getElem? (i := 17) rfl), zt_in_za_2 _ (List.mem_of_getElem? (i := 11) rfl), rfl, by decide +kernel, by decide +kernel, by decide⟩
theorem zo_M73 : zt_okM (yX3_init, cX3_init, 3, none, 3, 1, 2, 61) := ⟨by decide +kernel, zt_in_za_2 _ (List.mem_of_getElem? (i := 18) rfl), zt_in_za_2 _ (List.mem_of_getElem? (i := 11) rfl), rfl, by decide +kernel, by decide +kernel, by decide⟩
theorem zo_M74 : zt_okM (yX3_isLaid, cX3_isLaid, 3, (some .boolean), 3, 2, 0, 0) := ⟨by decide +kernel, zt_in_za_2 _ (List.mem_of_getElem? (i := 19) rfl), zt_in_za_2 _ (List.mem_of_getElem? (i := 11) rfl), rfl, by decide +kernel, by decide +kernel, by decide⟩
theorem zo_M75 : zt_okM (yX3_kindOf, cX3_kindOf, 2, (some .int), 3, 2, 3, 63) := ⟨by decide +kernel, zt_in_za_2 _ (List.mem_of_getElem? (i := 20) rfl), zt_in_za_2 _ (List.mem_of_getElem? (i := 11) rfl), rfl, by decide +kernel, by decide +kernel, by decide⟩
theorem zo_M76 : zt_okM (yX3_lay, cX3_lay, 3, (some .int), 3, 3, 2, 43) := ⟨by decide +kernel, zt_in_za_2 _ (List.mem_of_getElem? (i := 21) rfl), zt_in_za_2 _ (List.mem_of_getElem? (i := 11) rfl), rfl, by decide +kernel, by decide +kernel, by decide⟩
theorem zo_M77 : zt_okM (yX3_lead, cX3_lead, 4, (some .int), 3, 3, 5, 118) := ⟨by decide +kernel, zt_in_za_2 _ (List.mem_of_getElem? (i := 22) rfl), zt_in_za_2 _ (List.mem_of_getElem? (i := 11) rfl), rfl, by decide +kernel, by decide +kernel, by decide⟩
theorem zo_M78 : zt_okM (yX3_modeOf, cX3_modeOf, 2, (some .int), 3, 2, 3, 63) := ⟨by decide +kernel, zt_in_za_2 _ (List.mem_of_getElem? (i := 23) rfl), zt_in_za_2 _ (List.mem_of_getElem? (i := 11) rfl), rfl, by decide +kernel, by decide +kernel, by decide⟩
theorem zo_M79 : zt_okM (yX3_nameBelow, cX3_nameBelow, 5, (some .int), 3, 3, 4, 92) := ⟨by decide +kernel, zt_in_za_2 _ (List.mem_of_getElem? (i := 24) rfl), zt_in_za_2 _ (List.mem_of_getElem? (i := 11) rfl), rfl, by decide +kernel, by decide +kernel, by decide⟩
theorem zo_M80 : zt_okM (yX3_nextName, cX3_nextName, 7, (some .int), 3, 2, 3, 65) := ⟨by decide +kernel, zt_in_za_2 _ (List.mem_of_getElem? (i := 25) rfl), zt_in_za_2 _ (List.mem_of_getElem? (i := 11) rfl), rfl, by decide +kernel, by decide +kernel, by decide⟩
theorem zo_M81 : zt_okM (yX3_numberOf, cX3_numberOf, 2, (some .int), 3, 2, 0, 0) := ⟨by decide +kernel, zt_in_za_2 _ (List.mem_of_getElem? (i := 26) rfl), zt_in_za_2 _ (List.mem_of_getElem? (i := 11) rfl), rfl, by decide +kernel, by decide +kernel, by decide⟩
theorem zo_M82 : zt_okM (yX3_ownerOf, cX3_ownerOf, 2, (some .int), 3, 2, 3, 63) := ⟨by decide +kernel, zt_in_za_2 _ (List.mem_of_getElem? (i := 27) rfl), zt_in_za_2 _ (List.mem_of_getElem? (i := 11) rfl), rfl, by decide +kernel, by decide +kernel, by decide⟩
theorem zo_M83 : zt_okM (yX3_passName, cX3_passName, 8, (some .int), 3, 3, 3, 65) := ⟨by decide +kernel, zt_in_za_2 _ (List.mem_of_getElem? (i := 28) rfl), zt_in_za_2 _ (List.mem_of_getElem? (i := 11) rfl), rfl, by decide +kernel, by decide +kernel, by decide⟩
theorem zo_M84 : zt_okM (yX3_sizeOf, cX3_sizeOf, 2, (some .int), 3, 2, 5, 116) := ⟨by decide +kernel, zt_in_za_2 _ (List.mem_of_getElem? (i := 29) rfl), zt_in_za_2 _ (List.mem_of_getElem? (i := 11) rfl), rfl, by decide +kernel, by decide +kernel, by decide⟩
theorem zo_M85 : zt_okM (yX3_startViews, cX3_startViews, 2, none, 3, 1, 1, 22) := ⟨by decide +kernel, zt_in_za_3 _ (List.mem_of_getElem? (i := 0) rfl), zt_in_za_2 _ (List.mem_of_getElem? (i := 11) rfl), rfl, by decide +kernel, by decide +kernel, by decide⟩
theorem zo_M86 : zt_okM (yX3_takeAway, cX3_takeAway, 2, (some .int), 3, 1, 0, 0) := ⟨by decide +kernel, zt_in_za_3 _ (List.mem_of_getElem? (i := 1) rfl), zt_in_za_2 _ (List.mem_of_getElem? (i := 11) rfl), rfl, by decide +kernel, by decide +kernel, by decide⟩
theorem zo_M87 : zt_okM (yX3_upperImage, cX3_upperImage, 2, (some (.object "TreeImages$Image")), 3, 2, 0, 0) := ⟨by decide +kernel, zt_in_za_3 _ (List.mem_of_getElem? (i := 2) rfl), zt_in_za_2 _ (List.mem_of_getElem? (i := 11) rfl), rfl, by decide +kernel, by decide +kernel, by decide⟩
theorem zo_M88 : zt_okM (yX4_addPacked, cX4_addPacked, 2, none, 4, 2, 0, 0) := ⟨by decide +kernel, zt_in_za_3 _ (List.mem_of_getElem? (i := 3) rfl), zt_in_za_3 _ (List.mem_of_getElem? (i := 4) rfl), rfl, by decide +kernel, by decide +kernel, by decide⟩
theorem zo_M89 : zt_okM (yX4_copy, cX4_copy, 5, none, 4, 4, 1, 21) := ⟨by decide +kernel, zt_in_za_3 _ (List.mem_of_getElem? (i := 5) rfl), zt_in_za_3 _ (List.mem_of_getElem? (i := 4) rfl), rfl, by decide +kernel, by decide +kernel, by decide⟩
theorem zo_M90 : zt_okM (yX4_init, cX4_init, 1, none, 4, 1, 1, 40) := ⟨by decide +kernel, zt_in_za_3 _ (List.mem_of_getElem? (i := 6) rfl), zt_in_za_3 _ (List.mem_of_getElem? (i := 4) rfl), rfl, by decide +kernel, by decide +kernel, by decide⟩
theorem zo_M91 : zt_okM (yX4_isZero, cX4_isZero, 4, (some .boolean), 4, 3, 0, 0) := ⟨by decide +kernel, zt_in_za_3 _ (List.mem_of_getElem? (i := 7) rfl), zt_in_za_3 _ (List.mem_of_getElem? (i := 4) rfl), rfl, by decide +kernel, by decide +kernel, by decide⟩
theorem zo_M92 : zt_okM (yX4_nextRun, cX4_nextRun, 4, (some .int), 4, 3, 0, 0) := ⟨by decide +kernel, zt_in_za_3 _ (List.mem_of_getElem? (i := 8) rfl), zt_in_za_3 _ (List.mem_of_getElem? (i := 4) rfl), rfl, by decide +kernel, by decide +kernel, by decide⟩
theorem zo_M93 : zt_okM (yX4_pack, cX4_pack, 9, none, 4, 4, 1, 23) := ⟨by decide +kernel, zt_in_za_3 _ (List.mem_of_getElem? (i := 9) rfl), zt_in_za_3 _ (List.mem_of_getElem? (i := 4) rfl), rfl, by decide +kernel, by decide +kernel, by decide⟩
theorem zo_M94 : zt_okM (yX4_runAt, cX4_runAt, 4, (some .int), 4, 3, 0, 0) := ⟨by decide +kernel, zt_in_za_3 _ (List.mem_of_getElem? (i := 10) rfl), zt_in_za_3 _ (List.mem_of_getElem? (i := 4) rfl), rfl, by decide +kernel, by decide +kernel, by decide⟩
theorem zo_M95 : zt_okM (yX4_store, cX4_store, 5, (some .int), 4, 5, 2, 51) := ⟨by decide +kernel, zt_in_za_3 _ (List.mem_of_getElem? (i := 11) rfl), zt_in_za_3 _ (List.mem_of_getElem? (i := 4) rfl), rfl, by decide +kernel, by decide +kernel, by decide⟩
theorem zo_M96 : zt_okM (yX5_addName, cX5_addName, 7, (some .int), 5, 4, 1, 22) := ⟨by decide +kernel, zt_in_za_3 _ (List.mem_of_getElem? (i := 12) rfl), zt_in_za_3 _ (List.mem_of_getElem? (i := 13) rfl), rfl, by decide +kernel, by decide +kernel, by decide⟩
theorem zo_M97 : zt_okM (yX5_addNode, cX5_addNode, 5, (some .int), 5, 4, 2, 48) := ⟨by decide +kernel, zt_in_za_3 _ (List.mem_of_getElem? (i := 14) rfl), zt_in_za_3 _ (List.mem_of_getElem? (i := 13) rfl), rfl, by decide +kernel, by decide +kernel, by decide⟩
theorem zo_M98 : zt_okM (yX5_append, cX5_append, 5, (some .int), 5, 4, 2, 46) := ⟨by decide +kernel, zt_in_za_3 _ (List.mem_of_getElem? (i := 15) rfl), zt_in_za_3 _ (List.mem_of_getElem? (i := 13) rfl), rfl, by decide +kernel, by decide +kernel, by decide⟩
theorem zo_M99 : zt_okM (yX5_firstFrom, cX5_firstFrom, 3, (some .int), 5, 2, 0, 0) := ⟨by decide +kernel, zt_in_za_3 _ (List.mem_of_getElem? (i := 16) rfl), zt_in_za_3 _ (List.mem_of_getElem? (i := 13) rfl), rfl, by decide +kernel, by decide +kernel, by decide⟩
theorem zo_M100 : zt_okM (yX5_firstNameOf, cX5_firstNameOf, 2, (some .int), 5, 2, 1, 22) := ⟨by decide +kernel, zt_in_za_3 _ (List.mem_of_getElem? (i := 17) rfl), zt_in_za_3 _ (List.mem_of_getElem? (i := 13) rfl), rfl, by decide +kernel, by decide +kernel, by decide⟩
theorem zo_M101 : zt_okM (yX5_hasNode, cX5_hasNode, 2, (some .boolean), 5, 2, 0, 0) := ⟨by decide +kernel, zt_in_za_3 _ (List.mem_of_getElem? (i := 18) rfl), zt_in_za_3 _ (List.mem_of_getElem? (i := 13) rfl), rfl, by decide +kernel, by decide +kernel, by decide⟩
theorem zo_M102 : zt_okM (yX5_haveSameBytes, cX5_haveSameBytes, 4, (some .boolean), 5, 3, 0, 0) := ⟨by decide +kernel, zt_in_za_3 _ (List.mem_of_getElem? (i := 19) rfl), zt_in_za_3 _ (List.mem_of_getElem? (i := 13) rfl), rfl, by decide +kernel, by decide +kernel, by decide⟩
theorem zo_M103 : zt_okM (yX5_init, cX5_init, 1, none, 5, 1, 2, 43) := ⟨by decide +kernel, zt_in_za_3 _ (List.mem_of_getElem? (i := 20) rfl), zt_in_za_3 _ (List.mem_of_getElem? (i := 13) rfl), rfl, by decide +kernel, by decide +kernel, by decide⟩
theorem zo_M104 : zt_okM (yX5_nameAt, cX5_nameAt, 2, (some .int), 5, 2, 0, 0) := ⟨by decide +kernel, zt_in_za_3 _ (List.mem_of_getElem? (i := 21) rfl), zt_in_za_3 _ (List.mem_of_getElem? (i := 13) rfl), rfl, by decide +kernel, by decide +kernel, by decide⟩
theorem zo_M105 : zt_okM (yX5_reset, cX5_reset, 1, none, 5, 1, 1, 23) := ⟨by decide +kernel, zt_in_za_3 _ (List.mem_of_getElem? (i := 22) rfl), zt_in_za_3 _ (List.mem_of_getElem? (i := 13) rfl), rfl, by decide +kernel, by decide +kernel, by decide⟩
theorem zo_M106 : zt_okM (yX5_startNode, cX5_startNode, 4, none, 5, 3, 0, 0) := ⟨by decide +kernel, zt_in_za_3 _ (List.mem_of_getElem? (i := 23) rfl), zt_in_za_3 _ (List.mem_of_getElem? (i := 13) rfl), rfl, by decide +kernel, by decide +kernel, by decide⟩
theorem zo_M107 : zt_okM (yX5_takesName, cX5_takesName, 5, (some .boolean), 5, 3, 1, 22) := ⟨by decide +kernel, zt_in_za_3 _ (List.mem_of_getElem? (i := 24) rfl), zt_in_za_3 _ (List.mem_of_getElem? (i := 13) rfl), rfl, by decide +kernel, by decide +kernel, by decide⟩
theorem zo_M108 : zt_okM (yX6_addBelow, cX6_addBelow, 4, (some .int), 6, 4, 3, 72) := ⟨by decide +kernel, zt_in_za_3 _ (List.mem_of_getElem? (i := 25) rfl), zt_in_za_3 _ (List.mem_of_getElem? (i := 26) rfl), rfl, by decide +kernel, by decide +kernel, by decide⟩
theorem zo_M109 : zt_okM (yX6_bare, cX6_bare, 1, (some .int), 6, 1, 1, 21) := ⟨by decide +kernel, zt_in_za_3 _ (List.mem_of_getElem? (i := 27) rfl), zt_in_za_3 _ (List.mem_of_getElem? (i := 26) rfl), rfl, by decide +kernel, by decide +kernel, by decide⟩
theorem zo_M110 : zt_okM (yX6_build, cX6_build, 2, (some .int), 6, 2, 6, 149) := ⟨by decide +kernel, zt_in_za_3 _ (List.mem_of_getElem? (i := 28) rfl), zt_in_za_3 _ (List.mem_of_getElem? (i := 26) rfl), rfl, by decide +kernel, by decide +kernel, by decide⟩
theorem zo_M111 : zt_okM (yX6_clear, cX6_clear, 2, (some .int), 6, 1, 2, 43) := ⟨by decide +kernel, zt_in_za_3 _ (List.mem_of_getElem? (i := 29) rfl), zt_in_za_3 _ (List.mem_of_getElem? (i := 26) rfl), rfl, by decide +kernel, by decide +kernel, by decide⟩
theorem zo_M112 : zt_okM (yX6_count, cX6_count, 2, (some .int), 6, 2, 0, 0) := ⟨by decide +kernel, zt_in_za_4 _ (List.mem_of_getElem? (i := 0) rfl), zt_in_za_3 _ (List.mem_of_getElem? (i := 26) rfl), rfl, by decide +kernel, by decide +kernel, by decide⟩
theorem zo_M113 : zt_okM (yX6_data, cX6_data, 4, (some .int), 6, 4, 3, 70) := ⟨by decide +kernel, zt_in_za_4 _ (List.mem_of_getElem? (i := 1) rfl), zt_in_za_3 _ (List.mem_of_getElem? (i := 26) rfl), rfl, by decide +kernel, by decide +kernel, by decide⟩
theorem zo_M114 : zt_okM (yX6_drop, cX6_drop, 1, (some .int), 6, 1, 1, 22) := ⟨by decide +kernel, zt_in_za_4 _ (List.mem_of_getElem? (i := 2) rfl), zt_in_za_3 _ (List.mem_of_getElem? (i := 26) rfl), rfl, by decide +kernel, by decide +kernel, by decide⟩
theorem zo_M115 : zt_okM (yX6_end, cX6_end, 2, (some .int), 6, 2, 0, 0) := ⟨by decide +kernel, zt_in_za_4 _ (List.mem_of_getElem? (i := 3) rfl), zt_in_za_3 _ (List.mem_of_getElem? (i := 26) rfl), rfl, by decide +kernel, by decide +kernel, by decide⟩
theorem zo_M116 : zt_okM (yX6_feed, cX6_feed, 6, (some .int), 6, 6, 3, 63) := ⟨by decide +kernel, zt_in_za_4 _ (List.mem_of_getElem? (i := 4) rfl), zt_in_za_3 _ (List.mem_of_getElem? (i := 26) rfl), rfl, by decide +kernel, by decide +kernel, by decide⟩
theorem zo_M117 : zt_okM (yX6_file, cX6_file, 3, (some .int), 6, 3, 4, 95) := ⟨by decide +kernel, zt_in_za_4 _ (List.mem_of_getElem? (i := 5) rfl), zt_in_za_3 _ (List.mem_of_getElem? (i := 26) rfl), rfl, by decide +kernel, by decide +kernel, by decide⟩
theorem zo_M118 : zt_okM (yX6_folder, cX6_folder, 3, (some .int), 6, 3, 4, 95) := ⟨by decide +kernel, zt_in_za_4 _ (List.mem_of_getElem? (i := 6) rfl), zt_in_za_3 _ (List.mem_of_getElem? (i := 26) rfl), rfl, by decide +kernel, by decide +kernel, by decide⟩
theorem zo_M119 : zt_okM (yX6_hasImage, cX6_hasImage, 2, (some .boolean), 6, 2, 0, 0) := ⟨by decide +kernel, zt_in_za_4 _ (List.mem_of_getElem? (i := 7) rfl), zt_in_za_3 _ (List.mem_of_getElem? (i := 26) rfl), rfl, by decide +kernel, by decide +kernel, by decide⟩
theorem zo_M120 : zt_okM (yX6_hide, cX6_hide, 3, (some .int), 6, 3, 4, 95) := ⟨by decide +kernel, zt_in_za_4 _ (List.mem_of_getElem? (i := 8) rfl), zt_in_za_3 _ (List.mem_of_getElem? (i := 26) rfl), rfl, by decide +kernel, by decide +kernel, by decide⟩
theorem zo_M121 : zt_okM (yX6_image, cX6_image, 4, (some .int), 6, 3, 1, 21) := ⟨by decide +kernel, zt_in_za_4 _ (List.mem_of_getElem? (i := 9) rfl), zt_in_za_3 _ (List.mem_of_getElem? (i := 26) rfl), rfl, by decide +kernel, by decide +kernel, by decide⟩
theorem zo_M122 : zt_okM (yX6_init, cX6_init, 2, none, 6, 1, 3, 83) := ⟨by decide +kernel, zt_in_za_4 _ (List.mem_of_getElem? (i := 10) rfl), zt_in_za_3 _ (List.mem_of_getElem? (i := 26) rfl), rfl, by decide +kernel, by decide +kernel, by decide⟩
theorem zo_M123 : zt_okM (yX6_isBlock, cX6_isBlock, 1, (some .boolean), 6, 1, 0, 0) := ⟨by decide +kernel, zt_in_za_4 _ (List.mem_of_getElem? (i := 11) rfl), zt_in_za_3 _ (List.mem_of_getElem? (i := 26) rfl), rfl, by decide +kernel, by decide +kernel, by decide⟩
theorem zo_M124 : zt_okM (yX6_isName, cX6_isName, 1, (some .boolean), 6, 1, 0, 0) := ⟨by decide +kernel, zt_in_za_4 _ (List.mem_of_getElem? (i := 12) rfl), zt_in_za_3 _ (List.mem_of_getElem? (i := 26) rfl), rfl, by decide +kernel, by decide +kernel, by decide⟩
theorem zo_M125 : zt_okM (yX6_isWord, cX6_isWord, 1, (some .boolean), 6, 1, 0, 0) := ⟨by decide +kernel, zt_in_za_4 _ (List.mem_of_getElem? (i := 13) rfl), zt_in_za_3 _ (List.mem_of_getElem? (i := 26) rfl), rfl, by decide +kernel, by decide +kernel, by decide⟩
theorem zo_M126 : zt_okM (yX6_link, cX6_link, 4, (some .int), 6, 4, 2, 48) := ⟨by decide +kernel, zt_in_za_4 _ (List.mem_of_getElem? (i := 14) rfl), zt_in_za_3 _ (List.mem_of_getElem? (i := 26) rfl), rfl, by decide +kernel, by decide +kernel, by decide⟩
theorem zo_M127 : zt_okM (yX6_list, cX6_list, 3, (some .int), 6, 3, 5, 116) := ⟨by decide +kernel, zt_in_za_4 _ (List.mem_of_getElem? (i := 15) rfl), zt_in_za_3 _ (List.mem_of_getElem? (i := 26) rfl), rfl, by decide +kernel, by decide +kernel, by decide⟩
theorem zo_M128 : zt_okM (yX6_load, cX6_load, 2, (some .int), 6, 1, 6, 140) := ⟨by decide +kernel, zt_in_za_4 _ (List.mem_of_getElem? (i := 16) rfl), zt_in_za_3 _ (List.mem_of_getElem? (i := 26) rfl), rfl, by decide +kernel, by decide +kernel, by decide⟩
theorem zo_M129 : zt_okM (yX6_look, cX6_look, 3, (some .int), 6, 3, 6, 141) := ⟨by decide +kernel, zt_in_za_4 _ (List.mem_of_getElem? (i := 17) rfl), zt_in_za_3 _ (List.mem_of_getElem? (i := 26) rfl), rfl, by decide +kernel, by decide +kernel, by decide⟩
theorem zo_M130 : zt_okM (yX6_node, cX6_node, 5, (some .int), 6, 4, 3, 65) := ⟨by decide +kernel, zt_in_za_4 _ (List.mem_of_getElem? (i := 18) rfl), zt_in_za_3 _ (List.mem_of_getElem? (i := 26) rfl), rfl, by decide +kernel, by decide +kernel, by decide⟩
theorem zo_M131 : zt_okM (yX6_out, cX6_out, 3, (some .int), 6, 3, 1, 21) := ⟨by decide +kernel, zt_in_za_4 _ (List.mem_of_getElem? (i := 19) rfl), zt_in_za_3 _ (List.mem_of_getElem? (i := 26) rfl), rfl, by decide +kernel, by decide +kernel, by decide⟩
theorem zo_M132 : zt_okM (yX6_over, cX6_over, 2, (some .int), 6, 2, 3, 65) := ⟨by decide +kernel, zt_in_za_4 _ (List.mem_of_getElem? (i := 20) rfl), zt_in_za_3 _ (List.mem_of_getElem? (i := 26) rfl), rfl, by decide +kernel, by decide +kernel, by decide⟩
theorem zo_M133 : zt_okM (yX6_owner, cX6_owner, 4, (some .int), 6, 4, 1, 21) := ⟨by decide +kernel, zt_in_za_4 _ (List.mem_of_getElem? (i := 21) rfl), zt_in_za_3 _ (List.mem_of_getElem? (i := 26) rfl), rfl, by decide +kernel, by decide +kernel, by decide⟩
theorem zo_M134 : zt_okM (yX6_read, cX6_read, 3, (some .int), 6, 3, 6, 137) := ⟨by decide +kernel, zt_in_za_4 _ (List.mem_of_getElem? (i := 22) rfl), zt_in_za_3 _ (List.mem_of_getElem? (i := 26) rfl), rfl, by decide +kernel, by decide +kernel, by decide⟩
theorem zo_M135 : zt_okM (yX6_same, cX6_same, 3, (some .int), 6, 3, 1, 22) := ⟨by decide +kernel, zt_in_za_4 _ (List.mem_of_getElem? (i := 23) rfl), zt_in_za_3 _ (List.mem_of_getElem? (i := 26) rfl), rfl, by decide +kernel, by decide +kernel, by decide⟩
theorem zo_M136 : zt_okM (yX6_view, cX6_view, 3, (some .int), 6, 3, 6, 137) := ⟨by decide +kernel, zt_in_za_4 _ (List.mem_of_getElem? (i := 24) rfl), zt_in_za_3 _ (List.mem_of_getElem? (i := 26) rfl), rfl, by decide +kernel, by decide +kernel, by decide⟩
theorem zo_M137 : zt_okM (yX7_alike, cX7_alike, 4, (some .int), 7, 3, 0, 0) := ⟨by decide +kernel, zt_in_za_4 _ (List.mem_of_getElem? (i := 25) rfl), zt_in_za_4 _ (List.mem_of_getElem? (i := 26) rfl), rfl, by decide +kernel, by decide +kernel, by decide⟩
theorem zo_M138 : zt_okM (yX7_areFolders, cX7_areFolders, 9, (some .boolean), 7, 3, 4, 88) := ⟨by decide +kernel, zt_in_za_4 _ (List.mem_of_getElem? (i := 27) rfl), zt_in_za_4 _ (List.mem_of_getElem? (i := 26) rfl), rfl, by decide +kernel, by decide +kernel, by decide⟩
theorem zo_M139 : zt_okM (yX7_areInodes, cX7_areInodes, 10, (some .boolean), 7, 4, 4, 104) := ⟨by decide +kernel, zt_in_za_4 _ (List.mem_of_getElem? (i := 28) rfl), zt_in_za_4 _ (List.mem_of_getElem? (i := 26) rfl), rfl, by decide +kernel, by decide +kernel, by decide⟩
theorem zo_M140 : zt_okM (yX7_areTails, cX7_areTails, 8, (some .boolean), 7, 3, 3, 72) := ⟨by decide +kernel, zt_in_za_4 _ (List.mem_of_getElem? (i := 29) rfl), zt_in_za_4 _ (List.mem_of_getElem? (i := 26) rfl), rfl, by decide +kernel, by decide +kernel, by decide⟩
theorem zo_M141 : zt_okM (yX7_bare, cX7_bare, 2, (some .int), 7, 1, 1, 21) := ⟨by decide +kernel, zt_in_za_5 _ (List.mem_of_getElem? (i := 0) rfl), zt_in_za_4 _ (List.mem_of_getElem? (i := 26) rfl), rfl, by decide +kernel, by decide +kernel, by decide⟩
theorem zo_M142 : zt_okM (yX7_build, cX7_build, 7, (some .int), 7, 2, 4, 98) := ⟨by decide +kernel, zt_in_za_5 _ (List.mem_of_getElem? (i := 1) rfl), zt_in_za_4 _ (List.mem_of_getElem? (i := 26) rfl), rfl, by decide +kernel, by decide +kernel, by decide⟩
theorem zo_M143 : zt_okM (yX7_byteAt, cX7_byteAt, 3, (some .int), 7, 3, 0, 0) := ⟨by decide +kernel, zt_in_za_5 _ (List.mem_of_getElem? (i := 2) rfl), zt_in_za_4 _ (List.mem_of_getElem? (i := 26) rfl), rfl, by decide +kernel, by decide +kernel, by decide⟩
theorem zo_M144 : zt_okM (yX7_canBe, cX7_canBe, 9, (some .boolean), 7, 5, 2, 44) := ⟨by decide +kernel, zt_in_za_5 _ (List.mem_of_getElem? (i := 3) rfl), zt_in_za_4 _ (List.mem_of_getElem? (i := 26) rfl), rfl, by decide +kernel, by decide +kernel, by decide⟩
theorem zo_M145 : zt_okM (yX7_child, cX7_child, 6, (some .int), 7, 4, 4, 88) := ⟨by decide +kernel, zt_in_za_5 _ (List.mem_of_getElem? (i := 4) rfl), zt_in_za_4 _ (List.mem_of_getElem? (i := 26) rfl), rfl, by decide +kernel, by decide +kernel, by decide⟩
theorem zo_M146 : zt_okM (yX7_clear, cX7_clear, 2, (some .int), 7, 1, 0, 0) := ⟨by decide +kernel, zt_in_za_5 _ (List.mem_of_getElem? (i := 5) rfl), zt_in_za_4 _ (List.mem_of_getElem? (i := 26) rfl), rfl, by decide +kernel, by decide +kernel, by decide⟩
theorem zo_M147 : zt_okM (yX7_comes, cX7_comes, 4, (some .int), 7, 4, 2, 43) := ⟨by decide +kernel, zt_in_za_5 _ (List.mem_of_getElem? (i := 6) rfl), zt_in_za_4 _ (List.mem_of_getElem? (i := 26) rfl), rfl, by decide +kernel, by decide +kernel, by decide⟩
theorem zo_M148 : zt_okM (yX7_count, cX7_count, 2, (some .int), 7, 2, 0, 0) := ⟨by decide +kernel, zt_in_za_5 _ (List.mem_of_getElem? (i := 7) rfl), zt_in_za_4 _ (List.mem_of_getElem? (i := 26) rfl), rfl, by decide +kernel, by decide +kernel, by decide⟩
theorem zo_M149 : zt_okM (yX7_data, cX7_data, 5, (some .int), 7, 4, 2, 43) := ⟨by decide +kernel, zt_in_za_5 _ (List.mem_of_getElem? (i := 8) rfl), zt_in_za_4 _ (List.mem_of_getElem? (i := 26) rfl), rfl, by decide +kernel, by decide +kernel, by decide⟩
theorem zo_M150 : zt_okM (yX7_drop, cX7_drop, 1, (some .int), 7, 1, 1, 23) := ⟨by decide +kernel, zt_in_za_5 _ (List.mem_of_getElem? (i := 9) rfl), zt_in_za_4 _ (List.mem_of_getElem? (i := 26) rfl), rfl, by decide +kernel, by decide +kernel, by decide⟩
theorem zo_M151 : zt_okM (yX7_end, cX7_end, 2, (some .int), 7, 2, 1, 22) := ⟨by decide +kernel, zt_in_za_5 _ (List.mem_of_getElem? (i := 10) rfl), zt_in_za_4 _ (List.mem_of_getElem? (i := 26) rfl), rfl, by decide +kernel, by decide +kernel, by decide⟩
theorem zo_M152 : zt_okM (yX7_feed, cX7_feed, 8, (some .int), 7, 6, 0, 0) := ⟨by decide +kernel, zt_in_za_5 _ (List.mem_of_getElem? (i := 11) rfl), zt_in_za_4 _ (List.mem_of_getElem? (i := 26) rfl), rfl, by decide +kernel, by decide +kernel, by decide⟩
theorem zo_M153 : zt_okM (yX7_file, cX7_file, 3, (some .int), 7, 3, 3, 66) := ⟨by decide +kernel, zt_in_za_5 _ (List.mem_of_getElem? (i := 12) rfl), zt_in_za_4 _ (List.mem_of_getElem? (i := 26) rfl), rfl, by decide +kernel, by decide +kernel, by decide⟩
theorem zo_M154 : zt_okM (yX7_first, cX7_first, 2, none, 7, 1, 0, 0) := ⟨by decide +kernel, zt_in_za_5 _ (List.mem_of_getElem? (i := 13) rfl), zt_in_za_4 _ (List.mem_of_getElem? (i := 26) rfl), rfl, by decide +kernel, by decide +kernel, by decide⟩
theorem zo_M155 : zt_okM (yX7_firstLike, cX7_firstLike, 4, (some .int), 7, 2, 1, 24) := ⟨by decide +kernel, zt_in_za_5 _ (List.mem_of_getElem? (i := 14) rfl), zt_in_za_4 _ (List.mem_of_getElem? (i := 26) rfl), rfl, by decide +kernel, by decide +kernel, by decide⟩
theorem zo_M156 : zt_okM (yX7_firstOf, cX7_firstOf, 3, (some .int), 7, 3, 3, 66) := ⟨by decide +kernel, zt_in_za_5 _ (List.mem_of_getElem? (i := 15) rfl), zt_in_za_4 _ (List.mem_of_getElem? (i := 26) rfl), rfl, by decide +kernel, by decide +kernel, by decide⟩
theorem zo_M157 : zt_okM (yX7_folder, cX7_folder, 3, (some .int), 7, 3, 3, 66) := ⟨by decide +kernel, zt_in_za_5 _ (List.mem_of_getElem? (i := 16) rfl), zt_in_za_4 _ (List.mem_of_getElem? (i := 26) rfl), rfl, by decide +kernel, by decide +kernel, by decide⟩
theorem zo_M158 : zt_okM (yX7_hide, cX7_hide, 3, (some .int), 7, 3, 3, 66) := ⟨by decide +kernel, zt_in_za_5 _ (List.mem_of_getElem? (i := 17) rfl), zt_in_za_4 _ (List.mem_of_getElem? (i := 26) rfl), rfl, by decide +kernel, by decide +kernel, by decide⟩
theorem zo_M159 : zt_okM (yX7_image, cX7_image, 3, (some .int), 7, 3, 3, 65) := ⟨by decide +kernel, zt_in_za_5 _ (List.mem_of_getElem? (i := 18) rfl), zt_in_za_4 _ (List.mem_of_getElem? (i := 26) rfl), rfl, by decide +kernel, by decide +kernel, by decide⟩
theorem zo_M160 : zt_okM (yX7_in, cX7_in, 3, (some .boolean), 7, 3, 0, 0) := ⟨by decide +kernel, zt_in_za_5 _ (List.mem_of_getElem? (i := 19) rfl), zt_in_za_4 _ (List.mem_of_getElem? (i := 26) rfl), rfl, by decide +kernel, by decide +kernel, by decide⟩
theorem zo_M161 : zt_okM (yX7_init, cX7_init, 1, none, 7, 1, 1, 40) := ⟨by decide +kernel, zt_in_za_5 _ (List.mem_of_getElem? (i := 20) rfl), zt_in_za_4 _ (List.mem_of_getElem? (i := 26) rfl), rfl, by decide +kernel, by decide +kernel, by decide⟩
theorem zo_M162 : zt_okM (yX7_inode, cX7_inode, 3, (some .int), 7, 3, 2, 44) := ⟨by decide +kernel, zt_in_za_5 _ (List.mem_of_getElem? (i := 21) rfl), zt_in_za_4 _ (List.mem_of_getElem? (i := 26) rfl), rfl, by decide +kernel, by decide +kernel, by decide⟩
theorem zo_M163 : zt_okM (yX7_isFile, cX7_isFile, 13, (some .boolean), 7, 4, 3, 72) := ⟨by decide +kernel, zt_in_za_5 _ (List.mem_of_getElem? (i := 22) rfl), zt_in_za_4 _ (List.mem_of_getElem? (i := 26) rfl), rfl, by decide +kernel, by decide +kernel, by decide⟩
theorem zo_M164 : zt_okM (yX7_isFolder, cX7_isFolder, 3, (some .boolean), 7, 3, 3, 66) := ⟨by decide +kernel, zt_in_za_5 _ (List.mem_of_getElem? (i := 23) rfl), zt_in_za_4 _ (List.mem_of_getElem? (i := 26) rfl), rfl, by decide +kernel, by decide +kernel, by decide⟩
theorem zo_M165 : zt_okM (yX7_isImage, cX7_isImage, 2, (some .boolean), 7, 2, 1, 22) := ⟨by decide +kernel, zt_in_za_5 _ (List.mem_of_getElem? (i := 24) rfl), zt_in_za_4 _ (List.mem_of_getElem? (i := 26) rfl), rfl, by decide +kernel, by decide +kernel, by decide⟩
theorem zo_M166 : zt_okM (yX7_isLaid, cX7_isLaid, 4, (some .boolean), 7, 2, 0, 0) := ⟨by decide +kernel, zt_in_za_5 _ (List.mem_of_getElem? (i := 25) rfl), zt_in_za_4 _ (List.mem_of_getElem? (i := 26) rfl), rfl, by decide +kernel, by decide +kernel, by decide⟩
theorem zo_M167 : zt_okM (yX7_isNode, cX7_isNode, 2, (some .boolean), 7, 2, 1, 22) := ⟨by decide +kernel, zt_in_za_5 _ (List.mem_of_getElem? (i := 26) rfl), zt_in_za_4 _ (List.mem_of_getElem? (i := 26) rfl), rfl, by decide +kernel, by decide +kernel, by decide⟩
theorem zo_M168 : zt_okM (yX7_isSameFile, cX7_isSameFile, 5, (some .boolean), 7, 3, 0, 0) := ⟨by decide +kernel, zt_in_za_5 _ (List.mem_of_getElem? (i := 27) rfl), zt_in_za_4 _ (List.mem_of_getElem? (i := 26) rfl), rfl, by decide +kernel, by decide +kernel, by decide⟩
theorem zo_M169 : zt_okM (yX7_isThere, cX7_isThere, 5, (some .boolean), 7, 3, 0, 0) := ⟨by decide +kernel, zt_in_za_5 _ (List.mem_of_getElem? (i := 28) rfl), zt_in_za_4 _ (List.mem_of_getElem? (i := 26) rfl), rfl, by decide +kernel, by decide +kernel, by decide⟩
theorem zo_M170 : zt_okM (yX7_isTree, cX7_isTree, 7, (some .boolean), 7, 3, 5, 116) := ⟨by decide +kernel, zt_in_za_5 _ (List.mem_of_getElem? (i := 29) rfl), zt_in_za_4 _ (List.mem_of_getElem? (i := 26) rfl), rfl, by decide +kernel, by decide +kernel, by decide⟩
theorem zo_M171 : zt_okM (yX7_isView, cX7_isView, 2, (some .boolean), 7, 2, 1, 22) := ⟨by decide +kernel, zt_in_za_6 _ (List.mem_of_getElem? (i := 0) rfl), zt_in_za_4 _ (List.mem_of_getElem? (i := 26) rfl), rfl, by decide +kernel, by decide +kernel, by decide⟩
theorem zo_M172 : zt_okM (yX7_judge, cX7_judge, 5, (some .int), 7, 2, 6, 142) := ⟨by decide +kernel, zt_in_za_6 _ (List.mem_of_getElem? (i := 1) rfl), zt_in_za_4 _ (List.mem_of_getElem? (i := 26) rfl), rfl, by decide +kernel, by decide +kernel, by decide⟩
theorem zo_M173 : zt_okM (yX7_kindOf, cX7_kindOf, 2, (some .int), 7, 2, 4, 91) := ⟨by decide +kernel, zt_in_za_6 _ (List.mem_of_getElem? (i := 2) rfl), zt_in_za_4 _ (List.mem_of_getElem? (i := 26) rfl), rfl, by decide +kernel, by decide +kernel, by decide⟩
theorem zo_M174 : zt_okM (yX7_leads, cX7_leads, 9, (some .int), 7, 3, 5, 113) := ⟨by decide +kernel, zt_in_za_6 _ (List.mem_of_getElem? (i := 3) rfl), zt_in_za_4 _ (List.mem_of_getElem? (i := 26) rfl), rfl, by decide +kernel, by decide +kernel, by decide⟩
theorem zo_M175 : zt_okM (yX7_lies, cX7_lies, 1, (some .int), 7, 1, 0, 0) := ⟨by decide +kernel, zt_in_za_6 _ (List.mem_of_getElem? (i := 4) rfl), zt_in_za_4 _ (List.mem_of_getElem? (i := 26) rfl), rfl, by decide +kernel, by decide +kernel, by decide⟩
theorem zo_M176 : zt_okM (yX7_link, cX7_link, 4, (some .int), 7, 4, 2, 43) := ⟨by decide +kernel, zt_in_za_6 _ (List.mem_of_getElem? (i := 5) rfl), zt_in_za_4 _ (List.mem_of_getElem? (i := 26) rfl), rfl, by decide +kernel, by decide +kernel, by decide⟩
theorem zo_M177 : zt_okM (yX7_list, cX7_list, 5, (some .int), 7, 3, 7, 164) := ⟨by decide +kernel, zt_in_za_6 _ (List.mem_of_getElem? (i := 6) rfl), zt_in_za_4 _ (List.mem_of_getElem? (i := 26) rfl), rfl, by decide +kernel, by decide +kernel, by decide⟩
theorem zo_M178 : zt_okM (yX7_load, cX7_load, 2, (some .int), 7, 1, 7, 166) := ⟨by decide +kernel, zt_in_za_6 _ (List.mem_of_getElem? (i := 7) rfl), zt_in_za_4 _ (List.mem_of_getElem? (i := 26) rfl), rfl, by decide +kernel, by decide +kernel, by decide⟩
theorem zo_M179 : zt_okM (yX7_look, cX7_look, 7, (some .int), 7, 3, 6, 141) := ⟨by decide +kernel, zt_in_za_6 _ (List.mem_of_getElem? (i := 8) rfl), zt_in_za_4 _ (List.mem_of_getElem? (i := 26) rfl), rfl, by decide +kernel, by decide +kernel, by decide⟩
theorem zo_M180 : zt_okM (yX7_manyOf, cX7_manyOf, 3, (some .int), 7, 3, 3, 66) := ⟨by decide +kernel, zt_in_za_6 _ (List.mem_of_getElem? (i := 9) rfl), zt_in_za_4 _ (List.mem_of_getElem? (i := 26) rfl), rfl, by decide +kernel, by decide +kernel, by decide⟩
theorem zo_M181 : zt_okM (yX7_nameAt, cX7_nameAt, 3, (some .int), 7, 3, 2, 44) := ⟨by decide +kernel, zt_in_za_6 _ (List.mem_of_getElem? (i := 10) rfl), zt_in_za_4 _ (List.mem_of_getElem? (i := 26) rfl), rfl, by decide +kernel, by decide +kernel, by decide⟩
theorem zo_M182 : zt_okM (yX7_nameIt, cX7_nameIt, 4, none, 7, 4, 0, 0) := ⟨by decide +kernel, zt_in_za_6 _ (List.mem_of_getElem? (i := 11) rfl), zt_in_za_4 _ (List.mem_of_getElem? (i := 26) rfl), rfl, by decide +kernel, by decide +kernel, by decide⟩
theorem zo_M183 : zt_okM (yX7_named, cX7_named, 9, (some .int), 7, 5, 4, 88) := ⟨by decide +kernel, zt_in_za_6 _ (List.mem_of_getElem? (i := 12) rfl), zt_in_za_4 _ (List.mem_of_getElem? (i := 26) rfl), rfl, by decide +kernel, by decide +kernel, by decide⟩
theorem zo_M184 : zt_okM (yX7_namesIn, cX7_namesIn, 4, (some .int), 7, 2, 7, 164) := ⟨by decide +kernel, zt_in_za_6 _ (List.mem_of_getElem? (i := 13) rfl), zt_in_za_4 _ (List.mem_of_getElem? (i := 26) rfl), rfl, by decide +kernel, by decide +kernel, by decide⟩
theorem zo_M185 : zt_okM (yX7_namesOf, cX7_namesOf, 4, (some .int), 7, 2, 0, 0) := ⟨by decide +kernel, zt_in_za_6 _ (List.mem_of_getElem? (i := 14) rfl), zt_in_za_4 _ (List.mem_of_getElem? (i := 26) rfl), rfl, by decide +kernel, by decide +kernel, by decide⟩
theorem zo_M186 : zt_okM (yX7_nextIn, cX7_nextIn, 4, (some .int), 7, 3, 6, 141) := ⟨by decide +kernel, zt_in_za_6 _ (List.mem_of_getElem? (i := 15) rfl), zt_in_za_4 _ (List.mem_of_getElem? (i := 26) rfl), rfl, by decide +kernel, by decide +kernel, by decide⟩
theorem zo_M187 : zt_okM (yX7_nextName, cX7_nextName, 5, (some .int), 7, 3, 0, 0) := ⟨by decide +kernel, zt_in_za_6 _ (List.mem_of_getElem? (i := 16) rfl), zt_in_za_4 _ (List.mem_of_getElem? (i := 26) rfl), rfl, by decide +kernel, by decide +kernel, by decide⟩
theorem zo_M188 : zt_okM (yX7_node, cX7_node, 4, (some .int), 7, 4, 4, 91) := ⟨by decide +kernel, zt_in_za_6 _ (List.mem_of_getElem? (i := 17) rfl), zt_in_za_4 _ (List.mem_of_getElem? (i := 26) rfl), rfl, by decide +kernel, by decide +kernel, by decide⟩
theorem zo_M189 : zt_okM (yX7_number, cX7_number, 5, none, 7, 1, 1, 24) := ⟨by decide +kernel, zt_in_za_6 _ (List.mem_of_getElem? (i := 18) rfl), zt_in_za_4 _ (List.mem_of_getElem? (i := 26) rfl), rfl, by decide +kernel, by decide +kernel, by decide⟩
theorem zo_M190 : zt_okM (yX7_numberAt, cX7_numberAt, 3, (some .int), 7, 3, 2, 44) := ⟨by decide +kernel, zt_in_za_6 _ (List.mem_of_getElem? (i := 19) rfl), zt_in_za_4 _ (List.mem_of_getElem? (i := 26) rfl), rfl, by decide +kernel, by decide +kernel, by decide⟩
theorem zo_M191 : zt_okM (yX7_numbersIn, cX7_numbersIn, 2, (some .int), 7, 2, 2, 44) := ⟨by decide +kernel, zt_in_za_6 _ (List.mem_of_getElem? (i := 20) rfl), zt_in_za_4 _ (List.mem_of_getElem? (i := 26) rfl), rfl, by decide +kernel, by decide +kernel, by decide⟩
theorem zo_M192 : zt_okM (yX7_opened, cX7_opened, 8, (some .int), 7, 5, 1, 22) := ⟨by decide +kernel, zt_in_za_6 _ (List.mem_of_getElem? (i := 21) rfl), zt_in_za_4 _ (List.mem_of_getElem? (i := 26) rfl), rfl, by decide +kernel, by decide +kernel, by decide⟩
theorem zo_M193 : zt_okM (yX7_out, cX7_out, 3, (some .int), 7, 3, 2, 43) := ⟨by decide +kernel, zt_in_za_6 _ (List.mem_of_getElem? (i := 22) rfl), zt_in_za_4 _ (List.mem_of_getElem? (i := 26) rfl), rfl, by decide +kernel, by decide +kernel, by decide⟩
theorem zo_M194 : zt_okM (yX7_over, cX7_over, 2, (some .int), 7, 2, 2, 43) := ⟨by decide +kernel, zt_in_za_6 _ (List.mem_of_getElem? (i := 23) rfl), zt_in_za_4 _ (List.mem_of_getElem? (i := 26) rfl), rfl, by decide +kernel, by decide +kernel, by decide⟩
theorem zo_M195 : zt_okM (yX7_owner, cX7_owner, 4, (some .int), 7, 4, 2, 43) := ⟨by decide +kernel, zt_in_za_6 _ (List.mem_of_getElem? (i := 24) rfl), zt_in_za_4 _ (List.mem_of_getElem? (i := 26) rfl), rfl, by decide +kernel, by decide +kernel, by decide⟩
theorem zo_M196 : zt_okM (yX7_pack, cX7_pack, 6, none, 7, 2, 1, 23) := ⟨by decide +kernel, zt_in_za_6 _ (List.mem_of_getElem? (i := 25) rfl), zt_in_za_4 _ (List.mem_of_getElem? (i := 26) rfl), rfl, by decide +kernel, by decide +kernel, by decide⟩
theorem zo_M197 : zt_okM (yX7_putWord, cX7_putWord, 3, none, 7, 3, 0, 0) := ⟨by decide +kernel, zt_in_za_6 _ (List.mem_of_getElem? (i := 26) rfl), zt_in_za_4 _ (List.mem_of_getElem? (i := 26) rfl), rfl, by decide +kernel, by decide +kernel, by decide⟩
theorem zo_M198 : zt_okM (yX7_read, cX7_read, 10, (some .int), 7, 3, 5, 112) := ⟨by decide +kernel, zt_in_za_6 _ (List.mem_of_getElem? (i := 27) rfl), zt_in_za_4 _ (List.mem_of_getElem? (i := 26) rfl), rfl, by decide +kernel, by decide +kernel, by decide⟩
theorem zo_M199 : zt_okM (yX7_same, cX7_same, 5, (some .int), 7, 3, 2, 43) := ⟨by decide +kernel, zt_in_za_6 _ (List.mem_of_getElem? (i := 28) rfl), zt_in_za_4 _ (List.mem_of_getElem? (i := 26) rfl), rfl, by decide +kernel, by decide +kernel, by decide⟩
theorem zo_M200 : zt_okM (yX7_store, cX7_store, 4, (some .int), 7, 2, 2, 48) := ⟨by decide +kernel, zt_in_za_6 _ (List.mem_of_getElem? (i := 29) rfl), zt_in_za_4 _ (List.mem_of_getElem? (i := 26) rfl), rfl, by decide +kernel, by decide +kernel, by decide⟩
theorem zo_M201 : zt_okM (yX7_sumOf, cX7_sumOf, 5, (some .int), 7, 2, 0, 0) := ⟨by decide +kernel, zt_in_za_7 _ (List.mem_of_getElem? (i := 0) rfl), zt_in_za_4 _ (List.mem_of_getElem? (i := 26) rfl), rfl, by decide +kernel, by decide +kernel, by decide⟩
theorem zo_M202 : zt_okM (yX7_tailsIn, cX7_tailsIn, 2, (some .int), 7, 2, 2, 44) := ⟨by decide +kernel, zt_in_za_7 _ (List.mem_of_getElem? (i := 1) rfl), zt_in_za_4 _ (List.mem_of_getElem? (i := 26) rfl), rfl, by decide +kernel, by decide +kernel, by decide⟩
theorem zo_M203 : zt_okM (yX7_tell, cX7_tell, 2, none, 7, 2, 0, 0) := ⟨by decide +kernel, zt_in_za_7 _ (List.mem_of_getElem? (i := 2) rfl), zt_in_za_4 _ (List.mem_of_getElem? (i := 26) rfl), rfl, by decide +kernel, by decide +kernel, by decide⟩
theorem zo_M204 : zt_okM (yX7_tellFile, cX7_tellFile, 8, none, 7, 3, 3, 71) := ⟨by decide +kernel, zt_in_za_7 _ (List.mem_of_getElem? (i := 3) rfl), zt_in_za_4 _ (List.mem_of_getElem? (i := 26) rfl), rfl, by decide +kernel, by decide +kernel, by decide⟩
theorem zo_M205 : zt_okM (yX7_tellInodes, cX7_tellInodes, 9, none, 7, 2, 2, 42) := ⟨by decide +kernel, zt_in_za_7 _ (List.mem_of_getElem? (i := 4) rfl), zt_in_za_4 _ (List.mem_of_getElem? (i := 26) rfl), rfl, by decide +kernel, by decide +kernel, by decide⟩
theorem zo_M206 : zt_okM (yX7_tellWord, cX7_tellWord, 2, none, 7, 2, 1, 21) := ⟨by decide +kernel, zt_in_za_7 _ (List.mem_of_getElem? (i := 5) rfl), zt_in_za_4 _ (List.mem_of_getElem? (i := 26) rfl), rfl, by decide +kernel, by decide +kernel, by decide⟩
theorem zo_M207 : zt_okM (yX7_thrown, cX7_thrown, 1, (some .int), 7, 1, 0, 0) := ⟨by decide +kernel, zt_in_za_7 _ (List.mem_of_getElem? (i := 6) rfl), zt_in_za_4 _ (List.mem_of_getElem? (i := 26) rfl), rfl, by decide +kernel, by decide +kernel, by decide⟩
theorem zo_M208 : zt_okM (yX7_told, cX7_told, 6, (some .int), 7, 4, 3, 66) := ⟨by decide +kernel, zt_in_za_7 _ (List.mem_of_getElem? (i := 7) rfl), zt_in_za_4 _ (List.mem_of_getElem? (i := 26) rfl), rfl, by decide +kernel, by decide +kernel, by decide⟩
theorem zo_M209 : zt_okM (yX7_view, cX7_view, 5, (some .int), 7, 3, 8, 187) := ⟨by decide +kernel, zt_in_za_7 _ (List.mem_of_getElem? (i := 8) rfl), zt_in_za_4 _ (List.mem_of_getElem? (i := 26) rfl), rfl, by decide +kernel, by decide +kernel, by decide⟩
theorem zo_M210 : zt_okM (yX7_word, cX7_word, 3, (some .int), 7, 3, 1, 22) := ⟨by decide +kernel, zt_in_za_7 _ (List.mem_of_getElem? (i := 9) rfl), zt_in_za_4 _ (List.mem_of_getElem? (i := 26) rfl), rfl, by decide +kernel, by decide +kernel, by decide⟩
theorem zo_C0_3 : zt_okC (0, 3, 3, 0) := ⟨fun h => absurd h (by decide), fun h => absurd h (by decide), fun h => absurd h (by decide), fun _ => zt_in_za_7 _ (List.mem_of_getElem? (i := 10) rfl), fun h => absurd h (by decide), fun h => absurd h (by decide)⟩
theorem zo_C0_11 : zt_okC (0, 11, 2, 90) := ⟨fun h => absurd h (by decide), fun h => absurd h (by decide), fun _ => ⟨_, zM_X4_init, zo_M90, Or.inr (List.mem_of_getElem? (i := 0) rfl), zt_in_za_7 _ (List.mem_of_getElem? (i := 11) rfl), rfl, rfl, by decide +kernel⟩, fun h => absurd h (by decide), fun h => absurd h (by decide), fun h => absurd h (by decide)⟩
theorem zo_C0_55 : zt_okC (0, 55, 0, 6) := ⟨fun _ => ⟨_, zM_X0_giveNumbers, zo_M6, zt_in_za_7 _ (List.mem_of_getElem? (i := 12) rfl), zt_in_za_7 _ (List.mem_of_getElem? (i := 13) rfl), zt_in_za_7 _ (List.mem_of_getElem? (i := 14) rfl), by decide +kernel, _, rfl, rfl⟩, fun h => absurd h (by decide), fun h => absurd h (by decide), fun h => absurd h (by decide), fun h => absurd h (by decide), fun h => absurd h (by decide)⟩
theorem zo_C0_59 : zt_okC (0, 59, 0, 15) := ⟨fun _ => ⟨_, zM_X0_putHead, zo_M15, zt_in_za_7 _ (List.mem_of_getElem? (i := 15) rfl), zt_in_za_7 _ (List.mem_of_getElem? (i := 16) rfl), zt_in_za_7 _ (List.mem_of_getElem? (i := 17) rfl), by decide +kernel, _, rfl, rfl⟩, fun h => absurd h (by decide), fun h => absurd h (by decide), fun h => absurd h (by decide), fun h => absurd h (by decide), fun h => absurd h (by decide)⟩
theorem zo_C0_63 : zt_okC (0, 63, 0, 10) := ⟨fun _ => ⟨_, zM_X0_putBlocks, zo_M10, zt_in_za_7 _ (List.mem_of_getElem? (i := 18) rfl), zt_in_za_7 _ (List.mem_of_getElem? (i := 19) rfl), zt_in_za_7 _ (List.mem_of_getElem? (i := 20) rfl), by decide +kernel, _, rfl, rfl⟩, fun h => absurd h (by decide), fun h => absurd h (by decide), fun h => absurd h (by decide), fun h => absurd h (by decide), fun h => absurd h (by decide)⟩
theorem zo_C0_67 : zt_okC (0, 67, 0, 17) := ⟨fun _ => ⟨_, zM_X0_putTailBlocks, zo_M17, zt_in_za_7 _ (List.mem_of_getElem? (i := 21) rfl), zt_in_za_7 _ (List.mem_of_getElem? (i := 22) rfl), zt_in_za_7 _ (List.mem_of_getElem? (i := 23) rfl), by decide +kernel, _, rfl, rfl⟩, fun h => absurd h (by decide), fun h => absurd h (by decide), fun h => absurd h (by decide), fun h => absurd h (by decide), fun h => absurd h (by decide)⟩
theorem zo_C0_76 : zt_okC (0, 76, 0, 43) := ⟨fun _ => ⟨_, zM_X1_setWord, zo_M43, zt_in_za_7 _ (List.mem_of_getElem? (i := 24) rfl), zt_in_za_7 _ (List.mem_of_getElem? (i := 25) rfl), zt_in_za_7 _ (List.mem_of_getElem? (i := 26) rfl), by decide +kernel, _, rfl, rfl⟩, fun h => absurd h (by decide), fun h => absurd h (by decide), fun h => absurd h (by decide), fun h => absurd h (by decide), fun h => absurd h (by decide)⟩
theorem zo_C0_80 : zt_okC (0, 80, 0, 16) := ⟨fun _ => ⟨_, zM_X0_putInodes, zo_M16, zt_in_za_7 _ (List.mem_of_getElem? (i := 27) rfl), zt_in_za_7 _ (List.mem_of_getElem? (i := 28) rfl), zt_in_za_7 _ (List.mem_of_getElem? (i := 29) rfl), by decide +kernel, _, rfl, rfl⟩, fun h => absurd h (by decide), fun h => absurd h (by decide), fun h => absurd h (by decide), fun h => absurd h (by decide), fun h => absurd h (by decide)⟩
theorem zo_C0_83 : zt_okC (0, 83, 0, 14) := ⟨fun _ => ⟨_, zM_X0_putFolders, zo_M14, zt_in_za_8 _ (List.mem_of_getElem? (i := 0) rfl), zt_in_za_8 _ (List.mem_of_getElem? (i := 1) rfl), zt_in_za_8 _ (List.mem_of_getElem? (i := 2) rfl), by decide +kernel, _, rfl, rfl⟩, fun h => absurd h (by decide), fun h => absurd h (by decide), fun h => absurd h (by decide), fun h => absurd h (by decide), fun h => absurd h (by decide)⟩
theorem zo_C0_87 : zt_okC (0, 87, 0, 18) := ⟨fun _ => ⟨_, zM_X0_putTails, zo_M18, zt_in_za_8 _ (List.mem_of_getElem? (i := 3) rfl), zt_in_za_8 _ (List.mem_of_getElem? (i := 4) rfl), zt_in_za_8 _ (List.mem_of_getElem? (i := 5) rfl), by decide +kernel, _, rfl, rfl⟩, fun h => absurd h (by decide), fun h => absurd h (by decide), fun h => absurd h (by decide), fun h => absurd h (by decide), fun h => absurd h (by decide)⟩
theorem zo_C0_91 : zt_okC (0, 91, 0, 12) := ⟨fun _ => ⟨_, zM_X0_putExports, zo_M12, zt_in_za_8 _ (List.mem_of_getElem? (i := 6) rfl), zt_in_za_8 _ (List.mem_of_getElem? (i := 7) rfl), zt_in_za_8 _ (List.mem_of_getElem? (i := 8) rfl), by decide +kernel, _, rfl, rfl⟩, fun h => absurd h (by decide), fun h => absurd h (by decide), fun h => absurd h (by decide), fun h => absurd h (by decide), fun h => absurd h (by decide)⟩
theorem zo_C0_94 : zt_okC (0, 94, 0, 46) := ⟨fun _ => ⟨_, zM_X1_sum, zo_M46, zt_in_za_8 _ (List.mem_of_getElem? (i := 9) rfl), zt_in_za_8 _ (List.mem_of_getElem? (i := 10) rfl), zt_in_za_8 _ (List.mem_of_getElem? (i := 11) rfl), by decide +kernel, _, rfl, rfl⟩, fun h => absurd h (by decide), fun h => absurd h (by decide), fun h => absurd h (by decide), fun h => absurd h (by decide), fun h => absurd h (by decide)⟩
theorem zo_C0_98 : zt_okC (0, 98, 0, 41) := ⟨fun _ => ⟨_, zM_X1_readHead, zo_M41, zt_in_za_8 _ (List.mem_of_getElem? (i := 12) rfl), zt_in_za_8 _ (List.mem_of_getElem? (i := 13) rfl), zt_in_za_8 _ (List.mem_of_getElem? (i := 14) rfl), by decide +kernel, _, rfl, rfl⟩, fun h => absurd h (by decide), fun h => absurd h (by decide), fun h => absurd h (by decide), fun h => absurd h (by decide), fun h => absurd h (by decide)⟩
theorem zo_C0_101 : zt_okC (0, 101, 1, 0) := ⟨fun h => absurd h (by decide), fun _ => ⟨_, zM_J7_fill_53178, zo_M0, Or.inl (zt_in_za_8 _ (List.mem_of_getElem? (i := 15) rfl)), zt_in_za_8 _ (List.mem_of_getElem? (i := 16) rfl), by decide +kernel⟩, fun h => absurd h (by decide), fun h => absurd h (by decide), fun h => absurd h (by decide), fun h => absurd h (by decide)⟩
theorem zo_C0_115 : zt_okC (0, 115, 0, 7) := ⟨fun _ => ⟨_, zM_X0_giveNumbersBelow, zo_M7, zt_in_za_8 _ (List.mem_of_getElem? (i := 17) rfl), zt_in_za_8 _ (List.mem_of_getElem? (i := 18) rfl), zt_in_za_8 _ (List.mem_of_getElem? (i := 19) rfl), by decide +kernel, _, rfl, rfl⟩, fun h => absurd h (by decide), fun h => absurd h (by decide), fun h => absurd h (by decide), fun h => absurd h (by decide), fun h => absurd h (by decide)⟩
theorem zo_C0_119 : zt_okC (0, 119, 0, 100) := ⟨fun _ => ⟨_, zM_X5_firstNameOf, zo_M100, zt_in_za_8 _ (List.mem_of_getElem? (i := 20) rfl), zt_in_za_8 _ (List.mem_of_getElem? (i := 21) rfl), zt_in_za_8 _ (List.mem_of_getElem? (i := 22) rfl), by decide +kernel, _, rfl, rfl⟩, fun h => absurd h (by decide), fun h => absurd h (by decide), fun h => absurd h (by decide), fun h => absurd h (by decide), fun h => absurd h (by decide)⟩
theorem zo_C0_126 : zt_okC (0, 126, 0, 38) := ⟨fun _ => ⟨_, zM_X1_putByte, zo_M38, zt_in_za_8 _ (List.mem_of_getElem? (i := 23) rfl), zt_in_za_8 _ (List.mem_of_getElem? (i := 24) rfl), zt_in_za_8 _ (List.mem_of_getElem? (i := 25) rfl), by decide +kernel, _, rfl, rfl⟩, fun h => absurd h (by decide), fun h => absurd h (by decide), fun h => absurd h (by decide), fun h => absurd h (by decide), fun h => absurd h (by decide)⟩
theorem zo_C0_130 : zt_okC (0, 130, 0, 40) := ⟨fun _ => ⟨_, zM_X1_putWord, zo_M40, zt_in_za_8 _ (List.mem_of_getElem? (i := 26) rfl), zt_in_za_8 _ (List.mem_of_getElem? (i := 27) rfl), zt_in_za_8 _ (List.mem_of_getElem? (i := 28) rfl), by decide +kernel, _, rfl, rfl⟩, fun h => absurd h (by decide), fun h => absurd h (by decide), fun h => absurd h (by decide), fun h => absurd h (by decide), fun h => absurd h (by decide)⟩
theorem zo_C0_133 : zt_okC (0, 133, 0, 5) := ⟨fun _ => ⟨_, zM_X0_findTwin, zo_M5, zt_in_za_8 _ (List.mem_of_getElem? (i := 29) rfl), zt_in_za_9 _ (List.mem_of_getElem? (i := 0) rfl), zt_in_za_9 _ (List.mem_of_getElem? (i := 1) rfl), by decide +kernel, _, rfl, rfl⟩, fun h => absurd h (by decide), fun h => absurd h (by decide), fun h => absurd h (by decide), fun h => absurd h (by decide), fun h => absurd h (by decide)⟩
theorem zo_C0_137 : zt_okC (0, 137, 0, 11) := ⟨fun _ => ⟨_, zM_X0_putBlocksOf, zo_M11, zt_in_za_9 _ (List.mem_of_getElem? (i := 2) rfl), zt_in_za_9 _ (List.mem_of_getElem? (i := 3) rfl), zt_in_za_9 _ (List.mem_of_getElem? (i := 4) rfl), by decide +kernel, _, rfl, rfl⟩, fun h => absurd h (by decide), fun h => absurd h (by decide), fun h => absurd h (by decide), fun h => absurd h (by decide), fun h => absurd h (by decide)⟩
theorem zo_C0_144 : zt_okC (0, 144, 0, 102) := ⟨fun _ => ⟨_, zM_X5_haveSameBytes, zo_M102, zt_in_za_9 _ (List.mem_of_getElem? (i := 5) rfl), zt_in_za_9 _ (List.mem_of_getElem? (i := 6) rfl), zt_in_za_9 _ (List.mem_of_getElem? (i := 7) rfl), by decide +kernel, _, rfl, rfl⟩, fun h => absurd h (by decide), fun h => absurd h (by decide), fun h => absurd h (by decide), fun h => absurd h (by decide), fun h => absurd h (by decide)⟩
theorem zo_C0_148 : zt_okC (0, 148, 1, 19) := ⟨fun h => absurd h (by decide), fun _ => ⟨_, zM_X0_wholeBlocks, zo_M19, Or.inl (zt_in_za_9 _ (List.mem_of_getElem? (i := 8) rfl)), zt_in_za_9 _ (List.mem_of_getElem? (i := 9) rfl), by decide +kernel⟩, fun h => absurd h (by decide), fun h => absurd h (by decide), fun h => absurd h (by decide), fun h => absurd h (by decide)⟩
theorem zo_C0_155 : zt_okC (0, 155, 0, 95) := ⟨fun _ => ⟨_, zM_X4_store, zo_M95, zt_in_za_9 _ (List.mem_of_getElem? (i := 10) rfl), zt_in_za_9 _ (List.mem_of_getElem? (i := 11) rfl), zt_in_za_9 _ (List.mem_of_getElem? (i := 12) rfl), by decide +kernel, _, rfl, rfl⟩, fun h => absurd h (by decide), fun h => absurd h (by decide), fun h => absurd h (by decide), fun h => absurd h (by decide), fun h => absurd h (by decide)⟩
theorem zo_C0_165 : zt_okC (0, 165, 0, 4) := ⟨fun _ => ⟨_, zM_X0_closeTailBlock, zo_M4, zt_in_za_9 _ (List.mem_of_getElem? (i := 13) rfl), zt_in_za_9 _ (List.mem_of_getElem? (i := 14) rfl), zt_in_za_9 _ (List.mem_of_getElem? (i := 15) rfl), by decide +kernel, _, rfl, rfl⟩, fun h => absurd h (by decide), fun h => absurd h (by decide), fun h => absurd h (by decide), fun h => absurd h (by decide), fun h => absurd h (by decide)⟩
theorem zo_C0_168 : zt_okC (0, 168, 0, 9) := ⟨fun _ => ⟨_, zM_X0_joinTail, zo_M9, zt_in_za_9 _ (List.mem_of_getElem? (i := 16) rfl), zt_in_za_9 _ (List.mem_of_getElem? (i := 17) rfl), zt_in_za_9 _ (List.mem_of_getElem? (i := 18) rfl), by decide +kernel, _, rfl, rfl⟩, fun h => absurd h (by decide), fun h => absurd h (by decide), fun h => absurd h (by decide), fun h => absurd h (by decide), fun h => absurd h (by decide)⟩
theorem zo_C0_184 : zt_okC (0, 184, 0, 13) := ⟨fun _ => ⟨_, zM_X0_putFileRow, zo_M13, zt_in_za_9 _ (List.mem_of_getElem? (i := 19) rfl), zt_in_za_9 _ (List.mem_of_getElem? (i := 20) rfl), zt_in_za_9 _ (List.mem_of_getElem? (i := 21) rfl), by decide +kernel, _, rfl, rfl⟩, fun h => absurd h (by decide), fun h => absurd h (by decide), fun h => absurd h (by decide), fun h => absurd h (by decide), fun h => absurd h (by decide)⟩
theorem zo_C0_188 : zt_okC (0, 188, 0, 104) := ⟨fun _ => ⟨_, zM_X5_nameAt, zo_M104, zt_in_za_9 _ (List.mem_of_getElem? (i := 22) rfl), zt_in_za_9 _ (List.mem_of_getElem? (i := 23) rfl), zt_in_za_9 _ (List.mem_of_getElem? (i := 24) rfl), by decide +kernel, _, rfl, rfl⟩, fun h => absurd h (by decide), fun h => absurd h (by decide), fun h => absurd h (by decide), fun h => absurd h (by decide), fun h => absurd h (by decide)⟩
theorem zo_C1_3 : zt_okC (1, 3, 3, 0) := ⟨fun h => absurd h (by decide), fun h => absurd h (by decide), fun h => absurd h (by decide), fun _ => zt_in_za_9 _ (List.mem_of_getElem? (i := 25) rfl), fun h => absurd h (by decide), fun h => absurd h (by decide)⟩
theorem zo_C1_19 : zt_okC (1, 19, 0, 38) := ⟨fun _ => ⟨_, zM_X1_putByte, zo_M38, zt_in_za_9 _ (List.mem_of_getElem? (i := 26) rfl), zt_in_za_8 _ (List.mem_of_getElem? (i := 24) rfl), zt_in_za_8 _ (List.mem_of_getElem? (i := 25) rfl), by decide +kernel, _, rfl, rfl⟩, fun h => absurd h (by decide), fun h => absurd h (by decide), fun h => absurd h (by decide), fun h => absurd h (by decide), fun h => absurd h (by decide)⟩
theorem zo_C1_23 : zt_okC (1, 23, 0, 40) := ⟨fun _ => ⟨_, zM_X1_putWord, zo_M40, zt_in_za_9 _ (List.mem_of_getElem? (i := 27) rfl), zt_in_za_8 _ (List.mem_of_getElem? (i := 27) rfl), zt_in_za_8 _ (List.mem_of_getElem? (i := 28) rfl), by decide +kernel, _, rfl, rfl⟩, fun h => absurd h (by decide), fun h => absurd h (by decide), fun h => absurd h (by decide), fun h => absurd h (by decide), fun h => absurd h (by decide)⟩
theorem zo_C1_26 : zt_okC (1, 26, 4, 0) := ⟨fun h => absurd h (by decide), fun h => absurd h (by decide), fun h => absurd h (by decide), fun h => absurd h (by decide), fun _ => zt_in_za_9 _ (List.mem_of_getElem? (i := 28) rfl), fun h => absurd h (by decide)⟩
theorem zo_C1_32 : zt_okC (1, 32, 5, 0) := ⟨fun h => absurd h (by decide), fun h => absurd h (by decide), fun h => absurd h (by decide), fun h => absurd h (by decide), fun h => absurd h (by decide), fun _ => zt_in_za_9 _ (List.mem_of_getElem? (i := 29) rfl)⟩
theorem zo_C1_38 : zt_okC (1, 38, 0, 41) := ⟨fun _ => ⟨_, zM_X1_readHead, zo_M41, zt_in_za_10 _ (List.mem_of_getElem? (i := 0) rfl), zt_in_za_8 _ (List.mem_of_getElem? (i := 13) rfl), zt_in_za_8 _ (List.mem_of_getElem? (i := 14) rfl), by decide +kernel, _, rfl, rfl⟩, fun h => absurd h (by decide), fun h => absurd h (by decide), fun h => absurd h (by decide), fun h => absurd h (by decide), fun h => absurd h (by decide)⟩
theorem zo_C1_41 : zt_okC (1, 41, 0, 21) := ⟨fun _ => ⟨_, zM_X1_byteAt, zo_M21, zt_in_za_10 _ (List.mem_of_getElem? (i := 1) rfl), zt_in_za_10 _ (List.mem_of_getElem? (i := 2) rfl), zt_in_za_10 _ (List.mem_of_getElem? (i := 3) rfl), by decide +kernel, _, rfl, rfl⟩, fun h => absurd h (by decide), fun h => absurd h (by decide), fun h => absurd h (by decide), fun h => absurd h (by decide), fun h => absurd h (by decide)⟩
theorem zo_C1_48 : zt_okC (1, 48, 0, 51) := ⟨fun _ => ⟨_, zM_X1_wordAt, zo_M51, zt_in_za_10 _ (List.mem_of_getElem? (i := 4) rfl), zt_in_za_10 _ (List.mem_of_getElem? (i := 5) rfl), zt_in_za_10 _ (List.mem_of_getElem? (i := 6) rfl), by decide +kernel, _, rfl, rfl⟩, fun h => absurd h (by decide), fun h => absurd h (by decide), fun h => absurd h (by decide), fun h => absurd h (by decide), fun h => absurd h (by decide)⟩
theorem zo_C1_68 : zt_okC (1, 68, 0, 42) := ⟨fun _ => ⟨_, zM_X1_rowOf, zo_M42, zt_in_za_10 _ (List.mem_of_getElem? (i := 7) rfl), zt_in_za_10 _ (List.mem_of_getElem? (i := 8) rfl), zt_in_za_10 _ (List.mem_of_getElem? (i := 9) rfl), by decide +kernel, _, rfl, rfl⟩, fun h => absurd h (by decide), fun h => absurd h (by decide), fun h => absurd h (by decide), fun h => absurd h (by decide), fun h => absurd h (by decide)⟩
theorem zo_C1_71 : zt_okC (1, 71, 0, 25) := ⟨fun _ => ⟨_, zM_X1_firstNamePlace, zo_M25, zt_in_za_10 _ (List.mem_of_getElem? (i := 10) rfl), zt_in_za_10 _ (List.mem_of_getElem? (i := 11) rfl), zt_in_za_10 _ (List.mem_of_getElem? (i := 12) rfl), by decide +kernel, _, rfl, rfl⟩, fun h => absurd h (by decide), fun h => absurd h (by decide), fun h => absurd h (by decide), fun h => absurd h (by decide), fun h => absurd h (by decide)⟩
theorem zo_C1_74 : zt_okC (1, 74, 0, 44) := ⟨fun _ => ⟨_, zM_X1_sizeOf, zo_M44, zt_in_za_10 _ (List.mem_of_getElem? (i := 13) rfl), zt_in_za_10 _ (List.mem_of_getElem? (i := 14) rfl), zt_in_za_10 _ (List.mem_of_getElem? (i := 15) rfl), by decide +kernel, _, rfl, rfl⟩, fun h => absurd h (by decide), fun h => absurd h (by decide), fun h => absurd h (by decide), fun h => absurd h (by decide), fun h => absurd h (by decide)⟩
theorem zo_C1_77 : zt_okC (1, 77, 0, 50) := ⟨fun _ => ⟨_, zM_X1_wholeBlocks, zo_M50, zt_in_za_10 _ (List.mem_of_getElem? (i := 16) rfl), zt_in_za_10 _ (List.mem_of_getElem? (i := 17) rfl), zt_in_za_10 _ (List.mem_of_getElem? (i := 18) rfl), by decide +kernel, _, rfl, rfl⟩, fun h => absurd h (by decide), fun h => absurd h (by decide), fun h => absurd h (by decide), fun h => absurd h (by decide), fun h => absurd h (by decide)⟩
theorem zo_C1_80 : zt_okC (1, 80, 0, 48) := ⟨fun _ => ⟨_, zM_X1_tailRow, zo_M48, zt_in_za_10 _ (List.mem_of_getElem? (i := 19) rfl), zt_in_za_10 _ (List.mem_of_getElem? (i := 20) rfl), zt_in_za_10 _ (List.mem_of_getElem? (i := 21) rfl), by decide +kernel, _, rfl, rfl⟩, fun h => absurd h (by decide), fun h => absurd h (by decide), fun h => absurd h (by decide), fun h => absurd h (by decide), fun h => absurd h (by decide)⟩
theorem zo_C1_83 : zt_okC (1, 83, 0, 20) := ⟨fun _ => ⟨_, zM_X1_blockByte, zo_M20, zt_in_za_10 _ (List.mem_of_getElem? (i := 22) rfl), zt_in_za_10 _ (List.mem_of_getElem? (i := 23) rfl), zt_in_za_10 _ (List.mem_of_getElem? (i := 24) rfl), by decide +kernel, _, rfl, rfl⟩, fun h => absurd h (by decide), fun h => absurd h (by decide), fun h => absurd h (by decide), fun h => absurd h (by decide), fun h => absurd h (by decide)⟩
theorem zo_C1_87 : zt_okC (1, 87, 1, 45) := ⟨fun h => absurd h (by decide), fun _ => ⟨_, zM_X1_storedBytes, zo_M45, Or.inl (zt_in_za_10 _ (List.mem_of_getElem? (i := 25) rfl)), zt_in_za_10 _ (List.mem_of_getElem? (i := 26) rfl), by decide +kernel⟩, fun h => absurd h (by decide), fun h => absurd h (by decide), fun h => absurd h (by decide), fun h => absurd h (by decide)⟩
theorem zo_C1_91 : zt_okC (1, 91, 0, 34) := ⟨fun _ => ⟨_, zM_X1_openedBytes, zo_M34, zt_in_za_10 _ (List.mem_of_getElem? (i := 27) rfl), zt_in_za_10 _ (List.mem_of_getElem? (i := 28) rfl), zt_in_za_10 _ (List.mem_of_getElem? (i := 29) rfl), by decide +kernel, _, rfl, rfl⟩, fun h => absurd h (by decide), fun h => absurd h (by decide), fun h => absurd h (by decide), fun h => absurd h (by decide), fun h => absurd h (by decide)⟩
theorem zo_C1_94 : zt_okC (1, 94, 0, 33) := ⟨fun _ => ⟨_, zM_X1_openedByte, zo_M33, zt_in_za_11 _ (List.mem_of_getElem? (i := 0) rfl), zt_in_za_11 _ (List.mem_of_getElem? (i := 1) rfl), zt_in_za_11 _ (List.mem_of_getElem? (i := 2) rfl), by decide +kernel, _, rfl, rfl⟩, fun h => absurd h (by decide), fun h => absurd h (by decide), fun h => absurd h (by decide), fun h => absurd h (by decide), fun h => absurd h (by decide)⟩
theorem zo_C1_97 : zt_okC (1, 97, 1, 35) := ⟨fun h => absurd h (by decide), fun _ => ⟨_, zM_X1_opensTo, zo_M35, Or.inl (zt_in_za_11 _ (List.mem_of_getElem? (i := 3) rfl)), zt_in_za_11 _ (List.mem_of_getElem? (i := 4) rfl), by decide +kernel⟩, fun h => absurd h (by decide), fun h => absurd h (by decide), fun h => absurd h (by decide), fun h => absurd h (by decide)⟩
theorem zo_C1_100 : zt_okC (1, 100, 1, 37) := ⟨fun h => absurd h (by decide), fun _ => ⟨_, zM_X1_packetBytes, zo_M37, Or.inl (zt_in_za_11 _ (List.mem_of_getElem? (i := 5) rfl)), zt_in_za_11 _ (List.mem_of_getElem? (i := 6) rfl), by decide +kernel⟩, fun h => absurd h (by decide), fun h => absurd h (by decide), fun h => absurd h (by decide), fun h => absurd h (by decide)⟩
theorem zo_C2_3 : zt_okC (2, 3, 3, 0) := ⟨fun h => absurd h (by decide), fun h => absurd h (by decide), fun h => absurd h (by decide), fun _ => zt_in_za_11 _ (List.mem_of_getElem? (i := 7) rfl), fun h => absurd h (by decide), fun h => absurd h (by decide)⟩
theorem zo_C2_15 : zt_okC (2, 15, 0, 41) := ⟨fun _ => ⟨_, zM_X1_readHead, zo_M41, zt_in_za_11 _ (List.mem_of_getElem? (i := 8) rfl), zt_in_za_8 _ (List.mem_of_getElem? (i := 13) rfl), zt_in_za_8 _ (List.mem_of_getElem? (i := 14) rfl), by decide +kernel, _, rfl, rfl⟩, fun h => absurd h (by decide), fun h => absurd h (by decide), fun h => absurd h (by decide), fun h => absurd h (by decide), fun h => absurd h (by decide)⟩
theorem zo_C2_20 : zt_okC (2, 20, 1, 62) := ⟨fun h => absurd h (by decide), fun _ => ⟨_, zM_X2_isHeadRight, zo_M62, Or.inl (zt_in_za_11 _ (List.mem_of_getElem? (i := 9) rfl)), zt_in_za_11 _ (List.mem_of_getElem? (i := 10) rfl), by decide +kernel⟩, fun h => absurd h (by decide), fun h => absurd h (by decide), fun h => absurd h (by decide), fun h => absurd h (by decide)⟩
theorem zo_C2_24 : zt_okC (2, 24, 1, 56) := ⟨fun h => absurd h (by decide), fun _ => ⟨_, zM_X2_arePlacesRight, zo_M56, Or.inl (zt_in_za_11 _ (List.mem_of_getElem? (i := 11) rfl)), zt_in_za_11 _ (List.mem_of_getElem? (i := 12) rfl), by decide +kernel⟩, fun h => absurd h (by decide), fun h => absurd h (by decide), fun h => absurd h (by decide), fun h => absurd h (by decide)⟩
theorem zo_C2_27 : zt_okC (2, 27, 0, 51) := ⟨fun _ => ⟨_, zM_X1_wordAt, zo_M51, zt_in_za_11 _ (List.mem_of_getElem? (i := 13) rfl), zt_in_za_10 _ (List.mem_of_getElem? (i := 5) rfl), zt_in_za_10 _ (List.mem_of_getElem? (i := 6) rfl), by decide +kernel, _, rfl, rfl⟩, fun h => absurd h (by decide), fun h => absurd h (by decide), fun h => absurd h (by decide), fun h => absurd h (by decide), fun h => absurd h (by decide)⟩
theorem zo_C2_31 : zt_okC (2, 31, 0, 46) := ⟨fun _ => ⟨_, zM_X1_sum, zo_M46, zt_in_za_11 _ (List.mem_of_getElem? (i := 14) rfl), zt_in_za_8 _ (List.mem_of_getElem? (i := 10) rfl), zt_in_za_8 _ (List.mem_of_getElem? (i := 11) rfl), by decide +kernel, _, rfl, rfl⟩, fun h => absurd h (by decide), fun h => absurd h (by decide), fun h => absurd h (by decide), fun h => absurd h (by decide), fun h => absurd h (by decide)⟩
theorem zo_C2_35 : zt_okC (2, 35, 1, 57) := ⟨fun h => absurd h (by decide), fun _ => ⟨_, zM_X2_areTailsRight, zo_M57, Or.inl (zt_in_za_11 _ (List.mem_of_getElem? (i := 15) rfl)), zt_in_za_11 _ (List.mem_of_getElem? (i := 16) rfl), by decide +kernel⟩, fun h => absurd h (by decide), fun h => absurd h (by decide), fun h => absurd h (by decide), fun h => absurd h (by decide)⟩
theorem zo_C2_38 : zt_okC (2, 38, 1, 54) := ⟨fun h => absurd h (by decide), fun _ => ⟨_, zM_X2_areInodesRight, zo_M54, Or.inl (zt_in_za_11 _ (List.mem_of_getElem? (i := 17) rfl)), zt_in_za_11 _ (List.mem_of_getElem? (i := 18) rfl), by decide +kernel⟩, fun h => absurd h (by decide), fun h => absurd h (by decide), fun h => absurd h (by decide), fun h => absurd h (by decide)⟩
theorem zo_C2_41 : zt_okC (2, 41, 1, 53) := ⟨fun h => absurd h (by decide), fun _ => ⟨_, zM_X2_areFoldersRight, zo_M53, Or.inl (zt_in_za_11 _ (List.mem_of_getElem? (i := 19) rfl)), zt_in_za_11 _ (List.mem_of_getElem? (i := 20) rfl), by decide +kernel⟩, fun h => absurd h (by decide), fun h => absurd h (by decide), fun h => absurd h (by decide), fun h => absurd h (by decide)⟩
theorem zo_C2_44 : zt_okC (2, 44, 0, 64) := ⟨fun _ => ⟨_, zM_X2_isTreeRight, zo_M64, zt_in_za_11 _ (List.mem_of_getElem? (i := 21) rfl), zt_in_za_11 _ (List.mem_of_getElem? (i := 22) rfl), zt_in_za_11 _ (List.mem_of_getElem? (i := 23) rfl), by decide +kernel, _, rfl, rfl⟩, fun h => absurd h (by decide), fun h => absurd h (by decide), fun h => absurd h (by decide), fun h => absurd h (by decide), fun h => absurd h (by decide)⟩
theorem zo_C2_51 : zt_okC (2, 51, 0, 21) := ⟨fun _ => ⟨_, zM_X1_byteAt, zo_M21, zt_in_za_11 _ (List.mem_of_getElem? (i := 24) rfl), zt_in_za_10 _ (List.mem_of_getElem? (i := 2) rfl), zt_in_za_10 _ (List.mem_of_getElem? (i := 3) rfl), by decide +kernel, _, rfl, rfl⟩, fun h => absurd h (by decide), fun h => absurd h (by decide), fun h => absurd h (by decide), fun h => absurd h (by decide), fun h => absurd h (by decide)⟩
theorem zo_C2_57 : zt_okC (2, 57, 1, 123) := ⟨fun h => absurd h (by decide), fun _ => ⟨_, zM_X6_isBlock, zo_M123, Or.inr (List.mem_of_getElem? (i := 1) rfl), zt_in_za_11 _ (List.mem_of_getElem? (i := 25) rfl), by decide +kernel⟩, fun h => absurd h (by decide), fun h => absurd h (by decide), fun h => absurd h (by decide), fun h => absurd h (by decide)⟩
theorem zo_C2_76 : zt_okC (2, 76, 0, 47) := ⟨fun _ => ⟨_, zM_X1_tailBlocks, zo_M47, zt_in_za_11 _ (List.mem_of_getElem? (i := 26) rfl), zt_in_za_11 _ (List.mem_of_getElem? (i := 27) rfl), zt_in_za_11 _ (List.mem_of_getElem? (i := 28) rfl), by decide +kernel, _, rfl, rfl⟩, fun h => absurd h (by decide), fun h => absurd h (by decide), fun h => absurd h (by decide), fun h => absurd h (by decide), fun h => absurd h (by decide)⟩
theorem zo_C2_79 : zt_okC (2, 79, 0, 48) := ⟨fun _ => ⟨_, zM_X1_tailRow, zo_M48, zt_in_za_11 _ (List.mem_of_getElem? (i := 29) rfl), zt_in_za_10 _ (List.mem_of_getElem? (i := 20) rfl), zt_in_za_10 _ (List.mem_of_getElem? (i := 21) rfl), by decide +kernel, _, rfl, rfl⟩, fun h => absurd h (by decide), fun h => absurd h (by decide), fun h => absurd h (by decide), fun h => absurd h (by decide), fun h => absurd h (by decide)⟩
theorem zo_C2_82 : zt_okC (2, 82, 0, 22) := ⟨fun _ => ⟨_, zM_X1_canBeBlock, zo_M22, zt_in_za_12 _ (List.mem_of_getElem? (i := 0) rfl), zt_in_za_12 _ (List.mem_of_getElem? (i := 1) rfl), zt_in_za_12 _ (List.mem_of_getElem? (i := 2) rfl), by decide +kernel, _, rfl, rfl⟩, fun h => absurd h (by decide), fun h => absurd h (by decide), fun h => absurd h (by decide), fun h => absurd h (by decide), fun h => absurd h (by decide)⟩
theorem zo_C2_86 : zt_okC (2, 86, 1, 65) := ⟨fun h => absurd h (by decide), fun _ => ⟨_, zM_X2_rowBytes, zo_M65, Or.inl (zt_in_za_12 _ (List.mem_of_getElem? (i := 3) rfl)), zt_in_za_12 _ (List.mem_of_getElem? (i := 4) rfl), by decide +kernel⟩, fun h => absurd h (by decide), fun h => absurd h (by decide), fun h => absurd h (by decide), fun h => absurd h (by decide)⟩
theorem zo_C2_90 : zt_okC (2, 90, 0, 42) := ⟨fun _ => ⟨_, zM_X1_rowOf, zo_M42, zt_in_za_12 _ (List.mem_of_getElem? (i := 5) rfl), zt_in_za_10 _ (List.mem_of_getElem? (i := 8) rfl), zt_in_za_10 _ (List.mem_of_getElem? (i := 9) rfl), by decide +kernel, _, rfl, rfl⟩, fun h => absurd h (by decide), fun h => absurd h (by decide), fun h => absurd h (by decide), fun h => absurd h (by decide), fun h => absurd h (by decide)⟩
theorem zo_C2_93 : zt_okC (2, 93, 1, 61) := ⟨fun h => absurd h (by decide), fun _ => ⟨_, zM_X2_isFileRight, zo_M61, Or.inl (zt_in_za_12 _ (List.mem_of_getElem? (i := 6) rfl)), zt_in_za_12 _ (List.mem_of_getElem? (i := 7) rfl), by decide +kernel⟩, fun h => absurd h (by decide), fun h => absurd h (by decide), fun h => absurd h (by decide), fun h => absurd h (by decide)⟩
theorem zo_C2_97 : zt_okC (2, 97, 0, 50) := ⟨fun _ => ⟨_, zM_X1_wholeBlocks, zo_M50, zt_in_za_12 _ (List.mem_of_getElem? (i := 8) rfl), zt_in_za_10 _ (List.mem_of_getElem? (i := 17) rfl), zt_in_za_10 _ (List.mem_of_getElem? (i := 18) rfl), by decide +kernel, _, rfl, rfl⟩, fun h => absurd h (by decide), fun h => absurd h (by decide), fun h => absurd h (by decide), fun h => absurd h (by decide), fun h => absurd h (by decide)⟩
theorem zo_C2_100 : zt_okC (2, 100, 1, 63) := ⟨fun h => absurd h (by decide), fun _ => ⟨_, zM_X2_isTailRight, zo_M63, Or.inl (zt_in_za_12 _ (List.mem_of_getElem? (i := 9) rfl)), zt_in_za_12 _ (List.mem_of_getElem? (i := 10) rfl), by decide +kernel⟩, fun h => absurd h (by decide), fun h => absurd h (by decide), fun h => absurd h (by decide), fun h => absurd h (by decide)⟩
theorem zo_C2_104 : zt_okC (2, 104, 1, 45) := ⟨fun h => absurd h (by decide), fun _ => ⟨_, zM_X1_storedBytes, zo_M45, Or.inl (zt_in_za_12 _ (List.mem_of_getElem? (i := 11) rfl)), zt_in_za_10 _ (List.mem_of_getElem? (i := 26) rfl), by decide +kernel⟩, fun h => absurd h (by decide), fun h => absurd h (by decide), fun h => absurd h (by decide), fun h => absurd h (by decide)⟩
theorem zo_C2_107 : zt_okC (2, 107, 0, 30) := ⟨fun _ => ⟨_, zM_X1_kindOf, zo_M30, zt_in_za_12 _ (List.mem_of_getElem? (i := 12) rfl), zt_in_za_12 _ (List.mem_of_getElem? (i := 13) rfl), zt_in_za_12 _ (List.mem_of_getElem? (i := 14) rfl), by decide +kernel, _, rfl, rfl⟩, fun h => absurd h (by decide), fun h => absurd h (by decide), fun h => absurd h (by decide), fun h => absurd h (by decide), fun h => absurd h (by decide)⟩
theorem zo_C2_110 : zt_okC (2, 110, 0, 44) := ⟨fun _ => ⟨_, zM_X1_sizeOf, zo_M44, zt_in_za_12 _ (List.mem_of_getElem? (i := 15) rfl), zt_in_za_10 _ (List.mem_of_getElem? (i := 14) rfl), zt_in_za_10 _ (List.mem_of_getElem? (i := 15) rfl), by decide +kernel, _, rfl, rfl⟩, fun h => absurd h (by decide), fun h => absurd h (by decide), fun h => absurd h (by decide), fun h => absurd h (by decide), fun h => absurd h (by decide)⟩
theorem zo_C2_113 : zt_okC (2, 113, 0, 25) := ⟨fun _ => ⟨_, zM_X1_firstNamePlace, zo_M25, zt_in_za_12 _ (List.mem_of_getElem? (i := 16) rfl), zt_in_za_10 _ (List.mem_of_getElem? (i := 11) rfl), zt_in_za_10 _ (List.mem_of_getElem? (i := 12) rfl), by decide +kernel, _, rfl, rfl⟩, fun h => absurd h (by decide), fun h => absurd h (by decide), fun h => absurd h (by decide), fun h => absurd h (by decide), fun h => absurd h (by decide)⟩
theorem zo_C2_116 : zt_okC (2, 116, 1, 55) := ⟨fun h => absurd h (by decide), fun _ => ⟨_, zM_X2_areNamesRight, zo_M55, Or.inl (zt_in_za_12 _ (List.mem_of_getElem? (i := 17) rfl)), zt_in_za_12 _ (List.mem_of_getElem? (i := 18) rfl), by decide +kernel⟩, fun h => absurd h (by decide), fun h => absurd h (by decide), fun h => absurd h (by decide), fun h => absurd h (by decide)⟩
theorem zo_C2_119 : zt_okC (2, 119, 0, 27) := ⟨fun _ => ⟨_, zM_X1_hasNumber, zo_M27, zt_in_za_12 _ (List.mem_of_getElem? (i := 19) rfl), zt_in_za_12 _ (List.mem_of_getElem? (i := 20) rfl), zt_in_za_12 _ (List.mem_of_getElem? (i := 21) rfl), by decide +kernel, _, rfl, rfl⟩, fun h => absurd h (by decide), fun h => absurd h (by decide), fun h => absurd h (by decide), fun h => absurd h (by decide), fun h => absurd h (by decide)⟩
theorem zo_C2_122 : zt_okC (2, 122, 0, 32) := ⟨fun _ => ⟨_, zM_X1_namesOf, zo_M32, zt_in_za_12 _ (List.mem_of_getElem? (i := 22) rfl), zt_in_za_12 _ (List.mem_of_getElem? (i := 23) rfl), zt_in_za_12 _ (List.mem_of_getElem? (i := 24) rfl), by decide +kernel, _, rfl, rfl⟩, fun h => absurd h (by decide), fun h => absurd h (by decide), fun h => absurd h (by decide), fun h => absurd h (by decide), fun h => absurd h (by decide)⟩
theorem zo_C2_125 : zt_okC (2, 125, 0, 28) := ⟨fun _ => ⟨_, zM_X1_homeOf, zo_M28, zt_in_za_12 _ (List.mem_of_getElem? (i := 25) rfl), zt_in_za_12 _ (List.mem_of_getElem? (i := 26) rfl), zt_in_za_12 _ (List.mem_of_getElem? (i := 27) rfl), by decide +kernel, _, rfl, rfl⟩, fun h => absurd h (by decide), fun h => absurd h (by decide), fun h => absurd h (by decide), fun h => absurd h (by decide), fun h => absurd h (by decide)⟩
theorem zo_C2_128 : zt_okC (2, 128, 0, 52) := ⟨fun _ => ⟨_, zM_X2_areFoldersNamedAtHome, zo_M52, zt_in_za_12 _ (List.mem_of_getElem? (i := 28) rfl), zt_in_za_12 _ (List.mem_of_getElem? (i := 29) rfl), zt_in_za_13 _ (List.mem_of_getElem? (i := 0) rfl), by decide +kernel, _, rfl, rfl⟩, fun h => absurd h (by decide), fun h => absurd h (by decide), fun h => absurd h (by decide), fun h => absurd h (by decide), fun h => absurd h (by decide)⟩
theorem zo_C2_131 : zt_okC (2, 131, 1, 58) := ⟨fun h => absurd h (by decide), fun _ => ⟨_, zM_X2_comesToFirst, zo_M58, Or.inl (zt_in_za_13 _ (List.mem_of_getElem? (i := 1) rfl)), zt_in_za_13 _ (List.mem_of_getElem? (i := 2) rfl), by decide +kernel⟩, fun h => absurd h (by decide), fun h => absurd h (by decide), fun h => absurd h (by decide), fun h => absurd h (by decide)⟩
theorem zo_C2_134 : zt_okC (2, 134, 1, 0) := ⟨fun h => absurd h (by decide), fun _ => ⟨_, zM_J7_fill_53178, zo_M0, Or.inl (zt_in_za_13 _ (List.mem_of_getElem? (i := 3) rfl)), zt_in_za_8 _ (List.mem_of_getElem? (i := 16) rfl), by decide +kernel⟩, fun h => absurd h (by decide), fun h => absurd h (by decide), fun h => absurd h (by decide), fun h => absurd h (by decide)⟩
theorem zo_C3_3 : zt_okC (3, 3, 3, 0) := ⟨fun h => absurd h (by decide), fun h => absurd h (by decide), fun h => absurd h (by decide), fun _ => zt_in_za_13 _ (List.mem_of_getElem? (i := 4) rfl), fun h => absurd h (by decide), fun h => absurd h (by decide)⟩
theorem zo_C3_39 : zt_okC (3, 39, 2, 29) := ⟨fun h => absurd h (by decide), fun h => absurd h (by decide), fun _ => ⟨_, zM_X1_init, zo_M29, Or.inl (zt_in_za_13 _ (List.mem_of_getElem? (i := 5) rfl)), zt_in_za_13 _ (List.mem_of_getElem? (i := 6) rfl), rfl, rfl, by decide +kernel⟩, fun h => absurd h (by decide), fun h => absurd h (by decide), fun h => absurd h (by decide)⟩
theorem zo_C3_46 : zt_okC (3, 46, 0, 85) := ⟨fun _ => ⟨_, zM_X3_startViews, zo_M85, zt_in_za_13 _ (List.mem_of_getElem? (i := 7) rfl), zt_in_za_13 _ (List.mem_of_getElem? (i := 8) rfl), zt_in_za_13 _ (List.mem_of_getElem? (i := 9) rfl), by decide +kernel, _, rfl, rfl⟩, fun h => absurd h (by decide), fun h => absurd h (by decide), fun h => absurd h (by decide), fun h => absurd h (by decide), fun h => absurd h (by decide)⟩
theorem zo_C3_52 : zt_okC (3, 52, 0, 87) := ⟨fun _ => ⟨_, zM_X3_upperImage, zo_M87, zt_in_za_13 _ (List.mem_of_getElem? (i := 10) rfl), zt_in_za_13 _ (List.mem_of_getElem? (i := 11) rfl), zt_in_za_13 _ (List.mem_of_getElem? (i := 12) rfl), by decide +kernel, _, rfl, rfl⟩, fun h => absurd h (by decide), fun h => absurd h (by decide), fun h => absurd h (by decide), fun h => absurd h (by decide), fun h => absurd h (by decide)⟩
theorem zo_C3_56 : zt_okC (3, 56, 0, 81) := ⟨fun _ => ⟨_, zM_X3_numberOf, zo_M81, zt_in_za_13 _ (List.mem_of_getElem? (i := 13) rfl), zt_in_za_13 _ (List.mem_of_getElem? (i := 14) rfl), zt_in_za_13 _ (List.mem_of_getElem? (i := 15) rfl), by decide +kernel, _, rfl, rfl⟩, fun h => absurd h (by decide), fun h => absurd h (by decide), fun h => absurd h (by decide), fun h => absurd h (by decide), fun h => absurd h (by decide)⟩
theorem zo_C3_60 : zt_okC (3, 60, 0, 30) := ⟨fun _ => ⟨_, zM_X1_kindOf, zo_M30, zt_in_za_13 _ (List.mem_of_getElem? (i := 16) rfl), zt_in_za_12 _ (List.mem_of_getElem? (i := 13) rfl), zt_in_za_12 _ (List.mem_of_getElem? (i := 14) rfl), by decide +kernel, _, rfl, rfl⟩, fun h => absurd h (by decide), fun h => absurd h (by decide), fun h => absurd h (by decide), fun h => absurd h (by decide), fun h => absurd h (by decide)⟩
theorem zo_C3_63 : zt_okC (3, 63, 0, 31) := ⟨fun _ => ⟨_, zM_X1_modeOf, zo_M31, zt_in_za_13 _ (List.mem_of_getElem? (i := 17) rfl), zt_in_za_13 _ (List.mem_of_getElem? (i := 18) rfl), zt_in_za_13 _ (List.mem_of_getElem? (i := 19) rfl), by decide +kernel, _, rfl, rfl⟩, fun h => absurd h (by decide), fun h => absurd h (by decide), fun h => absurd h (by decide), fun h => absurd h (by decide), fun h => absurd h (by decide)⟩
theorem zo_C3_66 : zt_okC (3, 66, 0, 36) := ⟨fun _ => ⟨_, zM_X1_ownerOf, zo_M36, zt_in_za_13 _ (List.mem_of_getElem? (i := 20) rfl), zt_in_za_13 _ (List.mem_of_getElem? (i := 21) rfl), zt_in_za_13 _ (List.mem_of_getElem? (i := 22) rfl), by decide +kernel, _, rfl, rfl⟩, fun h => absurd h (by decide), fun h => absurd h (by decide), fun h => absurd h (by decide), fun h => absurd h (by decide), fun h => absurd h (by decide)⟩
theorem zo_C3_69 : zt_okC (3, 69, 0, 75) := ⟨fun _ => ⟨_, zM_X3_kindOf, zo_M75, zt_in_za_13 _ (List.mem_of_getElem? (i := 23) rfl), zt_in_za_13 _ (List.mem_of_getElem? (i := 24) rfl), zt_in_za_13 _ (List.mem_of_getElem? (i := 25) rfl), by decide +kernel, _, rfl, rfl⟩, fun h => absurd h (by decide), fun h => absurd h (by decide), fun h => absurd h (by decide), fun h => absurd h (by decide), fun h => absurd h (by decide)⟩
theorem zo_C3_70 : zt_okC (3, 70, 0, 44) := ⟨fun _ => ⟨_, zM_X1_sizeOf, zo_M44, zt_in_za_13 _ (List.mem_of_getElem? (i := 26) rfl), zt_in_za_10 _ (List.mem_of_getElem? (i := 14) rfl), zt_in_za_10 _ (List.mem_of_getElem? (i := 15) rfl), by decide +kernel, _, rfl, rfl⟩, fun h => absurd h (by decide), fun h => absurd h (by decide), fun h => absurd h (by decide), fun h => absurd h (by decide), fun h => absurd h (by decide)⟩
theorem zo_C3_73 : zt_okC (3, 73, 0, 79) := ⟨fun _ => ⟨_, zM_X3_nameBelow, zo_M79, zt_in_za_13 _ (List.mem_of_getElem? (i := 27) rfl), zt_in_za_13 _ (List.mem_of_getElem? (i := 28) rfl), zt_in_za_13 _ (List.mem_of_getElem? (i := 29) rfl), by decide +kernel, _, rfl, rfl⟩, fun h => absurd h (by decide), fun h => absurd h (by decide), fun h => absurd h (by decide), fun h => absurd h (by decide), fun h => absurd h (by decide)⟩
theorem zo_C3_80 : zt_okC (3, 80, 1, 0) := ⟨fun h => absurd h (by decide), fun _ => ⟨_, zM_J7_fill_53178, zo_M0, Or.inl (zt_in_za_14 _ (List.mem_of_getElem? (i := 0) rfl)), zt_in_za_8 _ (List.mem_of_getElem? (i := 16) rfl), by decide +kernel⟩, fun h => absurd h (by decide), fun h => absurd h (by decide), fun h => absurd h (by decide), fun h => absurd h (by decide)⟩
theorem zo_C3_86 : zt_okC (3, 86, 0, 80) := ⟨fun _ => ⟨_, zM_X3_nextName, zo_M80, zt_in_za_14 _ (List.mem_of_getElem? (i := 1) rfl), zt_in_za_14 _ (List.mem_of_getElem? (i := 2) rfl), zt_in_za_14 _ (List.mem_of_getElem? (i := 3) rfl), by decide +kernel, _, rfl, rfl⟩, fun h => absurd h (by decide), fun h => absurd h (by decide), fun h => absurd h (by decide), fun h => absurd h (by decide), fun h => absurd h (by decide)⟩
theorem zo_C3_89 : zt_okC (3, 89, 0, 83) := ⟨fun _ => ⟨_, zM_X3_passName, zo_M83, zt_in_za_14 _ (List.mem_of_getElem? (i := 4) rfl), zt_in_za_14 _ (List.mem_of_getElem? (i := 5) rfl), zt_in_za_14 _ (List.mem_of_getElem? (i := 6) rfl), by decide +kernel, _, rfl, rfl⟩, fun h => absurd h (by decide), fun h => absurd h (by decide), fun h => absurd h (by decide), fun h => absurd h (by decide), fun h => absurd h (by decide)⟩
theorem zo_C3_92 : zt_okC (3, 92, 0, 24) := ⟨fun _ => ⟨_, zM_X1_fileByte, zo_M24, zt_in_za_14 _ (List.mem_of_getElem? (i := 7) rfl), zt_in_za_14 _ (List.mem_of_getElem? (i := 8) rfl), zt_in_za_14 _ (List.mem_of_getElem? (i := 9) rfl), by decide +kernel, _, rfl, rfl⟩, fun h => absurd h (by decide), fun h => absurd h (by decide), fun h => absurd h (by decide), fun h => absurd h (by decide), fun h => absurd h (by decide)⟩
theorem zo_C3_95 : zt_okC (3, 95, 0, 70) := ⟨fun _ => ⟨_, zM_X3_find, zo_M70, zt_in_za_14 _ (List.mem_of_getElem? (i := 10) rfl), zt_in_za_14 _ (List.mem_of_getElem? (i := 11) rfl), zt_in_za_14 _ (List.mem_of_getElem? (i := 12) rfl), by decide +kernel, _, rfl, rfl⟩, fun h => absurd h (by decide), fun h => absurd h (by decide), fun h => absurd h (by decide), fun h => absurd h (by decide), fun h => absurd h (by decide)⟩
theorem zo_C3_102 : zt_okC (3, 102, 0, 66) := ⟨fun _ => ⟨_, zM_X3_addFound, zo_M66, zt_in_za_14 _ (List.mem_of_getElem? (i := 13) rfl), zt_in_za_14 _ (List.mem_of_getElem? (i := 14) rfl), zt_in_za_14 _ (List.mem_of_getElem? (i := 15) rfl), by decide +kernel, _, rfl, rfl⟩, fun h => absurd h (by decide), fun h => absurd h (by decide), fun h => absurd h (by decide), fun h => absurd h (by decide), fun h => absurd h (by decide)⟩
theorem zo_C3_105 : zt_okC (3, 105, 0, 67) := ⟨fun _ => ⟨_, zM_X3_addToFound, zo_M67, zt_in_za_14 _ (List.mem_of_getElem? (i := 16) rfl), zt_in_za_14 _ (List.mem_of_getElem? (i := 17) rfl), zt_in_za_14 _ (List.mem_of_getElem? (i := 18) rfl), by decide +kernel, _, rfl, rfl⟩, fun h => absurd h (by decide), fun h => absurd h (by decide), fun h => absurd h (by decide), fun h => absurd h (by decide), fun h => absurd h (by decide)⟩
theorem zo_C3_108 : zt_okC (3, 108, 0, 49) := ⟨fun _ => ⟨_, zM_X1_targetOf, zo_M49, zt_in_za_14 _ (List.mem_of_getElem? (i := 19) rfl), zt_in_za_14 _ (List.mem_of_getElem? (i := 20) rfl), zt_in_za_14 _ (List.mem_of_getElem? (i := 21) rfl), by decide +kernel, _, rfl, rfl⟩, fun h => absurd h (by decide), fun h => absurd h (by decide), fun h => absurd h (by decide), fun h => absurd h (by decide), fun h => absurd h (by decide)⟩
theorem zo_C3_111 : zt_okC (3, 111, 0, 25) := ⟨fun _ => ⟨_, zM_X1_firstNamePlace, zo_M25, zt_in_za_14 _ (List.mem_of_getElem? (i := 22) rfl), zt_in_za_10 _ (List.mem_of_getElem? (i := 11) rfl), zt_in_za_10 _ (List.mem_of_getElem? (i := 12) rfl), by decide +kernel, _, rfl, rfl⟩, fun h => absurd h (by decide), fun h => absurd h (by decide), fun h => absurd h (by decide), fun h => absurd h (by decide), fun h => absurd h (by decide)⟩
theorem zo_C3_114 : zt_okC (3, 114, 0, 51) := ⟨fun _ => ⟨_, zM_X1_wordAt, zo_M51, zt_in_za_14 _ (List.mem_of_getElem? (i := 23) rfl), zt_in_za_10 _ (List.mem_of_getElem? (i := 5) rfl), zt_in_za_10 _ (List.mem_of_getElem? (i := 6) rfl), by decide +kernel, _, rfl, rfl⟩, fun h => absurd h (by decide), fun h => absurd h (by decide), fun h => absurd h (by decide), fun h => absurd h (by decide), fun h => absurd h (by decide)⟩
theorem zo_C4_3 : zt_okC (4, 3, 3, 0) := ⟨fun h => absurd h (by decide), fun h => absurd h (by decide), fun h => absurd h (by decide), fun _ => zt_in_za_14 _ (List.mem_of_getElem? (i := 24) rfl), fun h => absurd h (by decide), fun h => absurd h (by decide)⟩
theorem zo_C4_15 : zt_okC (4, 15, 1, 91) := ⟨fun h => absurd h (by decide), fun _ => ⟨_, zM_X4_isZero, zo_M91, Or.inl (zt_in_za_14 _ (List.mem_of_getElem? (i := 25) rfl)), zt_in_za_14 _ (List.mem_of_getElem? (i := 26) rfl), by decide +kernel⟩, fun h => absurd h (by decide), fun h => absurd h (by decide), fun h => absurd h (by decide), fun h => absurd h (by decide)⟩
theorem zo_C4_19 : zt_okC (4, 19, 0, 93) := ⟨fun _ => ⟨_, zM_X4_pack, zo_M93, zt_in_za_14 _ (List.mem_of_getElem? (i := 27) rfl), zt_in_za_14 _ (List.mem_of_getElem? (i := 28) rfl), zt_in_za_14 _ (List.mem_of_getElem? (i := 29) rfl), by decide +kernel, _, rfl, rfl⟩, fun h => absurd h (by decide), fun h => absurd h (by decide), fun h => absurd h (by decide), fun h => absurd h (by decide), fun h => absurd h (by decide)⟩
theorem zo_C4_27 : zt_okC (4, 27, 1, 89) := ⟨fun h => absurd h (by decide), fun _ => ⟨_, zM_X4_copy, zo_M89, Or.inl (zt_in_za_15 _ (List.mem_of_getElem? (i := 0) rfl)), zt_in_za_15 _ (List.mem_of_getElem? (i := 1) rfl), by decide +kernel⟩, fun h => absurd h (by decide), fun h => absurd h (by decide), fun h => absurd h (by decide), fun h => absurd h (by decide)⟩
theorem zo_C4_32 : zt_okC (4, 32, 0, 38) := ⟨fun _ => ⟨_, zM_X1_putByte, zo_M38, zt_in_za_15 _ (List.mem_of_getElem? (i := 2) rfl), zt_in_za_8 _ (List.mem_of_getElem? (i := 24) rfl), zt_in_za_8 _ (List.mem_of_getElem? (i := 25) rfl), by decide +kernel, _, rfl, rfl⟩, fun h => absurd h (by decide), fun h => absurd h (by decide), fun h => absurd h (by decide), fun h => absurd h (by decide), fun h => absurd h (by decide)⟩
theorem zo_C4_38 : zt_okC (4, 38, 1, 94) := ⟨fun h => absurd h (by decide), fun _ => ⟨_, zM_X4_runAt, zo_M94, Or.inl (zt_in_za_15 _ (List.mem_of_getElem? (i := 3) rfl)), zt_in_za_15 _ (List.mem_of_getElem? (i := 4) rfl), by decide +kernel⟩, fun h => absurd h (by decide), fun h => absurd h (by decide), fun h => absurd h (by decide), fun h => absurd h (by decide)⟩
theorem zo_C4_42 : zt_okC (4, 42, 0, 88) := ⟨fun _ => ⟨_, zM_X4_addPacked, zo_M88, zt_in_za_15 _ (List.mem_of_getElem? (i := 5) rfl), zt_in_za_15 _ (List.mem_of_getElem? (i := 6) rfl), zt_in_za_15 _ (List.mem_of_getElem? (i := 7) rfl), by decide +kernel, _, rfl, rfl⟩, fun h => absurd h (by decide), fun h => absurd h (by decide), fun h => absurd h (by decide), fun h => absurd h (by decide), fun h => absurd h (by decide)⟩
theorem zo_C4_45 : zt_okC (4, 45, 1, 92) := ⟨fun h => absurd h (by decide), fun _ => ⟨_, zM_X4_nextRun, zo_M92, Or.inl (zt_in_za_15 _ (List.mem_of_getElem? (i := 8) rfl)), zt_in_za_15 _ (List.mem_of_getElem? (i := 9) rfl), by decide +kernel⟩, fun h => absurd h (by decide), fun h => absurd h (by decide), fun h => absurd h (by decide), fun h => absurd h (by decide)⟩
theorem zo_C5_3 : zt_okC (5, 3, 3, 0) := ⟨fun h => absurd h (by decide), fun h => absurd h (by decide), fun h => absurd h (by decide), fun _ => zt_in_za_15 _ (List.mem_of_getElem? (i := 10) rfl), fun h => absurd h (by decide), fun h => absurd h (by decide)⟩
theorem zo_C5_39 : zt_okC (5, 39, 0, 105) := ⟨fun _ => ⟨_, zM_X5_reset, zo_M105, zt_in_za_15 _ (List.mem_of_getElem? (i := 11) rfl), zt_in_za_15 _ (List.mem_of_getElem? (i := 12) rfl), zt_in_za_15 _ (List.mem_of_getElem? (i := 13) rfl), by decide +kernel, _, rfl, rfl⟩, fun h => absurd h (by decide), fun h => absurd h (by decide), fun h => absurd h (by decide), fun h => absurd h (by decide), fun h => absurd h (by decide)⟩
theorem zo_C5_49 : zt_okC (5, 49, 0, 106) := ⟨fun _ => ⟨_, zM_X5_startNode, zo_M106, zt_in_za_15 _ (List.mem_of_getElem? (i := 14) rfl), zt_in_za_15 _ (List.mem_of_getElem? (i := 15) rfl), zt_in_za_15 _ (List.mem_of_getElem? (i := 16) rfl), by decide +kernel, _, rfl, rfl⟩, fun h => absurd h (by decide), fun h => absurd h (by decide), fun h => absurd h (by decide), fun h => absurd h (by decide), fun h => absurd h (by decide)⟩
theorem zo_C5_53 : zt_okC (5, 53, 0, 99) := ⟨fun _ => ⟨_, zM_X5_firstFrom, zo_M99, zt_in_za_15 _ (List.mem_of_getElem? (i := 17) rfl), zt_in_za_15 _ (List.mem_of_getElem? (i := 18) rfl), zt_in_za_15 _ (List.mem_of_getElem? (i := 19) rfl), by decide +kernel, _, rfl, rfl⟩, fun h => absurd h (by decide), fun h => absurd h (by decide), fun h => absurd h (by decide), fun h => absurd h (by decide), fun h => absurd h (by decide)⟩
theorem zo_C5_57 : zt_okC (5, 57, 0, 96) := ⟨fun _ => ⟨_, zM_X5_addName, zo_M96, zt_in_za_15 _ (List.mem_of_getElem? (i := 20) rfl), zt_in_za_15 _ (List.mem_of_getElem? (i := 21) rfl), zt_in_za_15 _ (List.mem_of_getElem? (i := 22) rfl), by decide +kernel, _, rfl, rfl⟩, fun h => absurd h (by decide), fun h => absurd h (by decide), fun h => absurd h (by decide), fun h => absurd h (by decide), fun h => absurd h (by decide)⟩
theorem zo_C5_61 : zt_okC (5, 61, 1, 1) := ⟨fun h => absurd h (by decide), fun _ => ⟨_, zM_J7_fill_fda19, zo_M1, Or.inl (zt_in_za_15 _ (List.mem_of_getElem? (i := 23) rfl)), zt_in_za_15 _ (List.mem_of_getElem? (i := 24) rfl), by decide +kernel⟩, fun h => absurd h (by decide), fun h => absurd h (by decide), fun h => absurd h (by decide), fun h => absurd h (by decide)⟩
theorem zo_C6_3 : zt_okC (6, 3, 3, 0) := ⟨fun h => absurd h (by decide), fun h => absurd h (by decide), fun h => absurd h (by decide), fun _ => zt_in_za_15 _ (List.mem_of_getElem? (i := 25) rfl), fun h => absurd h (by decide), fun h => absurd h (by decide)⟩
theorem zo_C6_11 : zt_okC (6, 11, 2, 103) := ⟨fun h => absurd h (by decide), fun h => absurd h (by decide), fun _ => ⟨_, zM_X5_init, zo_M103, Or.inl (zt_in_za_15 _ (List.mem_of_getElem? (i := 26) rfl)), zt_in_za_15 _ (List.mem_of_getElem? (i := 27) rfl), rfl, rfl, by decide +kernel⟩, fun h => absurd h (by decide), fun h => absurd h (by decide), fun h => absurd h (by decide)⟩
theorem zo_C6_22 : zt_okC (6, 22, 2, 29) := ⟨fun h => absurd h (by decide), fun h => absurd h (by decide), fun _ => ⟨_, zM_X1_init, zo_M29, Or.inl (zt_in_za_15 _ (List.mem_of_getElem? (i := 28) rfl)), zt_in_za_13 _ (List.mem_of_getElem? (i := 6) rfl), rfl, rfl, by decide +kernel⟩, fun h => absurd h (by decide), fun h => absurd h (by decide), fun h => absurd h (by decide)⟩
theorem zo_C6_31 : zt_okC (6, 31, 2, 8) := ⟨fun h => absurd h (by decide), fun h => absurd h (by decide), fun _ => ⟨_, zM_X0_init, zo_M8, Or.inr (List.mem_of_getElem? (i := 2) rfl), zt_in_za_15 _ (List.mem_of_getElem? (i := 29) rfl), rfl, rfl, by decide +kernel⟩, fun h => absurd h (by decide), fun h => absurd h (by decide), fun h => absurd h (by decide)⟩
theorem zo_C6_38 : zt_okC (6, 38, 2, 60) := ⟨fun h => absurd h (by decide), fun h => absurd h (by decide), fun _ => ⟨_, zM_X2_init, zo_M60, Or.inr (List.mem_of_getElem? (i := 3) rfl), zt_in_za_16 _ (List.mem_of_getElem? (i := 0) rfl), rfl, rfl, by decide +kernel⟩, fun h => absurd h (by decide), fun h => absurd h (by decide), fun h => absurd h (by decide)⟩
theorem zo_C6_45 : zt_okC (6, 45, 2, 73) := ⟨fun h => absurd h (by decide), fun h => absurd h (by decide), fun _ => ⟨_, zM_X3_init, zo_M73, Or.inl (zt_in_za_16 _ (List.mem_of_getElem? (i := 1) rfl)), zt_in_za_16 _ (List.mem_of_getElem? (i := 2) rfl), rfl, rfl, by decide +kernel⟩, fun h => absurd h (by decide), fun h => absurd h (by decide), fun h => absurd h (by decide)⟩
theorem zo_C6_50 : zt_okC (6, 50, 0, 108) := ⟨fun _ => ⟨_, zM_X6_addBelow, zo_M108, zt_in_za_16 _ (List.mem_of_getElem? (i := 3) rfl), zt_in_za_16 _ (List.mem_of_getElem? (i := 4) rfl), zt_in_za_16 _ (List.mem_of_getElem? (i := 5) rfl), by decide +kernel, _, rfl, rfl⟩, fun h => absurd h (by decide), fun h => absurd h (by decide), fun h => absurd h (by decide), fun h => absurd h (by decide), fun h => absurd h (by decide)⟩
theorem zo_C6_54 : zt_okC (6, 54, 0, 101) := ⟨fun _ => ⟨_, zM_X5_hasNode, zo_M101, zt_in_za_16 _ (List.mem_of_getElem? (i := 6) rfl), zt_in_za_16 _ (List.mem_of_getElem? (i := 7) rfl), zt_in_za_16 _ (List.mem_of_getElem? (i := 8) rfl), by decide +kernel, _, rfl, rfl⟩, fun h => absurd h (by decide), fun h => absurd h (by decide), fun h => absurd h (by decide), fun h => absurd h (by decide), fun h => absurd h (by decide)⟩
theorem zo_C6_58 : zt_okC (6, 58, 1, 124) := ⟨fun h => absurd h (by decide), fun _ => ⟨_, zM_X6_isName, zo_M124, Or.inl (zt_in_za_16 _ (List.mem_of_getElem? (i := 9) rfl)), zt_in_za_16 _ (List.mem_of_getElem? (i := 10) rfl), by decide +kernel⟩, fun h => absurd h (by decide), fun h => absurd h (by decide), fun h => absurd h (by decide), fun h => absurd h (by decide)⟩
theorem zo_C6_61 : zt_okC (6, 61, 0, 107) := ⟨fun _ => ⟨_, zM_X5_takesName, zo_M107, zt_in_za_16 _ (List.mem_of_getElem? (i := 11) rfl), zt_in_za_16 _ (List.mem_of_getElem? (i := 12) rfl), zt_in_za_16 _ (List.mem_of_getElem? (i := 13) rfl), by decide +kernel, _, rfl, rfl⟩, fun h => absurd h (by decide), fun h => absurd h (by decide), fun h => absurd h (by decide), fun h => absurd h (by decide), fun h => absurd h (by decide)⟩
theorem zo_C6_72 : zt_okC (6, 72, 0, 96) := ⟨fun _ => ⟨_, zM_X5_addName, zo_M96, zt_in_za_16 _ (List.mem_of_getElem? (i := 14) rfl), zt_in_za_15 _ (List.mem_of_getElem? (i := 21) rfl), zt_in_za_15 _ (List.mem_of_getElem? (i := 22) rfl), by decide +kernel, _, rfl, rfl⟩, fun h => absurd h (by decide), fun h => absurd h (by decide), fun h => absurd h (by decide), fun h => absurd h (by decide), fun h => absurd h (by decide)⟩
theorem zo_C6_78 : zt_okC (6, 78, 0, 98) := ⟨fun _ => ⟨_, zM_X5_append, zo_M98, zt_in_za_16 _ (List.mem_of_getElem? (i := 15) rfl), zt_in_za_16 _ (List.mem_of_getElem? (i := 16) rfl), zt_in_za_16 _ (List.mem_of_getElem? (i := 17) rfl), by decide +kernel, _, rfl, rfl⟩, fun h => absurd h (by decide), fun h => absurd h (by decide), fun h => absurd h (by decide), fun h => absurd h (by decide), fun h => absurd h (by decide)⟩
theorem zo_C6_81 : zt_okC (6, 81, 1, 125) := ⟨fun h => absurd h (by decide), fun _ => ⟨_, zM_X6_isWord, zo_M125, Or.inl (zt_in_za_16 _ (List.mem_of_getElem? (i := 18) rfl)), zt_in_za_16 _ (List.mem_of_getElem? (i := 19) rfl), by decide +kernel⟩, fun h => absurd h (by decide), fun h => absurd h (by decide), fun h => absurd h (by decide), fun h => absurd h (by decide)⟩
theorem zo_C6_94 : zt_okC (6, 94, 0, 105) := ⟨fun _ => ⟨_, zM_X5_reset, zo_M105, zt_in_za_16 _ (List.mem_of_getElem? (i := 20) rfl), zt_in_za_15 _ (List.mem_of_getElem? (i := 12) rfl), zt_in_za_15 _ (List.mem_of_getElem? (i := 13) rfl), by decide +kernel, _, rfl, rfl⟩, fun h => absurd h (by decide), fun h => absurd h (by decide), fun h => absurd h (by decide), fun h => absurd h (by decide), fun h => absurd h (by decide)⟩
theorem zo_C6_97 : zt_okC (6, 97, 1, 123) := ⟨fun h => absurd h (by decide), fun _ => ⟨_, zM_X6_isBlock, zo_M123, Or.inl (zt_in_za_16 _ (List.mem_of_getElem? (i := 21) rfl)), zt_in_za_11 _ (List.mem_of_getElem? (i := 25) rfl), by decide +kernel⟩, fun h => absurd h (by decide), fun h => absurd h (by decide), fun h => absurd h (by decide), fun h => absurd h (by decide)⟩
theorem zo_C6_103 : zt_okC (6, 103, 0, 3) := ⟨fun _ => ⟨_, zM_X0_become, zo_M3, zt_in_za_16 _ (List.mem_of_getElem? (i := 22) rfl), zt_in_za_16 _ (List.mem_of_getElem? (i := 23) rfl), zt_in_za_16 _ (List.mem_of_getElem? (i := 24) rfl), by decide +kernel, _, rfl, rfl⟩, fun h => absurd h (by decide), fun h => absurd h (by decide), fun h => absurd h (by decide), fun h => absurd h (by decide), fun h => absurd h (by decide)⟩
theorem zo_C6_110 : zt_okC (6, 110, 0, 39) := ⟨fun _ => ⟨_, zM_X1_putInt, zo_M39, zt_in_za_16 _ (List.mem_of_getElem? (i := 25) rfl), zt_in_za_16 _ (List.mem_of_getElem? (i := 26) rfl), zt_in_za_16 _ (List.mem_of_getElem? (i := 27) rfl), by decide +kernel, _, rfl, rfl⟩, fun h => absurd h (by decide), fun h => absurd h (by decide), fun h => absurd h (by decide), fun h => absurd h (by decide), fun h => absurd h (by decide)⟩
theorem zo_C6_113 : zt_okC (6, 113, 0, 59) := ⟨fun _ => ⟨_, zM_X2_firstFault, zo_M59, zt_in_za_16 _ (List.mem_of_getElem? (i := 28) rfl), zt_in_za_16 _ (List.mem_of_getElem? (i := 29) rfl), zt_in_za_17 _ (List.mem_of_getElem? (i := 0) rfl), by decide +kernel, _, rfl, rfl⟩, fun h => absurd h (by decide), fun h => absurd h (by decide), fun h => absurd h (by decide), fun h => absurd h (by decide), fun h => absurd h (by decide)⟩
theorem zo_C6_117 : zt_okC (6, 117, 0, 23) := ⟨fun _ => ⟨_, zM_X1_copyFrom, zo_M23, zt_in_za_17 _ (List.mem_of_getElem? (i := 1) rfl), zt_in_za_17 _ (List.mem_of_getElem? (i := 2) rfl), zt_in_za_17 _ (List.mem_of_getElem? (i := 3) rfl), by decide +kernel, _, rfl, rfl⟩, fun h => absurd h (by decide), fun h => absurd h (by decide), fun h => absurd h (by decide), fun h => absurd h (by decide), fun h => absurd h (by decide)⟩
theorem zo_C6_121 : zt_okC (6, 121, 0, 74) := ⟨fun _ => ⟨_, zM_X3_isLaid, zo_M74, zt_in_za_17 _ (List.mem_of_getElem? (i := 4) rfl), zt_in_za_17 _ (List.mem_of_getElem? (i := 5) rfl), zt_in_za_17 _ (List.mem_of_getElem? (i := 6) rfl), by decide +kernel, _, rfl, rfl⟩, fun h => absurd h (by decide), fun h => absurd h (by decide), fun h => absurd h (by decide), fun h => absurd h (by decide), fun h => absurd h (by decide)⟩
theorem zo_C6_124 : zt_okC (6, 124, 0, 119) := ⟨fun _ => ⟨_, zM_X6_hasImage, zo_M119, zt_in_za_17 _ (List.mem_of_getElem? (i := 7) rfl), zt_in_za_17 _ (List.mem_of_getElem? (i := 8) rfl), zt_in_za_17 _ (List.mem_of_getElem? (i := 9) rfl), by decide +kernel, _, rfl, rfl⟩, fun h => absurd h (by decide), fun h => absurd h (by decide), fun h => absurd h (by decide), fun h => absurd h (by decide), fun h => absurd h (by decide)⟩
theorem zo_C6_130 : zt_okC (6, 130, 0, 21) := ⟨fun _ => ⟨_, zM_X1_byteAt, zo_M21, zt_in_za_17 _ (List.mem_of_getElem? (i := 10) rfl), zt_in_za_10 _ (List.mem_of_getElem? (i := 2) rfl), zt_in_za_10 _ (List.mem_of_getElem? (i := 3) rfl), by decide +kernel, _, rfl, rfl⟩, fun h => absurd h (by decide), fun h => absurd h (by decide), fun h => absurd h (by decide), fun h => absurd h (by decide), fun h => absurd h (by decide)⟩
theorem zo_C6_140 : zt_okC (6, 140, 0, 47) := ⟨fun _ => ⟨_, zM_X1_tailBlocks, zo_M47, zt_in_za_17 _ (List.mem_of_getElem? (i := 11) rfl), zt_in_za_11 _ (List.mem_of_getElem? (i := 27) rfl), zt_in_za_11 _ (List.mem_of_getElem? (i := 28) rfl), by decide +kernel, _, rfl, rfl⟩, fun h => absurd h (by decide), fun h => absurd h (by decide), fun h => absurd h (by decide), fun h => absurd h (by decide), fun h => absurd h (by decide)⟩
theorem zo_C6_147 : zt_okC (6, 147, 0, 26) := ⟨fun _ => ⟨_, zM_X1_hasBytesOf, zo_M26, zt_in_za_17 _ (List.mem_of_getElem? (i := 12) rfl), zt_in_za_17 _ (List.mem_of_getElem? (i := 13) rfl), zt_in_za_17 _ (List.mem_of_getElem? (i := 14) rfl), by decide +kernel, _, rfl, rfl⟩, fun h => absurd h (by decide), fun h => absurd h (by decide), fun h => absurd h (by decide), fun h => absurd h (by decide), fun h => absurd h (by decide)⟩
theorem zo_C6_151 : zt_okC (6, 151, 0, 27) := ⟨fun _ => ⟨_, zM_X1_hasNumber, zo_M27, zt_in_za_17 _ (List.mem_of_getElem? (i := 15) rfl), zt_in_za_12 _ (List.mem_of_getElem? (i := 20) rfl), zt_in_za_12 _ (List.mem_of_getElem? (i := 21) rfl), by decide +kernel, _, rfl, rfl⟩, fun h => absurd h (by decide), fun h => absurd h (by decide), fun h => absurd h (by decide), fun h => absurd h (by decide), fun h => absurd h (by decide)⟩
theorem zo_C6_154 : zt_okC (6, 154, 0, 30) := ⟨fun _ => ⟨_, zM_X1_kindOf, zo_M30, zt_in_za_17 _ (List.mem_of_getElem? (i := 16) rfl), zt_in_za_12 _ (List.mem_of_getElem? (i := 13) rfl), zt_in_za_12 _ (List.mem_of_getElem? (i := 14) rfl), by decide +kernel, _, rfl, rfl⟩, fun h => absurd h (by decide), fun h => absurd h (by decide), fun h => absurd h (by decide), fun h => absurd h (by decide), fun h => absurd h (by decide)⟩
theorem zo_C6_157 : zt_okC (6, 157, 0, 31) := ⟨fun _ => ⟨_, zM_X1_modeOf, zo_M31, zt_in_za_17 _ (List.mem_of_getElem? (i := 17) rfl), zt_in_za_13 _ (List.mem_of_getElem? (i := 18) rfl), zt_in_za_13 _ (List.mem_of_getElem? (i := 19) rfl), by decide +kernel, _, rfl, rfl⟩, fun h => absurd h (by decide), fun h => absurd h (by decide), fun h => absurd h (by decide), fun h => absurd h (by decide), fun h => absurd h (by decide)⟩
theorem zo_C6_160 : zt_okC (6, 160, 0, 36) := ⟨fun _ => ⟨_, zM_X1_ownerOf, zo_M36, zt_in_za_17 _ (List.mem_of_getElem? (i := 18) rfl), zt_in_za_13 _ (List.mem_of_getElem? (i := 21) rfl), zt_in_za_13 _ (List.mem_of_getElem? (i := 22) rfl), by decide +kernel, _, rfl, rfl⟩, fun h => absurd h (by decide), fun h => absurd h (by decide), fun h => absurd h (by decide), fun h => absurd h (by decide), fun h => absurd h (by decide)⟩
theorem zo_C6_163 : zt_okC (6, 163, 0, 32) := ⟨fun _ => ⟨_, zM_X1_namesOf, zo_M32, zt_in_za_17 _ (List.mem_of_getElem? (i := 19) rfl), zt_in_za_12 _ (List.mem_of_getElem? (i := 23) rfl), zt_in_za_12 _ (List.mem_of_getElem? (i := 24) rfl), by decide +kernel, _, rfl, rfl⟩, fun h => absurd h (by decide), fun h => absurd h (by decide), fun h => absurd h (by decide), fun h => absurd h (by decide), fun h => absurd h (by decide)⟩
theorem zo_C6_166 : zt_okC (6, 166, 0, 44) := ⟨fun _ => ⟨_, zM_X1_sizeOf, zo_M44, zt_in_za_17 _ (List.mem_of_getElem? (i := 20) rfl), zt_in_za_10 _ (List.mem_of_getElem? (i := 14) rfl), zt_in_za_10 _ (List.mem_of_getElem? (i := 15) rfl), by decide +kernel, _, rfl, rfl⟩, fun h => absurd h (by decide), fun h => absurd h (by decide), fun h => absurd h (by decide), fun h => absurd h (by decide), fun h => absurd h (by decide)⟩
theorem zo_C6_169 : zt_okC (6, 169, 0, 76) := ⟨fun _ => ⟨_, zM_X3_lay, zo_M76, zt_in_za_17 _ (List.mem_of_getElem? (i := 21) rfl), zt_in_za_17 _ (List.mem_of_getElem? (i := 22) rfl), zt_in_za_17 _ (List.mem_of_getElem? (i := 23) rfl), by decide +kernel, _, rfl, rfl⟩, fun h => absurd h (by decide), fun h => absurd h (by decide), fun h => absurd h (by decide), fun h => absurd h (by decide), fun h => absurd h (by decide)⟩
theorem zo_C6_173 : zt_okC (6, 173, 0, 86) := ⟨fun _ => ⟨_, zM_X3_takeAway, zo_M86, zt_in_za_17 _ (List.mem_of_getElem? (i := 24) rfl), zt_in_za_17 _ (List.mem_of_getElem? (i := 25) rfl), zt_in_za_17 _ (List.mem_of_getElem? (i := 26) rfl), by decide +kernel, _, rfl, rfl⟩, fun h => absurd h (by decide), fun h => absurd h (by decide), fun h => absurd h (by decide), fun h => absurd h (by decide), fun h => absurd h (by decide)⟩
theorem zo_C6_176 : zt_okC (6, 176, 0, 71) := ⟨fun _ => ⟨_, zM_X3_hasView, zo_M71, zt_in_za_17 _ (List.mem_of_getElem? (i := 27) rfl), zt_in_za_17 _ (List.mem_of_getElem? (i := 28) rfl), zt_in_za_17 _ (List.mem_of_getElem? (i := 29) rfl), by decide +kernel, _, rfl, rfl⟩, fun h => absurd h (by decide), fun h => absurd h (by decide), fun h => absurd h (by decide), fun h => absurd h (by decide), fun h => absurd h (by decide)⟩
theorem zo_C6_179 : zt_okC (6, 179, 0, 75) := ⟨fun _ => ⟨_, zM_X3_kindOf, zo_M75, zt_in_za_18 _ (List.mem_of_getElem? (i := 0) rfl), zt_in_za_13 _ (List.mem_of_getElem? (i := 24) rfl), zt_in_za_13 _ (List.mem_of_getElem? (i := 25) rfl), by decide +kernel, _, rfl, rfl⟩, fun h => absurd h (by decide), fun h => absurd h (by decide), fun h => absurd h (by decide), fun h => absurd h (by decide), fun h => absurd h (by decide)⟩
theorem zo_C6_180 : zt_okC (6, 180, 0, 77) := ⟨fun _ => ⟨_, zM_X3_lead, zo_M77, zt_in_za_18 _ (List.mem_of_getElem? (i := 1) rfl), zt_in_za_18 _ (List.mem_of_getElem? (i := 2) rfl), zt_in_za_18 _ (List.mem_of_getElem? (i := 3) rfl), by decide +kernel, _, rfl, rfl⟩, fun h => absurd h (by decide), fun h => absurd h (by decide), fun h => absurd h (by decide), fun h => absurd h (by decide), fun h => absurd h (by decide)⟩
theorem zo_C6_184 : zt_okC (6, 184, 0, 79) := ⟨fun _ => ⟨_, zM_X3_nameBelow, zo_M79, zt_in_za_18 _ (List.mem_of_getElem? (i := 4) rfl), zt_in_za_13 _ (List.mem_of_getElem? (i := 28) rfl), zt_in_za_13 _ (List.mem_of_getElem? (i := 29) rfl), by decide +kernel, _, rfl, rfl⟩, fun h => absurd h (by decide), fun h => absurd h (by decide), fun h => absurd h (by decide), fun h => absurd h (by decide), fun h => absurd h (by decide)⟩
theorem zo_C6_187 : zt_okC (6, 187, 0, 72) := ⟨fun _ => ⟨_, zM_X3_imageOf, zo_M72, zt_in_za_18 _ (List.mem_of_getElem? (i := 5) rfl), zt_in_za_18 _ (List.mem_of_getElem? (i := 6) rfl), zt_in_za_18 _ (List.mem_of_getElem? (i := 7) rfl), by decide +kernel, _, rfl, rfl⟩, fun h => absurd h (by decide), fun h => absurd h (by decide), fun h => absurd h (by decide), fun h => absurd h (by decide), fun h => absurd h (by decide)⟩
theorem zo_C6_190 : zt_okC (6, 190, 0, 81) := ⟨fun _ => ⟨_, zM_X3_numberOf, zo_M81, zt_in_za_18 _ (List.mem_of_getElem? (i := 8) rfl), zt_in_za_13 _ (List.mem_of_getElem? (i := 14) rfl), zt_in_za_13 _ (List.mem_of_getElem? (i := 15) rfl), by decide +kernel, _, rfl, rfl⟩, fun h => absurd h (by decide), fun h => absurd h (by decide), fun h => absurd h (by decide), fun h => absurd h (by decide), fun h => absurd h (by decide)⟩
theorem zo_C6_193 : zt_okC (6, 193, 0, 84) := ⟨fun _ => ⟨_, zM_X3_sizeOf, zo_M84, zt_in_za_18 _ (List.mem_of_getElem? (i := 9) rfl), zt_in_za_18 _ (List.mem_of_getElem? (i := 10) rfl), zt_in_za_18 _ (List.mem_of_getElem? (i := 11) rfl), by decide +kernel, _, rfl, rfl⟩, fun h => absurd h (by decide), fun h => absurd h (by decide), fun h => absurd h (by decide), fun h => absurd h (by decide), fun h => absurd h (by decide)⟩
theorem zo_C6_194 : zt_okC (6, 194, 0, 78) := ⟨fun _ => ⟨_, zM_X3_modeOf, zo_M78, zt_in_za_18 _ (List.mem_of_getElem? (i := 12) rfl), zt_in_za_18 _ (List.mem_of_getElem? (i := 13) rfl), zt_in_za_18 _ (List.mem_of_getElem? (i := 14) rfl), by decide +kernel, _, rfl, rfl⟩, fun h => absurd h (by decide), fun h => absurd h (by decide), fun h => absurd h (by decide), fun h => absurd h (by decide), fun h => absurd h (by decide)⟩
theorem zo_C6_195 : zt_okC (6, 195, 0, 82) := ⟨fun _ => ⟨_, zM_X3_ownerOf, zo_M82, zt_in_za_18 _ (List.mem_of_getElem? (i := 15) rfl), zt_in_za_18 _ (List.mem_of_getElem? (i := 16) rfl), zt_in_za_18 _ (List.mem_of_getElem? (i := 17) rfl), by decide +kernel, _, rfl, rfl⟩, fun h => absurd h (by decide), fun h => absurd h (by decide), fun h => absurd h (by decide), fun h => absurd h (by decide), fun h => absurd h (by decide)⟩
theorem zo_C6_196 : zt_okC (6, 196, 0, 69) := ⟨fun _ => ⟨_, zM_X3_depthOf, zo_M69, zt_in_za_18 _ (List.mem_of_getElem? (i := 18) rfl), zt_in_za_18 _ (List.mem_of_getElem? (i := 19) rfl), zt_in_za_18 _ (List.mem_of_getElem? (i := 20) rfl), by decide +kernel, _, rfl, rfl⟩, fun h => absurd h (by decide), fun h => absurd h (by decide), fun h => absurd h (by decide), fun h => absurd h (by decide), fun h => absurd h (by decide)⟩
theorem zo_C6_199 : zt_okC (6, 199, 0, 68) := ⟨fun _ => ⟨_, zM_X3_byteOf, zo_M68, zt_in_za_18 _ (List.mem_of_getElem? (i := 21) rfl), zt_in_za_18 _ (List.mem_of_getElem? (i := 22) rfl), zt_in_za_18 _ (List.mem_of_getElem? (i := 23) rfl), by decide +kernel, _, rfl, rfl⟩, fun h => absurd h (by decide), fun h => absurd h (by decide), fun h => absurd h (by decide), fun h => absurd h (by decide), fun h => absurd h (by decide)⟩
theorem zo_C6_208 : zt_okC (6, 208, 0, 97) := ⟨fun _ => ⟨_, zM_X5_addNode, zo_M97, zt_in_za_18 _ (List.mem_of_getElem? (i := 24) rfl), zt_in_za_18 _ (List.mem_of_getElem? (i := 25) rfl), zt_in_za_18 _ (List.mem_of_getElem? (i := 26) rfl), by decide +kernel, _, rfl, rfl⟩, fun h => absurd h (by decide), fun h => absurd h (by decide), fun h => absurd h (by decide), fun h => absurd h (by decide), fun h => absurd h (by decide)⟩
theorem zo_C7_1 : zt_okC (7, 1, 3, 0) := ⟨fun h => absurd h (by decide), fun h => absurd h (by decide), fun h => absurd h (by decide), fun _ => zt_in_za_18 _ (List.mem_of_getElem? (i := 27) rfl), fun h => absurd h (by decide), fun h => absurd h (by decide)⟩
theorem zo_C7_101 : zt_okC (7, 101, 1, 160) := ⟨fun h => absurd h (by decide), fun _ => ⟨_, zM_X7_in, zo_M160, Or.inl (zt_in_za_18 _ (List.mem_of_getElem? (i := 28) rfl)), zt_in_za_18 _ (List.mem_of_getElem? (i := 29) rfl), by decide +kernel⟩, fun h => absurd h (by decide), fun h => absurd h (by decide), fun h => absurd h (by decide), fun h => absurd h (by decide)⟩
theorem zo_C7_108 : zt_okC (7, 108, 0, 167) := ⟨fun _ => ⟨_, zM_X7_isNode, zo_M167, zt_in_za_19 _ (List.mem_of_getElem? (i := 0) rfl), zt_in_za_19 _ (List.mem_of_getElem? (i := 1) rfl), zt_in_za_19 _ (List.mem_of_getElem? (i := 2) rfl), by decide +kernel, _, rfl, rfl⟩, fun h => absurd h (by decide), fun h => absurd h (by decide), fun h => absurd h (by decide), fun h => absurd h (by decide), fun h => absurd h (by decide)⟩
theorem zo_C7_112 : zt_okC (7, 112, 0, 169) := ⟨fun _ => ⟨_, zM_X7_isThere, zo_M169, zt_in_za_19 _ (List.mem_of_getElem? (i := 3) rfl), zt_in_za_19 _ (List.mem_of_getElem? (i := 4) rfl), zt_in_za_19 _ (List.mem_of_getElem? (i := 5) rfl), by decide +kernel, _, rfl, rfl⟩, fun h => absurd h (by decide), fun h => absurd h (by decide), fun h => absurd h (by decide), fun h => absurd h (by decide), fun h => absurd h (by decide)⟩
theorem zo_C7_116 : zt_okC (7, 116, 0, 182) := ⟨fun _ => ⟨_, zM_X7_nameIt, zo_M182, zt_in_za_19 _ (List.mem_of_getElem? (i := 6) rfl), zt_in_za_19 _ (List.mem_of_getElem? (i := 7) rfl), zt_in_za_19 _ (List.mem_of_getElem? (i := 8) rfl), by decide +kernel, _, rfl, rfl⟩, fun h => absurd h (by decide), fun h => absurd h (by decide), fun h => absurd h (by decide), fun h => absurd h (by decide), fun h => absurd h (by decide)⟩
theorem zo_C7_120 : zt_okC (7, 120, 0, 147) := ⟨fun _ => ⟨_, zM_X7_comes, zo_M147, zt_in_za_19 _ (List.mem_of_getElem? (i := 9) rfl), zt_in_za_19 _ (List.mem_of_getElem? (i := 10) rfl), zt_in_za_19 _ (List.mem_of_getElem? (i := 11) rfl), by decide +kernel, _, rfl, rfl⟩, fun h => absurd h (by decide), fun h => absurd h (by decide), fun h => absurd h (by decide), fun h => absurd h (by decide), fun h => absurd h (by decide)⟩
theorem zo_C7_124 : zt_okC (7, 124, 0, 185) := ⟨fun _ => ⟨_, zM_X7_namesOf, zo_M185, zt_in_za_19 _ (List.mem_of_getElem? (i := 12) rfl), zt_in_za_19 _ (List.mem_of_getElem? (i := 13) rfl), zt_in_za_19 _ (List.mem_of_getElem? (i := 14) rfl), by decide +kernel, _, rfl, rfl⟩, fun h => absurd h (by decide), fun h => absurd h (by decide), fun h => absurd h (by decide), fun h => absurd h (by decide), fun h => absurd h (by decide)⟩
theorem zo_C7_135 : zt_okC (7, 135, 0, 203) := ⟨fun _ => ⟨_, zM_X7_tell, zo_M203, zt_in_za_19 _ (List.mem_of_getElem? (i := 15) rfl), zt_in_za_19 _ (List.mem_of_getElem? (i := 16) rfl), zt_in_za_19 _ (List.mem_of_getElem? (i := 17) rfl), by decide +kernel, _, rfl, rfl⟩, fun h => absurd h (by decide), fun h => absurd h (by decide), fun h => absurd h (by decide), fun h => absurd h (by decide), fun h => absurd h (by decide)⟩
theorem zo_C7_145 : zt_okC (7, 145, 0, 187) := ⟨fun _ => ⟨_, zM_X7_nextName, zo_M187, zt_in_za_19 _ (List.mem_of_getElem? (i := 18) rfl), zt_in_za_19 _ (List.mem_of_getElem? (i := 19) rfl), zt_in_za_19 _ (List.mem_of_getElem? (i := 20) rfl), by decide +kernel, _, rfl, rfl⟩, fun h => absurd h (by decide), fun h => absurd h (by decide), fun h => absurd h (by decide), fun h => absurd h (by decide), fun h => absurd h (by decide)⟩
theorem zo_C7_152 : zt_okC (7, 152, 0, 137) := ⟨fun _ => ⟨_, zM_X7_alike, zo_M137, zt_in_za_19 _ (List.mem_of_getElem? (i := 21) rfl), zt_in_za_19 _ (List.mem_of_getElem? (i := 22) rfl), zt_in_za_19 _ (List.mem_of_getElem? (i := 23) rfl), by decide +kernel, _, rfl, rfl⟩, fun h => absurd h (by decide), fun h => absurd h (by decide), fun h => absurd h (by decide), fun h => absurd h (by decide), fun h => absurd h (by decide)⟩
theorem zo_C7_155 : zt_okC (7, 155, 0, 196) := ⟨fun _ => ⟨_, zM_X7_pack, zo_M196, zt_in_za_19 _ (List.mem_of_getElem? (i := 24) rfl), zt_in_za_19 _ (List.mem_of_getElem? (i := 25) rfl), zt_in_za_19 _ (List.mem_of_getElem? (i := 26) rfl), by decide +kernel, _, rfl, rfl⟩, fun h => absurd h (by decide), fun h => absurd h (by decide), fun h => absurd h (by decide), fun h => absurd h (by decide), fun h => absurd h (by decide)⟩
theorem zo_C7_159 : zt_okC (7, 159, 0, 168) := ⟨fun _ => ⟨_, zM_X7_isSameFile, zo_M168, zt_in_za_19 _ (List.mem_of_getElem? (i := 27) rfl), zt_in_za_19 _ (List.mem_of_getElem? (i := 28) rfl), zt_in_za_19 _ (List.mem_of_getElem? (i := 29) rfl), by decide +kernel, _, rfl, rfl⟩, fun h => absurd h (by decide), fun h => absurd h (by decide), fun h => absurd h (by decide), fun h => absurd h (by decide), fun h => absurd h (by decide)⟩
theorem zo_C7_162 : zt_okC (7, 162, 0, 200) := ⟨fun _ => ⟨_, zM_X7_store, zo_M200, zt_in_za_20 _ (List.mem_of_getElem? (i := 0) rfl), zt_in_za_20 _ (List.mem_of_getElem? (i := 1) rfl), zt_in_za_20 _ (List.mem_of_getElem? (i := 2) rfl), by decide +kernel, _, rfl, rfl⟩, fun h => absurd h (by decide), fun h => absurd h (by decide), fun h => absurd h (by decide), fun h => absurd h (by decide), fun h => absurd h (by decide)⟩
theorem zo_C7_171 : zt_okC (7, 171, 0, 189) := ⟨fun _ => ⟨_, zM_X7_number, zo_M189, zt_in_za_20 _ (List.mem_of_getElem? (i := 3) rfl), zt_in_za_20 _ (List.mem_of_getElem? (i := 4) rfl), zt_in_za_20 _ (List.mem_of_getElem? (i := 5) rfl), by decide +kernel, _, rfl, rfl⟩, fun h => absurd h (by decide), fun h => absurd h (by decide), fun h => absurd h (by decide), fun h => absurd h (by decide), fun h => absurd h (by decide)⟩
theorem zo_C7_174 : zt_okC (7, 174, 0, 155) := ⟨fun _ => ⟨_, zM_X7_firstLike, zo_M155, zt_in_za_20 _ (List.mem_of_getElem? (i := 6) rfl), zt_in_za_20 _ (List.mem_of_getElem? (i := 7) rfl), zt_in_za_20 _ (List.mem_of_getElem? (i := 8) rfl), by decide +kernel, _, rfl, rfl⟩, fun h => absurd h (by decide), fun h => absurd h (by decide), fun h => absurd h (by decide), fun h => absurd h (by decide), fun h => absurd h (by decide)⟩
theorem zo_C7_177 : zt_okC (7, 177, 0, 204) := ⟨fun _ => ⟨_, zM_X7_tellFile, zo_M204, zt_in_za_20 _ (List.mem_of_getElem? (i := 9) rfl), zt_in_za_20 _ (List.mem_of_getElem? (i := 10) rfl), zt_in_za_20 _ (List.mem_of_getElem? (i := 11) rfl), by decide +kernel, _, rfl, rfl⟩, fun h => absurd h (by decide), fun h => absurd h (by decide), fun h => absurd h (by decide), fun h => absurd h (by decide), fun h => absurd h (by decide)⟩
theorem zo_C7_181 : zt_okC (7, 181, 0, 205) := ⟨fun _ => ⟨_, zM_X7_tellInodes, zo_M205, zt_in_za_20 _ (List.mem_of_getElem? (i := 12) rfl), zt_in_za_20 _ (List.mem_of_getElem? (i := 13) rfl), zt_in_za_20 _ (List.mem_of_getElem? (i := 14) rfl), by decide +kernel, _, rfl, rfl⟩, fun h => absurd h (by decide), fun h => absurd h (by decide), fun h => absurd h (by decide), fun h => absurd h (by decide), fun h => absurd h (by decide)⟩
theorem zo_C7_184 : zt_okC (7, 184, 0, 206) := ⟨fun _ => ⟨_, zM_X7_tellWord, zo_M206, zt_in_za_20 _ (List.mem_of_getElem? (i := 15) rfl), zt_in_za_20 _ (List.mem_of_getElem? (i := 16) rfl), zt_in_za_20 _ (List.mem_of_getElem? (i := 17) rfl), by decide +kernel, _, rfl, rfl⟩, fun h => absurd h (by decide), fun h => absurd h (by decide), fun h => absurd h (by decide), fun h => absurd h (by decide), fun h => absurd h (by decide)⟩
theorem zo_C7_187 : zt_okC (7, 187, 0, 201) := ⟨fun _ => ⟨_, zM_X7_sumOf, zo_M201, zt_in_za_20 _ (List.mem_of_getElem? (i := 18) rfl), zt_in_za_20 _ (List.mem_of_getElem? (i := 19) rfl), zt_in_za_20 _ (List.mem_of_getElem? (i := 20) rfl), by decide +kernel, _, rfl, rfl⟩, fun h => absurd h (by decide), fun h => absurd h (by decide), fun h => absurd h (by decide), fun h => absurd h (by decide), fun h => absurd h (by decide)⟩
theorem zo_C7_190 : zt_okC (7, 190, 0, 197) := ⟨fun _ => ⟨_, zM_X7_putWord, zo_M197, zt_in_za_20 _ (List.mem_of_getElem? (i := 21) rfl), zt_in_za_20 _ (List.mem_of_getElem? (i := 22) rfl), zt_in_za_20 _ (List.mem_of_getElem? (i := 23) rfl), by decide +kernel, _, rfl, rfl⟩, fun h => absurd h (by decide), fun h => absurd h (by decide), fun h => absurd h (by decide), fun h => absurd h (by decide), fun h => absurd h (by decide)⟩
theorem zo_C7_198 : zt_okC (7, 198, 0, 143) := ⟨fun _ => ⟨_, zM_X7_byteAt, zo_M143, zt_in_za_20 _ (List.mem_of_getElem? (i := 24) rfl), zt_in_za_20 _ (List.mem_of_getElem? (i := 25) rfl), zt_in_za_20 _ (List.mem_of_getElem? (i := 26) rfl), by decide +kernel, _, rfl, rfl⟩, fun h => absurd h (by decide), fun h => absurd h (by decide), fun h => absurd h (by decide), fun h => absurd h (by decide), fun h => absurd h (by decide)⟩
theorem zo_C7_201 : zt_okC (7, 201, 0, 210) := ⟨fun _ => ⟨_, zM_X7_word, zo_M210, zt_in_za_20 _ (List.mem_of_getElem? (i := 27) rfl), zt_in_za_20 _ (List.mem_of_getElem? (i := 28) rfl), zt_in_za_20 _ (List.mem_of_getElem? (i := 29) rfl), by decide +kernel, _, rfl, rfl⟩, fun h => absurd h (by decide), fun h => absurd h (by decide), fun h => absurd h (by decide), fun h => absurd h (by decide), fun h => absurd h (by decide)⟩
theorem zo_C7_204 : zt_okC (7, 204, 1, 175) := ⟨fun h => absurd h (by decide), fun _ => ⟨_, zM_X7_lies, zo_M175, Or.inl (zt_in_za_21 _ (List.mem_of_getElem? (i := 0) rfl)), zt_in_za_21 _ (List.mem_of_getElem? (i := 1) rfl), by decide +kernel⟩, fun h => absurd h (by decide), fun h => absurd h (by decide), fun h => absurd h (by decide), fun h => absurd h (by decide)⟩
theorem zo_C7_207 : zt_okC (7, 207, 0, 191) := ⟨fun _ => ⟨_, zM_X7_numbersIn, zo_M191, zt_in_za_21 _ (List.mem_of_getElem? (i := 2) rfl), zt_in_za_21 _ (List.mem_of_getElem? (i := 3) rfl), zt_in_za_21 _ (List.mem_of_getElem? (i := 4) rfl), by decide +kernel, _, rfl, rfl⟩, fun h => absurd h (by decide), fun h => absurd h (by decide), fun h => absurd h (by decide), fun h => absurd h (by decide), fun h => absurd h (by decide)⟩
theorem zo_C7_210 : zt_okC (7, 210, 0, 140) := ⟨fun _ => ⟨_, zM_X7_areTails, zo_M140, zt_in_za_21 _ (List.mem_of_getElem? (i := 5) rfl), zt_in_za_21 _ (List.mem_of_getElem? (i := 6) rfl), zt_in_za_21 _ (List.mem_of_getElem? (i := 7) rfl), by decide +kernel, _, rfl, rfl⟩, fun h => absurd h (by decide), fun h => absurd h (by decide), fun h => absurd h (by decide), fun h => absurd h (by decide), fun h => absurd h (by decide)⟩
theorem zo_C7_213 : zt_okC (7, 213, 0, 139) := ⟨fun _ => ⟨_, zM_X7_areInodes, zo_M139, zt_in_za_21 _ (List.mem_of_getElem? (i := 8) rfl), zt_in_za_21 _ (List.mem_of_getElem? (i := 9) rfl), zt_in_za_21 _ (List.mem_of_getElem? (i := 10) rfl), by decide +kernel, _, rfl, rfl⟩, fun h => absurd h (by decide), fun h => absurd h (by decide), fun h => absurd h (by decide), fun h => absurd h (by decide), fun h => absurd h (by decide)⟩
theorem zo_C7_216 : zt_okC (7, 216, 0, 138) := ⟨fun _ => ⟨_, zM_X7_areFolders, zo_M138, zt_in_za_21 _ (List.mem_of_getElem? (i := 11) rfl), zt_in_za_21 _ (List.mem_of_getElem? (i := 12) rfl), zt_in_za_21 _ (List.mem_of_getElem? (i := 13) rfl), by decide +kernel, _, rfl, rfl⟩, fun h => absurd h (by decide), fun h => absurd h (by decide), fun h => absurd h (by decide), fun h => absurd h (by decide), fun h => absurd h (by decide)⟩
theorem zo_C7_219 : zt_okC (7, 219, 0, 170) := ⟨fun _ => ⟨_, zM_X7_isTree, zo_M170, zt_in_za_21 _ (List.mem_of_getElem? (i := 14) rfl), zt_in_za_21 _ (List.mem_of_getElem? (i := 15) rfl), zt_in_za_21 _ (List.mem_of_getElem? (i := 16) rfl), by decide +kernel, _, rfl, rfl⟩, fun h => absurd h (by decide), fun h => absurd h (by decide), fun h => absurd h (by decide), fun h => absurd h (by decide), fun h => absurd h (by decide)⟩
theorem zo_C7_222 : zt_okC (7, 222, 0, 144) := ⟨fun _ => ⟨_, zM_X7_canBe, zo_M144, zt_in_za_21 _ (List.mem_of_getElem? (i := 17) rfl), zt_in_za_21 _ (List.mem_of_getElem? (i := 18) rfl), zt_in_za_21 _ (List.mem_of_getElem? (i := 19) rfl), by decide +kernel, _, rfl, rfl⟩, fun h => absurd h (by decide), fun h => absurd h (by decide), fun h => absurd h (by decide), fun h => absurd h (by decide), fun h => absurd h (by decide)⟩
theorem zo_C7_226 : zt_okC (7, 226, 0, 162) := ⟨fun _ => ⟨_, zM_X7_inode, zo_M162, zt_in_za_21 _ (List.mem_of_getElem? (i := 20) rfl), zt_in_za_21 _ (List.mem_of_getElem? (i := 21) rfl), zt_in_za_21 _ (List.mem_of_getElem? (i := 22) rfl), by decide +kernel, _, rfl, rfl⟩, fun h => absurd h (by decide), fun h => absurd h (by decide), fun h => absurd h (by decide), fun h => absurd h (by decide), fun h => absurd h (by decide)⟩
theorem zo_C7_229 : zt_okC (7, 229, 0, 163) := ⟨fun _ => ⟨_, zM_X7_isFile, zo_M163, zt_in_za_21 _ (List.mem_of_getElem? (i := 23) rfl), zt_in_za_21 _ (List.mem_of_getElem? (i := 24) rfl), zt_in_za_21 _ (List.mem_of_getElem? (i := 25) rfl), by decide +kernel, _, rfl, rfl⟩, fun h => absurd h (by decide), fun h => absurd h (by decide), fun h => absurd h (by decide), fun h => absurd h (by decide), fun h => absurd h (by decide)⟩
theorem zo_C7_232 : zt_okC (7, 232, 0, 202) := ⟨fun _ => ⟨_, zM_X7_tailsIn, zo_M202, zt_in_za_21 _ (List.mem_of_getElem? (i := 26) rfl), zt_in_za_21 _ (List.mem_of_getElem? (i := 27) rfl), zt_in_za_21 _ (List.mem_of_getElem? (i := 28) rfl), by decide +kernel, _, rfl, rfl⟩, fun h => absurd h (by decide), fun h => absurd h (by decide), fun h => absurd h (by decide), fun h => absurd h (by decide), fun h => absurd h (by decide)⟩
theorem zo_C7_235 : zt_okC (7, 235, 0, 164) := ⟨fun _ => ⟨_, zM_X7_isFolder, zo_M164, zt_in_za_21 _ (List.mem_of_getElem? (i := 29) rfl), zt_in_za_22 _ (List.mem_of_getElem? (i := 0) rfl), zt_in_za_22 _ (List.mem_of_getElem? (i := 1) rfl), by decide +kernel, _, rfl, rfl⟩, fun h => absurd h (by decide), fun h => absurd h (by decide), fun h => absurd h (by decide), fun h => absurd h (by decide), fun h => absurd h (by decide)⟩
theorem zo_C7_238 : zt_okC (7, 238, 0, 180) := ⟨fun _ => ⟨_, zM_X7_manyOf, zo_M180, zt_in_za_22 _ (List.mem_of_getElem? (i := 2) rfl), zt_in_za_22 _ (List.mem_of_getElem? (i := 3) rfl), zt_in_za_22 _ (List.mem_of_getElem? (i := 4) rfl), by decide +kernel, _, rfl, rfl⟩, fun h => absurd h (by decide), fun h => absurd h (by decide), fun h => absurd h (by decide), fun h => absurd h (by decide), fun h => absurd h (by decide)⟩
theorem zo_C7_241 : zt_okC (7, 241, 0, 181) := ⟨fun _ => ⟨_, zM_X7_nameAt, zo_M181, zt_in_za_22 _ (List.mem_of_getElem? (i := 5) rfl), zt_in_za_22 _ (List.mem_of_getElem? (i := 6) rfl), zt_in_za_22 _ (List.mem_of_getElem? (i := 7) rfl), by decide +kernel, _, rfl, rfl⟩, fun h => absurd h (by decide), fun h => absurd h (by decide), fun h => absurd h (by decide), fun h => absurd h (by decide), fun h => absurd h (by decide)⟩
theorem zo_C7_244 : zt_okC (7, 244, 0, 190) := ⟨fun _ => ⟨_, zM_X7_numberAt, zo_M190, zt_in_za_22 _ (List.mem_of_getElem? (i := 8) rfl), zt_in_za_22 _ (List.mem_of_getElem? (i := 9) rfl), zt_in_za_22 _ (List.mem_of_getElem? (i := 10) rfl), by decide +kernel, _, rfl, rfl⟩, fun h => absurd h (by decide), fun h => absurd h (by decide), fun h => absurd h (by decide), fun h => absurd h (by decide), fun h => absurd h (by decide)⟩
theorem zo_C7_247 : zt_okC (7, 247, 0, 183) := ⟨fun _ => ⟨_, zM_X7_named, zo_M183, zt_in_za_22 _ (List.mem_of_getElem? (i := 11) rfl), zt_in_za_22 _ (List.mem_of_getElem? (i := 12) rfl), zt_in_za_22 _ (List.mem_of_getElem? (i := 13) rfl), by decide +kernel, _, rfl, rfl⟩, fun h => absurd h (by decide), fun h => absurd h (by decide), fun h => absurd h (by decide), fun h => absurd h (by decide), fun h => absurd h (by decide)⟩
theorem zo_C7_251 : zt_okC (7, 251, 0, 156) := ⟨fun _ => ⟨_, zM_X7_firstOf, zo_M156, zt_in_za_22 _ (List.mem_of_getElem? (i := 14) rfl), zt_in_za_22 _ (List.mem_of_getElem? (i := 15) rfl), zt_in_za_22 _ (List.mem_of_getElem? (i := 16) rfl), by decide +kernel, _, rfl, rfl⟩, fun h => absurd h (by decide), fun h => absurd h (by decide), fun h => absurd h (by decide), fun h => absurd h (by decide), fun h => absurd h (by decide)⟩
theorem zo_C7_254 : zt_okC (7, 254, 0, 172) := ⟨fun _ => ⟨_, zM_X7_judge, zo_M172, zt_in_za_22 _ (List.mem_of_getElem? (i := 17) rfl), zt_in_za_22 _ (List.mem_of_getElem? (i := 18) rfl), zt_in_za_22 _ (List.mem_of_getElem? (i := 19) rfl), by decide +kernel, _, rfl, rfl⟩, fun h => absurd h (by decide), fun h => absurd h (by decide), fun h => absurd h (by decide), fun h => absurd h (by decide), fun h => absurd h (by decide)⟩
theorem zo_C7_260 : zt_okC (7, 260, 0, 166) := ⟨fun _ => ⟨_, zM_X7_isLaid, zo_M166, zt_in_za_22 _ (List.mem_of_getElem? (i := 20) rfl), zt_in_za_22 _ (List.mem_of_getElem? (i := 21) rfl), zt_in_za_22 _ (List.mem_of_getElem? (i := 22) rfl), by decide +kernel, _, rfl, rfl⟩, fun h => absurd h (by decide), fun h => absurd h (by decide), fun h => absurd h (by decide), fun h => absurd h (by decide), fun h => absurd h (by decide)⟩
theorem zo_C7_263 : zt_okC (7, 263, 0, 165) := ⟨fun _ => ⟨_, zM_X7_isImage, zo_M165, zt_in_za_22 _ (List.mem_of_getElem? (i := 23) rfl), zt_in_za_22 _ (List.mem_of_getElem? (i := 24) rfl), zt_in_za_22 _ (List.mem_of_getElem? (i := 25) rfl), by decide +kernel, _, rfl, rfl⟩, fun h => absurd h (by decide), fun h => absurd h (by decide), fun h => absurd h (by decide), fun h => absurd h (by decide), fun h => absurd h (by decide)⟩
theorem zo_C7_266 : zt_okC (7, 266, 0, 208) := ⟨fun _ => ⟨_, zM_X7_told, zo_M208, zt_in_za_22 _ (List.mem_of_getElem? (i := 26) rfl), zt_in_za_22 _ (List.mem_of_getElem? (i := 27) rfl), zt_in_za_22 _ (List.mem_of_getElem? (i := 28) rfl), by decide +kernel, _, rfl, rfl⟩, fun h => absurd h (by decide), fun h => absurd h (by decide), fun h => absurd h (by decide), fun h => absurd h (by decide), fun h => absurd h (by decide)⟩
theorem zo_C7_272 : zt_okC (7, 272, 0, 154) := ⟨fun _ => ⟨_, zM_X7_first, zo_M154, zt_in_za_22 _ (List.mem_of_getElem? (i := 29) rfl), zt_in_za_23 _ (List.mem_of_getElem? (i := 0) rfl), zt_in_za_23 _ (List.mem_of_getElem? (i := 1) rfl), by decide +kernel, _, rfl, rfl⟩, fun h => absurd h (by decide), fun h => absurd h (by decide), fun h => absurd h (by decide), fun h => absurd h (by decide), fun h => absurd h (by decide)⟩
theorem zo_C7_275 : zt_okC (7, 275, 0, 145) := ⟨fun _ => ⟨_, zM_X7_child, zo_M145, zt_in_za_23 _ (List.mem_of_getElem? (i := 2) rfl), zt_in_za_23 _ (List.mem_of_getElem? (i := 3) rfl), zt_in_za_23 _ (List.mem_of_getElem? (i := 4) rfl), by decide +kernel, _, rfl, rfl⟩, fun h => absurd h (by decide), fun h => absurd h (by decide), fun h => absurd h (by decide), fun h => absurd h (by decide), fun h => absurd h (by decide)⟩
theorem zo_C7_278 : zt_okC (7, 278, 0, 171) := ⟨fun _ => ⟨_, zM_X7_isView, zo_M171, zt_in_za_23 _ (List.mem_of_getElem? (i := 5) rfl), zt_in_za_23 _ (List.mem_of_getElem? (i := 6) rfl), zt_in_za_23 _ (List.mem_of_getElem? (i := 7) rfl), by decide +kernel, _, rfl, rfl⟩, fun h => absurd h (by decide), fun h => absurd h (by decide), fun h => absurd h (by decide), fun h => absurd h (by decide), fun h => absurd h (by decide)⟩
theorem zo_C7_281 : zt_okC (7, 281, 0, 173) := ⟨fun _ => ⟨_, zM_X7_kindOf, zo_M173, zt_in_za_23 _ (List.mem_of_getElem? (i := 8) rfl), zt_in_za_23 _ (List.mem_of_getElem? (i := 9) rfl), zt_in_za_23 _ (List.mem_of_getElem? (i := 10) rfl), by decide +kernel, _, rfl, rfl⟩, fun h => absurd h (by decide), fun h => absurd h (by decide), fun h => absurd h (by decide), fun h => absurd h (by decide), fun h => absurd h (by decide)⟩
theorem zo_C7_284 : zt_okC (7, 284, 0, 174) := ⟨fun _ => ⟨_, zM_X7_leads, zo_M174, zt_in_za_23 _ (List.mem_of_getElem? (i := 11) rfl), zt_in_za_23 _ (List.mem_of_getElem? (i := 12) rfl), zt_in_za_23 _ (List.mem_of_getElem? (i := 13) rfl), by decide +kernel, _, rfl, rfl⟩, fun h => absurd h (by decide), fun h => absurd h (by decide), fun h => absurd h (by decide), fun h => absurd h (by decide), fun h => absurd h (by decide)⟩
theorem zo_C7_287 : zt_okC (7, 287, 0, 186) := ⟨fun _ => ⟨_, zM_X7_nextIn, zo_M186, zt_in_za_23 _ (List.mem_of_getElem? (i := 14) rfl), zt_in_za_23 _ (List.mem_of_getElem? (i := 15) rfl), zt_in_za_23 _ (List.mem_of_getElem? (i := 16) rfl), by decide +kernel, _, rfl, rfl⟩, fun h => absurd h (by decide), fun h => absurd h (by decide), fun h => absurd h (by decide), fun h => absurd h (by decide), fun h => absurd h (by decide)⟩
theorem zo_C7_290 : zt_okC (7, 290, 0, 184) := ⟨fun _ => ⟨_, zM_X7_namesIn, zo_M184, zt_in_za_23 _ (List.mem_of_getElem? (i := 17) rfl), zt_in_za_23 _ (List.mem_of_getElem? (i := 18) rfl), zt_in_za_23 _ (List.mem_of_getElem? (i := 19) rfl), by decide +kernel, _, rfl, rfl⟩, fun h => absurd h (by decide), fun h => absurd h (by decide), fun h => absurd h (by decide), fun h => absurd h (by decide), fun h => absurd h (by decide)⟩
theorem zo_C7_293 : zt_okC (7, 293, 0, 192) := ⟨fun _ => ⟨_, zM_X7_opened, zo_M192, zt_in_za_23 _ (List.mem_of_getElem? (i := 20) rfl), zt_in_za_23 _ (List.mem_of_getElem? (i := 21) rfl), zt_in_za_23 _ (List.mem_of_getElem? (i := 22) rfl), by decide +kernel, _, rfl, rfl⟩, fun h => absurd h (by decide), fun h => absurd h (by decide), fun h => absurd h (by decide), fun h => absurd h (by decide), fun h => absurd h (by decide)⟩
theorem zo_C8_15 : zt_okC (8, 15, 2, 122) := ⟨fun h => absurd h (by decide), fun h => absurd h (by decide), fun _ => ⟨_, zM_X6_init, zo_M122, Or.inl (zt_in_za_23 _ (List.mem_of_getElem? (i := 23) rfl)), zt_in_za_23 _ (List.mem_of_getElem? (i := 24) rfl), rfl, rfl, by decide +kernel⟩, fun h => absurd h (by decide), fun h => absurd h (by decide), fun h => absurd h (by decide)⟩
theorem zo_C8_18 : zt_okC (8, 18, 2, 161) := ⟨fun h => absurd h (by decide), fun h => absurd h (by decide), fun _ => ⟨_, zM_X7_init, zo_M161, Or.inl (zt_in_za_23 _ (List.mem_of_getElem? (i := 25) rfl)), zt_in_za_23 _ (List.mem_of_getElem? (i := 26) rfl), rfl, rfl, by decide +kernel⟩, fun h => absurd h (by decide), fun h => absurd h (by decide), fun h => absurd h (by decide)⟩
theorem zo_C8_19 : zt_okC (8, 19, 0, 118) := ⟨fun _ => ⟨_, zM_X6_folder, zo_M118, zt_in_za_23 _ (List.mem_of_getElem? (i := 27) rfl), zt_in_za_23 _ (List.mem_of_getElem? (i := 28) rfl), zt_in_za_23 _ (List.mem_of_getElem? (i := 29) rfl), by decide +kernel, _, rfl, rfl⟩, fun h => absurd h (by decide), fun h => absurd h (by decide), fun h => absurd h (by decide), fun h => absurd h (by decide), fun h => absurd h (by decide)⟩
theorem zo_C8_22 : zt_okC (8, 22, 0, 157) := ⟨fun _ => ⟨_, zM_X7_folder, zo_M157, zt_in_za_24 _ (List.mem_of_getElem? (i := 0) rfl), zt_in_za_24 _ (List.mem_of_getElem? (i := 1) rfl), zt_in_za_24 _ (List.mem_of_getElem? (i := 2) rfl), by decide +kernel, _, rfl, rfl⟩, fun h => absurd h (by decide), fun h => absurd h (by decide), fun h => absurd h (by decide), fun h => absurd h (by decide), fun h => absurd h (by decide)⟩
theorem zo_C8_23 : zt_okC (8, 23, 0, 117) := ⟨fun _ => ⟨_, zM_X6_file, zo_M117, zt_in_za_24 _ (List.mem_of_getElem? (i := 3) rfl), zt_in_za_24 _ (List.mem_of_getElem? (i := 4) rfl), zt_in_za_24 _ (List.mem_of_getElem? (i := 5) rfl), by decide +kernel, _, rfl, rfl⟩, fun h => absurd h (by decide), fun h => absurd h (by decide), fun h => absurd h (by decide), fun h => absurd h (by decide), fun h => absurd h (by decide)⟩
theorem zo_C8_26 : zt_okC (8, 26, 0, 153) := ⟨fun _ => ⟨_, zM_X7_file, zo_M153, zt_in_za_24 _ (List.mem_of_getElem? (i := 6) rfl), zt_in_za_24 _ (List.mem_of_getElem? (i := 7) rfl), zt_in_za_24 _ (List.mem_of_getElem? (i := 8) rfl), by decide +kernel, _, rfl, rfl⟩, fun h => absurd h (by decide), fun h => absurd h (by decide), fun h => absurd h (by decide), fun h => absurd h (by decide), fun h => absurd h (by decide)⟩
theorem zo_C8_27 : zt_okC (8, 27, 0, 120) := ⟨fun _ => ⟨_, zM_X6_hide, zo_M120, zt_in_za_24 _ (List.mem_of_getElem? (i := 9) rfl), zt_in_za_24 _ (List.mem_of_getElem? (i := 10) rfl), zt_in_za_24 _ (List.mem_of_getElem? (i := 11) rfl), by decide +kernel, _, rfl, rfl⟩, fun h => absurd h (by decide), fun h => absurd h (by decide), fun h => absurd h (by decide), fun h => absurd h (by decide), fun h => absurd h (by decide)⟩
theorem zo_C8_30 : zt_okC (8, 30, 0, 158) := ⟨fun _ => ⟨_, zM_X7_hide, zo_M158, zt_in_za_24 _ (List.mem_of_getElem? (i := 12) rfl), zt_in_za_24 _ (List.mem_of_getElem? (i := 13) rfl), zt_in_za_24 _ (List.mem_of_getElem? (i := 14) rfl), by decide +kernel, _, rfl, rfl⟩, fun h => absurd h (by decide), fun h => absurd h (by decide), fun h => absurd h (by decide), fun h => absurd h (by decide), fun h => absurd h (by decide)⟩
theorem zo_C8_31 : zt_okC (8, 31, 0, 126) := ⟨fun _ => ⟨_, zM_X6_link, zo_M126, zt_in_za_24 _ (List.mem_of_getElem? (i := 15) rfl), zt_in_za_24 _ (List.mem_of_getElem? (i := 16) rfl), zt_in_za_24 _ (List.mem_of_getElem? (i := 17) rfl), by decide +kernel, _, rfl, rfl⟩, fun h => absurd h (by decide), fun h => absurd h (by decide), fun h => absurd h (by decide), fun h => absurd h (by decide), fun h => absurd h (by decide)⟩
theorem zo_C8_35 : zt_okC (8, 35, 0, 176) := ⟨fun _ => ⟨_, zM_X7_link, zo_M176, zt_in_za_24 _ (List.mem_of_getElem? (i := 18) rfl), zt_in_za_24 _ (List.mem_of_getElem? (i := 19) rfl), zt_in_za_24 _ (List.mem_of_getElem? (i := 20) rfl), by decide +kernel, _, rfl, rfl⟩, fun h => absurd h (by decide), fun h => absurd h (by decide), fun h => absurd h (by decide), fun h => absurd h (by decide), fun h => absurd h (by decide)⟩
theorem zo_C8_36 : zt_okC (8, 36, 0, 113) := ⟨fun _ => ⟨_, zM_X6_data, zo_M113, zt_in_za_24 _ (List.mem_of_getElem? (i := 21) rfl), zt_in_za_24 _ (List.mem_of_getElem? (i := 22) rfl), zt_in_za_24 _ (List.mem_of_getElem? (i := 23) rfl), by decide +kernel, _, rfl, rfl⟩, fun h => absurd h (by decide), fun h => absurd h (by decide), fun h => absurd h (by decide), fun h => absurd h (by decide), fun h => absurd h (by decide)⟩
theorem zo_C8_39 : zt_okC (8, 39, 0, 149) := ⟨fun _ => ⟨_, zM_X7_data, zo_M149, zt_in_za_24 _ (List.mem_of_getElem? (i := 24) rfl), zt_in_za_24 _ (List.mem_of_getElem? (i := 25) rfl), zt_in_za_24 _ (List.mem_of_getElem? (i := 26) rfl), by decide +kernel, _, rfl, rfl⟩, fun h => absurd h (by decide), fun h => absurd h (by decide), fun h => absurd h (by decide), fun h => absurd h (by decide), fun h => absurd h (by decide)⟩
theorem zo_C8_40 : zt_okC (8, 40, 0, 133) := ⟨fun _ => ⟨_, zM_X6_owner, zo_M133, zt_in_za_24 _ (List.mem_of_getElem? (i := 27) rfl), zt_in_za_24 _ (List.mem_of_getElem? (i := 28) rfl), zt_in_za_24 _ (List.mem_of_getElem? (i := 29) rfl), by decide +kernel, _, rfl, rfl⟩, fun h => absurd h (by decide), fun h => absurd h (by decide), fun h => absurd h (by decide), fun h => absurd h (by decide), fun h => absurd h (by decide)⟩
theorem zo_C8_43 : zt_okC (8, 43, 0, 195) := ⟨fun _ => ⟨_, zM_X7_owner, zo_M195, zt_in_za_25 _ (List.mem_of_getElem? (i := 0) rfl), zt_in_za_25 _ (List.mem_of_getElem? (i := 1) rfl), zt_in_za_25 _ (List.mem_of_getElem? (i := 2) rfl), by decide +kernel, _, rfl, rfl⟩, fun h => absurd h (by decide), fun h => absurd h (by decide), fun h => absurd h (by decide), fun h => absurd h (by decide), fun h => absurd h (by decide)⟩
theorem zo_C8_44 : zt_okC (8, 44, 0, 111) := ⟨fun _ => ⟨_, zM_X6_clear, zo_M111, zt_in_za_25 _ (List.mem_of_getElem? (i := 3) rfl), zt_in_za_25 _ (List.mem_of_getElem? (i := 4) rfl), zt_in_za_25 _ (List.mem_of_getElem? (i := 5) rfl), by decide +kernel, _, rfl, rfl⟩, fun h => absurd h (by decide), fun h => absurd h (by decide), fun h => absurd h (by decide), fun h => absurd h (by decide), fun h => absurd h (by decide)⟩
theorem zo_C8_48 : zt_okC (8, 48, 0, 146) := ⟨fun _ => ⟨_, zM_X7_clear, zo_M146, zt_in_za_25 _ (List.mem_of_getElem? (i := 6) rfl), zt_in_za_25 _ (List.mem_of_getElem? (i := 7) rfl), zt_in_za_25 _ (List.mem_of_getElem? (i := 8) rfl), by decide +kernel, _, rfl, rfl⟩, fun h => absurd h (by decide), fun h => absurd h (by decide), fun h => absurd h (by decide), fun h => absurd h (by decide), fun h => absurd h (by decide)⟩
theorem zo_C8_49 : zt_okC (8, 49, 0, 110) := ⟨fun _ => ⟨_, zM_X6_build, zo_M110, zt_in_za_25 _ (List.mem_of_getElem? (i := 9) rfl), zt_in_za_25 _ (List.mem_of_getElem? (i := 10) rfl), zt_in_za_25 _ (List.mem_of_getElem? (i := 11) rfl), by decide +kernel, _, rfl, rfl⟩, fun h => absurd h (by decide), fun h => absurd h (by decide), fun h => absurd h (by decide), fun h => absurd h (by decide), fun h => absurd h (by decide)⟩
theorem zo_C8_53 : zt_okC (8, 53, 0, 142) := ⟨fun _ => ⟨_, zM_X7_build, zo_M142, zt_in_za_25 _ (List.mem_of_getElem? (i := 12) rfl), zt_in_za_25 _ (List.mem_of_getElem? (i := 13) rfl), zt_in_za_25 _ (List.mem_of_getElem? (i := 14) rfl), by decide +kernel, _, rfl, rfl⟩, fun h => absurd h (by decide), fun h => absurd h (by decide), fun h => absurd h (by decide), fun h => absurd h (by decide), fun h => absurd h (by decide)⟩
theorem zo_C8_54 : zt_okC (8, 54, 0, 116) := ⟨fun _ => ⟨_, zM_X6_feed, zo_M116, zt_in_za_25 _ (List.mem_of_getElem? (i := 15) rfl), zt_in_za_25 _ (List.mem_of_getElem? (i := 16) rfl), zt_in_za_25 _ (List.mem_of_getElem? (i := 17) rfl), by decide +kernel, _, rfl, rfl⟩, fun h => absurd h (by decide), fun h => absurd h (by decide), fun h => absurd h (by decide), fun h => absurd h (by decide), fun h => absurd h (by decide)⟩
theorem zo_C8_58 : zt_okC (8, 58, 0, 152) := ⟨fun _ => ⟨_, zM_X7_feed, zo_M152, zt_in_za_25 _ (List.mem_of_getElem? (i := 18) rfl), zt_in_za_25 _ (List.mem_of_getElem? (i := 19) rfl), zt_in_za_25 _ (List.mem_of_getElem? (i := 20) rfl), by decide +kernel, _, rfl, rfl⟩, fun h => absurd h (by decide), fun h => absurd h (by decide), fun h => absurd h (by decide), fun h => absurd h (by decide), fun h => absurd h (by decide)⟩
theorem zo_C8_59 : zt_okC (8, 59, 0, 115) := ⟨fun _ => ⟨_, zM_X6_end, zo_M115, zt_in_za_25 _ (List.mem_of_getElem? (i := 21) rfl), zt_in_za_25 _ (List.mem_of_getElem? (i := 22) rfl), zt_in_za_25 _ (List.mem_of_getElem? (i := 23) rfl), by decide +kernel, _, rfl, rfl⟩, fun h => absurd h (by decide), fun h => absurd h (by decide), fun h => absurd h (by decide), fun h => absurd h (by decide), fun h => absurd h (by decide)⟩
theorem zo_C8_62 : zt_okC (8, 62, 0, 151) := ⟨fun _ => ⟨_, zM_X7_end, zo_M151, zt_in_za_25 _ (List.mem_of_getElem? (i := 24) rfl), zt_in_za_25 _ (List.mem_of_getElem? (i := 25) rfl), zt_in_za_25 _ (List.mem_of_getElem? (i := 26) rfl), by decide +kernel, _, rfl, rfl⟩, fun h => absurd h (by decide), fun h => absurd h (by decide), fun h => absurd h (by decide), fun h => absurd h (by decide), fun h => absurd h (by decide)⟩
theorem zo_C8_63 : zt_okC (8, 63, 0, 128) := ⟨fun _ => ⟨_, zM_X6_load, zo_M128, zt_in_za_25 _ (List.mem_of_getElem? (i := 27) rfl), zt_in_za_25 _ (List.mem_of_getElem? (i := 28) rfl), zt_in_za_25 _ (List.mem_of_getElem? (i := 29) rfl), by decide +kernel, _, rfl, rfl⟩, fun h => absurd h (by decide), fun h => absurd h (by decide), fun h => absurd h (by decide), fun h => absurd h (by decide), fun h => absurd h (by decide)⟩
theorem zo_C8_66 : zt_okC (8, 66, 0, 178) := ⟨fun _ => ⟨_, zM_X7_load, zo_M178, zt_in_za_26 _ (List.mem_of_getElem? (i := 0) rfl), zt_in_za_26 _ (List.mem_of_getElem? (i := 1) rfl), zt_in_za_26 _ (List.mem_of_getElem? (i := 2) rfl), by decide +kernel, _, rfl, rfl⟩, fun h => absurd h (by decide), fun h => absurd h (by decide), fun h => absurd h (by decide), fun h => absurd h (by decide), fun h => absurd h (by decide)⟩
theorem zo_C8_67 : zt_okC (8, 67, 0, 114) := ⟨fun _ => ⟨_, zM_X6_drop, zo_M114, zt_in_za_26 _ (List.mem_of_getElem? (i := 3) rfl), zt_in_za_26 _ (List.mem_of_getElem? (i := 4) rfl), zt_in_za_26 _ (List.mem_of_getElem? (i := 5) rfl), by decide +kernel, _, rfl, rfl⟩, fun h => absurd h (by decide), fun h => absurd h (by decide), fun h => absurd h (by decide), fun h => absurd h (by decide), fun h => absurd h (by decide)⟩
theorem zo_C8_70 : zt_okC (8, 70, 0, 150) := ⟨fun _ => ⟨_, zM_X7_drop, zo_M150, zt_in_za_26 _ (List.mem_of_getElem? (i := 6) rfl), zt_in_za_26 _ (List.mem_of_getElem? (i := 7) rfl), zt_in_za_26 _ (List.mem_of_getElem? (i := 8) rfl), by decide +kernel, _, rfl, rfl⟩, fun h => absurd h (by decide), fun h => absurd h (by decide), fun h => absurd h (by decide), fun h => absurd h (by decide), fun h => absurd h (by decide)⟩
theorem zo_C8_71 : zt_okC (8, 71, 6, 131) := ⟨fun h => absurd h (by decide), fun h => absurd h (by decide), fun h => absurd h (by decide), fun h => absurd h (by decide), fun h => absurd h (by decide), fun h => absurd h (by decide)⟩
theorem zo_C8_76 : zt_okC (8, 76, 0, 193) := ⟨fun _ => ⟨_, zM_X7_out, zo_M193, zt_in_za_26 _ (List.mem_of_getElem? (i := 9) rfl), zt_in_za_26 _ (List.mem_of_getElem? (i := 10) rfl), zt_in_za_26 _ (List.mem_of_getElem? (i := 11) rfl), by decide +kernel, _, rfl, rfl⟩, fun h => absurd h (by decide), fun h => absurd h (by decide), fun h => absurd h (by decide), fun h => absurd h (by decide), fun h => absurd h (by decide)⟩
theorem zo_C8_77 : zt_okC (8, 77, 0, 207) := ⟨fun _ => ⟨_, zM_X7_thrown, zo_M207, zt_in_za_26 _ (List.mem_of_getElem? (i := 12) rfl), zt_in_za_26 _ (List.mem_of_getElem? (i := 13) rfl), zt_in_za_26 _ (List.mem_of_getElem? (i := 14) rfl), by decide +kernel, _, rfl, rfl⟩, fun h => absurd h (by decide), fun h => absurd h (by decide), fun h => absurd h (by decide), fun h => absurd h (by decide), fun h => absurd h (by decide)⟩
theorem zo_C8_80 : zt_okC (8, 80, 0, 121) := ⟨fun _ => ⟨_, zM_X6_image, zo_M121, zt_in_za_26 _ (List.mem_of_getElem? (i := 15) rfl), zt_in_za_26 _ (List.mem_of_getElem? (i := 16) rfl), zt_in_za_26 _ (List.mem_of_getElem? (i := 17) rfl), by decide +kernel, _, rfl, rfl⟩, fun h => absurd h (by decide), fun h => absurd h (by decide), fun h => absurd h (by decide), fun h => absurd h (by decide), fun h => absurd h (by decide)⟩
theorem zo_C8_83 : zt_okC (8, 83, 0, 159) := ⟨fun _ => ⟨_, zM_X7_image, zo_M159, zt_in_za_26 _ (List.mem_of_getElem? (i := 18) rfl), zt_in_za_26 _ (List.mem_of_getElem? (i := 19) rfl), zt_in_za_26 _ (List.mem_of_getElem? (i := 20) rfl), by decide +kernel, _, rfl, rfl⟩, fun h => absurd h (by decide), fun h => absurd h (by decide), fun h => absurd h (by decide), fun h => absurd h (by decide), fun h => absurd h (by decide)⟩
theorem zo_C8_84 : zt_okC (8, 84, 0, 135) := ⟨fun _ => ⟨_, zM_X6_same, zo_M135, zt_in_za_26 _ (List.mem_of_getElem? (i := 21) rfl), zt_in_za_26 _ (List.mem_of_getElem? (i := 22) rfl), zt_in_za_26 _ (List.mem_of_getElem? (i := 23) rfl), by decide +kernel, _, rfl, rfl⟩, fun h => absurd h (by decide), fun h => absurd h (by decide), fun h => absurd h (by decide), fun h => absurd h (by decide), fun h => absurd h (by decide)⟩
theorem zo_C8_87 : zt_okC (8, 87, 0, 199) := ⟨fun _ => ⟨_, zM_X7_same, zo_M199, zt_in_za_26 _ (List.mem_of_getElem? (i := 24) rfl), zt_in_za_26 _ (List.mem_of_getElem? (i := 25) rfl), zt_in_za_26 _ (List.mem_of_getElem? (i := 26) rfl), by decide +kernel, _, rfl, rfl⟩, fun h => absurd h (by decide), fun h => absurd h (by decide), fun h => absurd h (by decide), fun h => absurd h (by decide), fun h => absurd h (by decide)⟩
theorem zo_C8_88 : zt_okC (8, 88, 0, 130) := ⟨fun _ => ⟨_, zM_X6_node, zo_M130, zt_in_za_26 _ (List.mem_of_getElem? (i := 27) rfl), zt_in_za_26 _ (List.mem_of_getElem? (i := 28) rfl), zt_in_za_26 _ (List.mem_of_getElem? (i := 29) rfl), by decide +kernel, _, rfl, rfl⟩, fun h => absurd h (by decide), fun h => absurd h (by decide), fun h => absurd h (by decide), fun h => absurd h (by decide), fun h => absurd h (by decide)⟩
theorem zo_C8_91 : zt_okC (8, 91, 0, 188) := ⟨fun _ => ⟨_, zM_X7_node, zo_M188, zt_in_za_27 _ (List.mem_of_getElem? (i := 0) rfl), zt_in_za_27 _ (List.mem_of_getElem? (i := 1) rfl), zt_in_za_27 _ (List.mem_of_getElem? (i := 2) rfl), by decide +kernel, _, rfl, rfl⟩, fun h => absurd h (by decide), fun h => absurd h (by decide), fun h => absurd h (by decide), fun h => absurd h (by decide), fun h => absurd h (by decide)⟩
theorem zo_C8_92 : zt_okC (8, 92, 0, 132) := ⟨fun _ => ⟨_, zM_X6_over, zo_M132, zt_in_za_27 _ (List.mem_of_getElem? (i := 3) rfl), zt_in_za_27 _ (List.mem_of_getElem? (i := 4) rfl), zt_in_za_27 _ (List.mem_of_getElem? (i := 5) rfl), by decide +kernel, _, rfl, rfl⟩, fun h => absurd h (by decide), fun h => absurd h (by decide), fun h => absurd h (by decide), fun h => absurd h (by decide), fun h => absurd h (by decide)⟩
theorem zo_C8_95 : zt_okC (8, 95, 0, 194) := ⟨fun _ => ⟨_, zM_X7_over, zo_M194, zt_in_za_27 _ (List.mem_of_getElem? (i := 6) rfl), zt_in_za_27 _ (List.mem_of_getElem? (i := 7) rfl), zt_in_za_27 _ (List.mem_of_getElem? (i := 8) rfl), by decide +kernel, _, rfl, rfl⟩, fun h => absurd h (by decide), fun h => absurd h (by decide), fun h => absurd h (by decide), fun h => absurd h (by decide), fun h => absurd h (by decide)⟩
theorem zo_C8_96 : zt_okC (8, 96, 0, 109) := ⟨fun _ => ⟨_, zM_X6_bare, zo_M109, zt_in_za_27 _ (List.mem_of_getElem? (i := 9) rfl), zt_in_za_27 _ (List.mem_of_getElem? (i := 10) rfl), zt_in_za_27 _ (List.mem_of_getElem? (i := 11) rfl), by decide +kernel, _, rfl, rfl⟩, fun h => absurd h (by decide), fun h => absurd h (by decide), fun h => absurd h (by decide), fun h => absurd h (by decide), fun h => absurd h (by decide)⟩
theorem zo_C8_99 : zt_okC (8, 99, 0, 141) := ⟨fun _ => ⟨_, zM_X7_bare, zo_M141, zt_in_za_27 _ (List.mem_of_getElem? (i := 12) rfl), zt_in_za_27 _ (List.mem_of_getElem? (i := 13) rfl), zt_in_za_27 _ (List.mem_of_getElem? (i := 14) rfl), by decide +kernel, _, rfl, rfl⟩, fun h => absurd h (by decide), fun h => absurd h (by decide), fun h => absurd h (by decide), fun h => absurd h (by decide), fun h => absurd h (by decide)⟩
theorem zo_C8_100 : zt_okC (8, 100, 0, 129) := ⟨fun _ => ⟨_, zM_X6_look, zo_M129, zt_in_za_27 _ (List.mem_of_getElem? (i := 15) rfl), zt_in_za_27 _ (List.mem_of_getElem? (i := 16) rfl), zt_in_za_27 _ (List.mem_of_getElem? (i := 17) rfl), by decide +kernel, _, rfl, rfl⟩, fun h => absurd h (by decide), fun h => absurd h (by decide), fun h => absurd h (by decide), fun h => absurd h (by decide), fun h => absurd h (by decide)⟩
theorem zo_C8_103 : zt_okC (8, 103, 0, 179) := ⟨fun _ => ⟨_, zM_X7_look, zo_M179, zt_in_za_27 _ (List.mem_of_getElem? (i := 18) rfl), zt_in_za_27 _ (List.mem_of_getElem? (i := 19) rfl), zt_in_za_27 _ (List.mem_of_getElem? (i := 20) rfl), by decide +kernel, _, rfl, rfl⟩, fun h => absurd h (by decide), fun h => absurd h (by decide), fun h => absurd h (by decide), fun h => absurd h (by decide), fun h => absurd h (by decide)⟩
theorem zo_C8_104 : zt_okC (8, 104, 0, 127) := ⟨fun _ => ⟨_, zM_X6_list, zo_M127, zt_in_za_27 _ (List.mem_of_getElem? (i := 21) rfl), zt_in_za_27 _ (List.mem_of_getElem? (i := 22) rfl), zt_in_za_27 _ (List.mem_of_getElem? (i := 23) rfl), by decide +kernel, _, rfl, rfl⟩, fun h => absurd h (by decide), fun h => absurd h (by decide), fun h => absurd h (by decide), fun h => absurd h (by decide), fun h => absurd h (by decide)⟩
theorem zo_C8_107 : zt_okC (8, 107, 0, 177) := ⟨fun _ => ⟨_, zM_X7_list, zo_M177, zt_in_za_27 _ (List.mem_of_getElem? (i := 24) rfl), zt_in_za_27 _ (List.mem_of_getElem? (i := 25) rfl), zt_in_za_27 _ (List.mem_of_getElem? (i := 26) rfl), by decide +kernel, _, rfl, rfl⟩, fun h => absurd h (by decide), fun h => absurd h (by decide), fun h => absurd h (by decide), fun h => absurd h (by decide), fun h => absurd h (by decide)⟩
theorem zo_C8_108 : zt_okC (8, 108, 0, 136) := ⟨fun _ => ⟨_, zM_X6_view, zo_M136, zt_in_za_27 _ (List.mem_of_getElem? (i := 27) rfl), zt_in_za_27 _ (List.mem_of_getElem? (i := 28) rfl), zt_in_za_27 _ (List.mem_of_getElem? (i := 29) rfl), by decide +kernel, _, rfl, rfl⟩, fun h => absurd h (by decide), fun h => absurd h (by decide), fun h => absurd h (by decide), fun h => absurd h (by decide), fun h => absurd h (by decide)⟩
theorem zo_C8_111 : zt_okC (8, 111, 0, 209) := ⟨fun _ => ⟨_, zM_X7_view, zo_M209, zt_in_za_28 _ (List.mem_of_getElem? (i := 0) rfl), zt_in_za_28 _ (List.mem_of_getElem? (i := 1) rfl), zt_in_za_28 _ (List.mem_of_getElem? (i := 2) rfl), by decide +kernel, _, rfl, rfl⟩, fun h => absurd h (by decide), fun h => absurd h (by decide), fun h => absurd h (by decide), fun h => absurd h (by decide), fun h => absurd h (by decide)⟩
theorem zo_C8_112 : zt_okC (8, 112, 0, 134) := ⟨fun _ => ⟨_, zM_X6_read, zo_M134, zt_in_za_28 _ (List.mem_of_getElem? (i := 3) rfl), zt_in_za_28 _ (List.mem_of_getElem? (i := 4) rfl), zt_in_za_28 _ (List.mem_of_getElem? (i := 5) rfl), by decide +kernel, _, rfl, rfl⟩, fun h => absurd h (by decide), fun h => absurd h (by decide), fun h => absurd h (by decide), fun h => absurd h (by decide), fun h => absurd h (by decide)⟩
theorem zo_C8_115 : zt_okC (8, 115, 0, 198) := ⟨fun _ => ⟨_, zM_X7_read, zo_M198, zt_in_za_28 _ (List.mem_of_getElem? (i := 6) rfl), zt_in_za_28 _ (List.mem_of_getElem? (i := 7) rfl), zt_in_za_28 _ (List.mem_of_getElem? (i := 8) rfl), by decide +kernel, _, rfl, rfl⟩, fun h => absurd h (by decide), fun h => absurd h (by decide), fun h => absurd h (by decide), fun h => absurd h (by decide), fun h => absurd h (by decide)⟩
theorem zo_C8_116 : zt_okC (8, 116, 0, 112) := ⟨fun _ => ⟨_, zM_X6_count, zo_M112, zt_in_za_28 _ (List.mem_of_getElem? (i := 9) rfl), zt_in_za_28 _ (List.mem_of_getElem? (i := 10) rfl), zt_in_za_28 _ (List.mem_of_getElem? (i := 11) rfl), by decide +kernel, _, rfl, rfl⟩, fun h => absurd h (by decide), fun h => absurd h (by decide), fun h => absurd h (by decide), fun h => absurd h (by decide), fun h => absurd h (by decide)⟩
theorem zo_C8_119 : zt_okC (8, 119, 0, 148) := ⟨fun _ => ⟨_, zM_X7_count, zo_M148, zt_in_za_28 _ (List.mem_of_getElem? (i := 12) rfl), zt_in_za_28 _ (List.mem_of_getElem? (i := 13) rfl), zt_in_za_28 _ (List.mem_of_getElem? (i := 14) rfl), by decide +kernel, _, rfl, rfl⟩, fun h => absurd h (by decide), fun h => absurd h (by decide), fun h => absurd h (by decide), fun h => absurd h (by decide), fun h => absurd h (by decide)⟩
theorem zo_C9_13 : zt_okC (9, 13, 1, 2) := ⟨fun h => absurd h (by decide), fun _ => ⟨_, zM_J7_rangeCheck_23922, zo_M2, Or.inl (zt_in_za_28 _ (List.mem_of_getElem? (i := 15) rfl)), zt_in_za_28 _ (List.mem_of_getElem? (i := 16) rfl), by decide +kernel⟩, fun h => absurd h (by decide), fun h => absurd h (by decide), fun h => absurd h (by decide), fun h => absurd h (by decide)⟩
theorem zo_Cg0 : ∀ e ∈ zt_Cl_0, zt_okC e := List.forall_mem_cons.mpr ⟨zo_C0_3, List.forall_mem_cons.mpr ⟨zo_C0_11, List.forall_mem_cons.mpr ⟨zo_C0_55, List.forall_mem_cons.mpr ⟨zo_C0_59, List.forall_mem_cons.mpr ⟨zo_C0_63, List.forall_mem_cons.mpr ⟨zo_C0_67, List.forall_mem_cons.mpr ⟨zo_C0_76, List.forall_mem_cons.mpr ⟨zo_C0_80, List.forall_mem_cons.mpr ⟨zo_C0_83, List.forall_mem_cons.mpr ⟨zo_C0_87, List.forall_mem_cons.mpr ⟨zo_C0_91, List.forall_mem_cons.mpr ⟨zo_C0_94, List.forall_mem_cons.mpr ⟨zo_C0_98, List.forall_mem_cons.mpr ⟨zo_C0_101, List.forall_mem_cons.mpr ⟨zo_C0_115, List.forall_mem_cons.mpr ⟨zo_C0_119, List.forall_mem_cons.mpr ⟨zo_C0_126, List.forall_mem_cons.mpr ⟨zo_C0_130, List.forall_mem_cons.mpr ⟨zo_C0_133, List.forall_mem_cons.mpr ⟨zo_C0_137, fun _ h => absurd h List.not_mem_nil⟩⟩⟩⟩⟩⟩⟩⟩⟩⟩⟩⟩⟩⟩⟩⟩⟩⟩⟩⟩
theorem zo_Cg1 : ∀ e ∈ zt_Cl_1, zt_okC e := List.forall_mem_cons.mpr ⟨zo_C0_144, List.forall_mem_cons.mpr ⟨zo_C0_148, List.forall_mem_cons.mpr ⟨zo_C0_155, List.forall_mem_cons.mpr ⟨zo_C0_165, List.forall_mem_cons.mpr ⟨zo_C0_168, List.forall_mem_cons.mpr ⟨zo_C0_184, List.forall_mem_cons.mpr ⟨zo_C0_188, List.forall_mem_cons.mpr ⟨zo_C1_3, List.forall_mem_cons.mpr ⟨zo_C1_19, List.forall_mem_cons.mpr ⟨zo_C1_23, List.forall_mem_cons.mpr ⟨zo_C1_26, List.forall_mem_cons.mpr ⟨zo_C1_32, List.forall_mem_cons.mpr ⟨zo_C1_38, List.forall_mem_cons.mpr ⟨zo_C1_41, List.forall_mem_cons.mpr ⟨zo_C1_48, List.forall_mem_cons.mpr ⟨zo_C1_68, List.forall_mem_cons.mpr ⟨zo_C1_71, List.forall_mem_cons.mpr ⟨zo_C1_74, List.forall_mem_cons.mpr ⟨zo_C1_77, List.forall_mem_cons.mpr ⟨zo_C1_80, fun _ h => absurd h List.not_mem_nil⟩⟩⟩⟩⟩⟩⟩⟩⟩⟩⟩⟩⟩⟩⟩⟩⟩⟩⟩⟩
theorem zo_Cg2 : ∀ e ∈ zt_Cl_2, zt_okC e := List.forall_mem_cons.mpr ⟨zo_C1_83, List.forall_mem_cons.mpr ⟨zo_C1_87, List.forall_mem_cons.mpr ⟨zo_C1_91, List.forall_mem_cons.mpr ⟨zo_C1_94, List.forall_mem_cons.mpr ⟨zo_C1_97, List.forall_mem_cons.mpr ⟨zo_C1_100, List.forall_mem_cons.mpr ⟨zo_C2_3, List.forall_mem_cons.mpr ⟨zo_C2_15, List.forall_mem_cons.mpr ⟨zo_C2_20, List.forall_mem_cons.mpr ⟨zo_C2_24, List.forall_mem_cons.mpr ⟨zo_C2_27, List.forall_mem_cons.mpr ⟨zo_C2_31, List.forall_mem_cons.mpr ⟨zo_C2_35, List.forall_mem_cons.mpr ⟨zo_C2_38, List.forall_mem_cons.mpr ⟨zo_C2_41, List.forall_mem_cons.mpr ⟨zo_C2_44, List.forall_mem_cons.mpr ⟨zo_C2_51, List.forall_mem_cons.mpr ⟨zo_C2_57, List.forall_mem_cons.mpr ⟨zo_C2_76, List.forall_mem_cons.mpr ⟨zo_C2_79, fun _ h => absurd h List.not_mem_nil⟩⟩⟩⟩⟩⟩⟩⟩⟩⟩⟩⟩⟩⟩⟩⟩⟩⟩⟩⟩
theorem zo_Cg3 : ∀ e ∈ zt_Cl_3, zt_okC e := List.forall_mem_cons.mpr ⟨zo_C2_82, List.forall_mem_cons.mpr ⟨zo_C2_86, List.forall_mem_cons.mpr ⟨zo_C2_90, List.forall_mem_cons.mpr ⟨zo_C2_93, List.forall_mem_cons.mpr ⟨zo_C2_97, List.forall_mem_cons.mpr ⟨zo_C2_100, List.forall_mem_cons.mpr ⟨zo_C2_104, List.forall_mem_cons.mpr ⟨zo_C2_107, List.forall_mem_cons.mpr ⟨zo_C2_110, List.forall_mem_cons.mpr ⟨zo_C2_113, List.forall_mem_cons.mpr ⟨zo_C2_116, List.forall_mem_cons.mpr ⟨zo_C2_119, List.forall_mem_cons.mpr ⟨zo_C2_122, List.forall_mem_cons.mpr ⟨zo_C2_125, List.forall_mem_cons.mpr ⟨zo_C2_128, List.forall_mem_cons.mpr ⟨zo_C2_131, List.forall_mem_cons.mpr ⟨zo_C2_134, List.forall_mem_cons.mpr ⟨zo_C3_3, List.forall_mem_cons.mpr ⟨zo_C3_39, List.forall_mem_cons.mpr ⟨zo_C3_46, fun _ h => absurd h List.not_mem_nil⟩⟩⟩⟩⟩⟩⟩⟩⟩⟩⟩⟩⟩⟩⟩⟩⟩⟩⟩⟩
theorem zo_Cg4 : ∀ e ∈ zt_Cl_4, zt_okC e := List.forall_mem_cons.mpr ⟨zo_C3_52, List.forall_mem_cons.mpr ⟨zo_C3_56, List.forall_mem_cons.mpr ⟨zo_C3_60, List.forall_mem_cons.mpr ⟨zo_C3_63, List.forall_mem_cons.mpr ⟨zo_C3_66, List.forall_mem_cons.mpr ⟨zo_C3_69, List.forall_mem_cons.mpr ⟨zo_C3_70, List.forall_mem_cons.mpr ⟨zo_C3_73, List.forall_mem_cons.mpr ⟨zo_C3_80, List.forall_mem_cons.mpr ⟨zo_C3_86, List.forall_mem_cons.mpr ⟨zo_C3_89, List.forall_mem_cons.mpr ⟨zo_C3_92, List.forall_mem_cons.mpr ⟨zo_C3_95, List.forall_mem_cons.mpr ⟨zo_C3_102, List.forall_mem_cons.mpr ⟨zo_C3_105, List.forall_mem_cons.mpr ⟨zo_C3_108, List.forall_mem_cons.mpr ⟨zo_C3_111, List.forall_mem_cons.mpr ⟨zo_C3_114, List.forall_mem_cons.mpr ⟨zo_C4_3, List.forall_mem_cons.mpr ⟨zo_C4_15, fun _ h => absurd h List.not_mem_nil⟩⟩⟩⟩⟩⟩⟩⟩⟩⟩⟩⟩⟩⟩⟩⟩⟩⟩⟩⟩
theorem zo_Cg5 : ∀ e ∈ zt_Cl_5, zt_okC e := List.forall_mem_cons.mpr ⟨zo_C4_19, List.forall_mem_cons.mpr ⟨zo_C4_27, List.forall_mem_cons.mpr ⟨zo_C4_32, List.forall_mem_cons.mpr ⟨zo_C4_38, List.forall_mem_cons.mpr ⟨zo_C4_42, List.forall_mem_cons.mpr ⟨zo_C4_45, List.forall_mem_cons.mpr ⟨zo_C5_3, List.forall_mem_cons.mpr ⟨zo_C5_39, List.forall_mem_cons.mpr ⟨zo_C5_49, List.forall_mem_cons.mpr ⟨zo_C5_53, List.forall_mem_cons.mpr ⟨zo_C5_57, List.forall_mem_cons.mpr ⟨zo_C5_61, List.forall_mem_cons.mpr ⟨zo_C6_3, List.forall_mem_cons.mpr ⟨zo_C6_11, List.forall_mem_cons.mpr ⟨zo_C6_22, List.forall_mem_cons.mpr ⟨zo_C6_31, List.forall_mem_cons.mpr ⟨zo_C6_38, List.forall_mem_cons.mpr ⟨zo_C6_45, List.forall_mem_cons.mpr ⟨zo_C6_50, List.forall_mem_cons.mpr ⟨zo_C6_54, fun _ h => absurd h List.not_mem_nil⟩⟩⟩⟩⟩⟩⟩⟩⟩⟩⟩⟩⟩⟩⟩⟩⟩⟩⟩⟩
theorem zo_Cg6 : ∀ e ∈ zt_Cl_6, zt_okC e := List.forall_mem_cons.mpr ⟨zo_C6_58, List.forall_mem_cons.mpr ⟨zo_C6_61, List.forall_mem_cons.mpr ⟨zo_C6_72, List.forall_mem_cons.mpr ⟨zo_C6_78, List.forall_mem_cons.mpr ⟨zo_C6_81, List.forall_mem_cons.mpr ⟨zo_C6_94, List.forall_mem_cons.mpr ⟨zo_C6_97, List.forall_mem_cons.mpr ⟨zo_C6_103, List.forall_mem_cons.mpr ⟨zo_C6_110, List.forall_mem_cons.mpr ⟨zo_C6_113, List.forall_mem_cons.mpr ⟨zo_C6_117, List.forall_mem_cons.mpr ⟨zo_C6_121, List.forall_mem_cons.mpr ⟨zo_C6_124, List.forall_mem_cons.mpr ⟨zo_C6_130, List.forall_mem_cons.mpr ⟨zo_C6_140, List.forall_mem_cons.mpr ⟨zo_C6_147, List.forall_mem_cons.mpr ⟨zo_C6_151, List.forall_mem_cons.mpr ⟨zo_C6_154, List.forall_mem_cons.mpr ⟨zo_C6_157, List.forall_mem_cons.mpr ⟨zo_C6_160, fun _ h => absurd h List.not_mem_nil⟩⟩⟩⟩⟩⟩⟩⟩⟩⟩⟩⟩⟩⟩⟩⟩⟩⟩⟩⟩
theorem zo_Cg7 : ∀ e ∈ zt_Cl_7, zt_okC e := List.forall_mem_cons.mpr ⟨zo_C6_163, List.forall_mem_cons.mpr ⟨zo_C6_166, List.forall_mem_cons.mpr ⟨zo_C6_169, List.forall_mem_cons.mpr ⟨zo_C6_173, List.forall_mem_cons.mpr ⟨zo_C6_176, List.forall_mem_cons.mpr ⟨zo_C6_179, List.forall_mem_cons.mpr ⟨zo_C6_180, List.forall_mem_cons.mpr ⟨zo_C6_184, List.forall_mem_cons.mpr ⟨zo_C6_187, List.forall_mem_cons.mpr ⟨zo_C6_190, List.forall_mem_cons.mpr ⟨zo_C6_193, List.forall_mem_cons.mpr ⟨zo_C6_194, List.forall_mem_cons.mpr ⟨zo_C6_195, List.forall_mem_cons.mpr ⟨zo_C6_196, List.forall_mem_cons.mpr ⟨zo_C6_199, List.forall_mem_cons.mpr ⟨zo_C6_208, List.forall_mem_cons.mpr ⟨zo_C7_1, List.forall_mem_cons.mpr ⟨zo_C7_101, List.forall_mem_cons.mpr ⟨zo_C7_108, List.forall_mem_cons.mpr ⟨zo_C7_112, fun _ h => absurd h List.not_mem_nil⟩⟩⟩⟩⟩⟩⟩⟩⟩⟩⟩⟩⟩⟩⟩⟩⟩⟩⟩⟩
theorem zo_Cg8 : ∀ e ∈ zt_Cl_8, zt_okC e := List.forall_mem_cons.mpr ⟨zo_C7_116, List.forall_mem_cons.mpr ⟨zo_C7_120, List.forall_mem_cons.mpr ⟨zo_C7_124, List.forall_mem_cons.mpr ⟨zo_C7_135, List.forall_mem_cons.mpr ⟨zo_C7_145, List.forall_mem_cons.mpr ⟨zo_C7_152, List.forall_mem_cons.mpr ⟨zo_C7_155, List.forall_mem_cons.mpr ⟨zo_C7_159, List.forall_mem_cons.mpr ⟨zo_C7_162, List.forall_mem_cons.mpr ⟨zo_C7_171, List.forall_mem_cons.mpr ⟨zo_C7_174, List.forall_mem_cons.mpr ⟨zo_C7_177, List.forall_mem_cons.mpr ⟨zo_C7_181, List.forall_mem_cons.mpr ⟨zo_C7_184, List.forall_mem_cons.mpr ⟨zo_C7_187, List.forall_mem_cons.mpr ⟨zo_C7_190, List.forall_mem_cons.mpr ⟨zo_C7_198, List.forall_mem_cons.mpr ⟨zo_C7_201, List.forall_mem_cons.mpr ⟨zo_C7_204, List.forall_mem_cons.mpr ⟨zo_C7_207, fun _ h => absurd h List.not_mem_nil⟩⟩⟩⟩⟩⟩⟩⟩⟩⟩⟩⟩⟩⟩⟩⟩⟩⟩⟩⟩
theorem zo_Cg9 : ∀ e ∈ zt_Cl_9, zt_okC e := List.forall_mem_cons.mpr ⟨zo_C7_210, List.forall_mem_cons.mpr ⟨zo_C7_213, List.forall_mem_cons.mpr ⟨zo_C7_216, List.forall_mem_cons.mpr ⟨zo_C7_219, List.forall_mem_cons.mpr ⟨zo_C7_222, List.forall_mem_cons.mpr ⟨zo_C7_226, List.forall_mem_cons.mpr ⟨zo_C7_229, List.forall_mem_cons.mpr ⟨zo_C7_232, List.forall_mem_cons.mpr ⟨zo_C7_235, List.forall_mem_cons.mpr ⟨zo_C7_238, List.forall_mem_cons.mpr ⟨zo_C7_241, List.forall_mem_cons.mpr ⟨zo_C7_244, List.forall_mem_cons.mpr ⟨zo_C7_247, List.forall_mem_cons.mpr ⟨zo_C7_251, List.forall_mem_cons.mpr ⟨zo_C7_254, List.forall_mem_cons.mpr ⟨zo_C7_260, List.forall_mem_cons.mpr ⟨zo_C7_263, List.forall_mem_cons.mpr ⟨zo_C7_266, List.forall_mem_cons.mpr ⟨zo_C7_272, List.forall_mem_cons.mpr ⟨zo_C7_275, fun _ h => absurd h List.not_mem_nil⟩⟩⟩⟩⟩⟩⟩⟩⟩⟩⟩⟩⟩⟩⟩⟩⟩⟩⟩⟩
theorem zo_Cg10 : ∀ e ∈ zt_Cl_10, zt_okC e := List.forall_mem_cons.mpr ⟨zo_C7_278, List.forall_mem_cons.mpr ⟨zo_C7_281, List.forall_mem_cons.mpr ⟨zo_C7_284, List.forall_mem_cons.mpr ⟨zo_C7_287, List.forall_mem_cons.mpr ⟨zo_C7_290, List.forall_mem_cons.mpr ⟨zo_C7_293, List.forall_mem_cons.mpr ⟨zo_C8_15, List.forall_mem_cons.mpr ⟨zo_C8_18, List.forall_mem_cons.mpr ⟨zo_C8_19, List.forall_mem_cons.mpr ⟨zo_C8_22, List.forall_mem_cons.mpr ⟨zo_C8_23, List.forall_mem_cons.mpr ⟨zo_C8_26, List.forall_mem_cons.mpr ⟨zo_C8_27, List.forall_mem_cons.mpr ⟨zo_C8_30, List.forall_mem_cons.mpr ⟨zo_C8_31, List.forall_mem_cons.mpr ⟨zo_C8_35, List.forall_mem_cons.mpr ⟨zo_C8_36, List.forall_mem_cons.mpr ⟨zo_C8_39, List.forall_mem_cons.mpr ⟨zo_C8_40, List.forall_mem_cons.mpr ⟨zo_C8_43, fun _ h => absurd h List.not_mem_nil⟩⟩⟩⟩⟩⟩⟩⟩⟩⟩⟩⟩⟩⟩⟩⟩⟩⟩⟩⟩
theorem zo_Cg11 : ∀ e ∈ zt_Cl_11, zt_okC e := List.forall_mem_cons.mpr ⟨zo_C8_44, List.forall_mem_cons.mpr ⟨zo_C8_48, List.forall_mem_cons.mpr ⟨zo_C8_49, List.forall_mem_cons.mpr ⟨zo_C8_53, List.forall_mem_cons.mpr ⟨zo_C8_54, List.forall_mem_cons.mpr ⟨zo_C8_58, List.forall_mem_cons.mpr ⟨zo_C8_59, List.forall_mem_cons.mpr ⟨zo_C8_62, List.forall_mem_cons.mpr ⟨zo_C8_63, List.forall_mem_cons.mpr ⟨zo_C8_66, List.forall_mem_cons.mpr ⟨zo_C8_67, List.forall_mem_cons.mpr ⟨zo_C8_70, List.forall_mem_cons.mpr ⟨zo_C8_71, List.forall_mem_cons.mpr ⟨zo_C8_76, List.forall_mem_cons.mpr ⟨zo_C8_77, List.forall_mem_cons.mpr ⟨zo_C8_80, List.forall_mem_cons.mpr ⟨zo_C8_83, List.forall_mem_cons.mpr ⟨zo_C8_84, List.forall_mem_cons.mpr ⟨zo_C8_87, List.forall_mem_cons.mpr ⟨zo_C8_88, fun _ h => absurd h List.not_mem_nil⟩⟩⟩⟩⟩⟩⟩⟩⟩⟩⟩⟩⟩⟩⟩⟩⟩⟩⟩⟩
theorem zo_Cg12 : ∀ e ∈ zt_Cl_12, zt_okC e := List.forall_mem_cons.mpr ⟨zo_C8_91, List.forall_mem_cons.mpr ⟨zo_C8_92, List.forall_mem_cons.mpr ⟨zo_C8_95, List.forall_mem_cons.mpr ⟨zo_C8_96, List.forall_mem_cons.mpr ⟨zo_C8_99, List.forall_mem_cons.mpr ⟨zo_C8_100, List.forall_mem_cons.mpr ⟨zo_C8_103, List.forall_mem_cons.mpr ⟨zo_C8_104, List.forall_mem_cons.mpr ⟨zo_C8_107, List.forall_mem_cons.mpr ⟨zo_C8_108, List.forall_mem_cons.mpr ⟨zo_C8_111, List.forall_mem_cons.mpr ⟨zo_C8_112, List.forall_mem_cons.mpr ⟨zo_C8_115, List.forall_mem_cons.mpr ⟨zo_C8_116, List.forall_mem_cons.mpr ⟨zo_C8_119, List.forall_mem_cons.mpr ⟨zo_C9_13, fun _ h => absurd h List.not_mem_nil⟩⟩⟩⟩⟩⟩⟩⟩⟩⟩⟩⟩⟩⟩⟩⟩
theorem zo_F0_12 : zt_okF (0, 12, 3, 0) := ⟨RX0, TX0, 16, rfl, rfl, by decide, zt_in_wsX00, zt_in_za_28 _ (List.mem_of_getElem? (i := 25) rfl), tyX0_ok, nmX0, rfl⟩
theorem zo_F0_18 : zt_okF (0, 18, 3, 1) := ⟨RX0, TX0, 16, rfl, rfl, by decide, zt_in_wsX00, zt_in_za_28 _ (List.mem_of_getElem? (i := 26) rfl), tyX0_ok, nmX0, rfl⟩
theorem zo_F0_22 : zt_okF (0, 22, 3, 2) := ⟨RX0, TX0, 16, rfl, rfl, by decide, zt_in_wsX00, zt_in_za_28 _ (List.mem_of_getElem? (i := 27) rfl), tyX0_ok, nmX0, rfl⟩
theorem zo_F0_25 : zt_okF (0, 25, 3, 3) := ⟨RX0, TX0, 16, rfl, rfl, by decide, zt_in_wsX00, zt_in_za_28 _ (List.mem_of_getElem? (i := 28) rfl), tyX0_ok, nmX0, rfl⟩
theorem zo_F0_28 : zt_okF (0, 28, 3, 4) := ⟨RX0, TX0, 16, rfl, rfl, by decide, zt_in_wsX00, zt_in_za_28 _ (List.mem_of_getElem? (i := 29) rfl), tyX0_ok, nmX0, rfl⟩
theorem zo_F0_31 : zt_okF (0, 31, 3, 5) := ⟨RX0, TX0, 16, rfl, rfl, by decide, zt_in_wsX00, zt_in_za_29 _ (List.mem_of_getElem? (i := 0) rfl), tyX0_ok, nmX0, rfl⟩
theorem zo_F0_34 : zt_okF (0, 34, 3, 6) := ⟨RX0, TX0, 16, rfl, rfl, by decide, zt_in_wsX00, zt_in_za_29 _ (List.mem_of_getElem? (i := 1) rfl), tyX0_ok, nmX0, rfl⟩
theorem zo_F0_37 : zt_okF (0, 37, 3, 7) := ⟨RX0, TX0, 16, rfl, rfl, by decide, zt_in_wsX00, zt_in_za_29 _ (List.mem_of_getElem? (i := 2) rfl), tyX0_ok, nmX0, rfl⟩
theorem zo_F0_40 : zt_okF (0, 40, 3, 8) := ⟨RX0, TX0, 16, rfl, rfl, by decide, zt_in_wsX00, zt_in_za_29 _ (List.mem_of_getElem? (i := 3) rfl), tyX0_ok, nmX0, rfl⟩
theorem zo_F0_43 : zt_okF (0, 43, 3, 9) := ⟨RX0, TX0, 16, rfl, rfl, by decide, zt_in_wsX00, zt_in_za_29 _ (List.mem_of_getElem? (i := 4) rfl), tyX0_ok, nmX0, rfl⟩
theorem zo_F0_46 : zt_okF (0, 46, 3, 10) := ⟨RX0, TX0, 16, rfl, rfl, by decide, zt_in_wsX00, zt_in_za_29 _ (List.mem_of_getElem? (i := 5) rfl), tyX0_ok, nmX0, rfl⟩
theorem zo_F0_49 : zt_okF (0, 49, 3, 11) := ⟨RX0, TX0, 16, rfl, rfl, by decide, zt_in_wsX00, zt_in_za_29 _ (List.mem_of_getElem? (i := 6) rfl), tyX0_ok, nmX0, rfl⟩
theorem zo_F0_52 : zt_okF (0, 52, 3, 12) := ⟨RX0, TX0, 16, rfl, rfl, by decide, zt_in_wsX00, zt_in_za_29 _ (List.mem_of_getElem? (i := 7) rfl), tyX0_ok, nmX0, rfl⟩
theorem zo_F0_70 : zt_okF (0, 70, 4, 1) := ⟨RX1, TX1, 8, rfl, rfl, by decide, zt_in_wsX10, zt_in_za_29 _ (List.mem_of_getElem? (i := 8) rfl), tyX1_ok, nmX1, rfl⟩
theorem zo_F0_107 : zt_okF (0, 107, 3, 13) := ⟨RX0, TX0, 16, rfl, rfl, by decide, zt_in_wsX00, zt_in_za_29 _ (List.mem_of_getElem? (i := 9) rfl), tyX0_ok, nmX0, rfl⟩
theorem zo_F0_110 : zt_okF (0, 110, 8, 0) := ⟨RX5, TX5, 11, rfl, rfl, by decide, zt_in_wsX50, zt_in_za_29 _ (List.mem_of_getElem? (i := 10) rfl), tyX5_ok, nmX5, rfl⟩
theorem zo_F0_123 : zt_okF (0, 123, 8, 8) := ⟨RX5, TX5, 11, rfl, rfl, by decide, zt_in_wsX50, zt_in_za_29 _ (List.mem_of_getElem? (i := 11) rfl), tyX5_ok, nmX5, rfl⟩
theorem zo_F0_141 : zt_okF (0, 141, 8, 5) := ⟨RX5, TX5, 11, rfl, rfl, by decide, zt_in_wsX50, zt_in_za_29 _ (List.mem_of_getElem? (i := 12) rfl), tyX5_ok, nmX5, rfl⟩
theorem zo_F0_152 : zt_okF (0, 152, 8, 6) := ⟨RX5, TX5, 11, rfl, rfl, by decide, zt_in_wsX50, zt_in_za_29 _ (List.mem_of_getElem? (i := 13) rfl), tyX5_ok, nmX5, rfl⟩
theorem zo_F0_159 : zt_okF (0, 159, 3, 14) := ⟨RX0, TX0, 16, rfl, rfl, by decide, zt_in_wsX00, zt_in_za_29 _ (List.mem_of_getElem? (i := 14) rfl), tyX0_ok, nmX0, rfl⟩
theorem zo_F0_162 : zt_okF (0, 162, 3, 15) := ⟨RX0, TX0, 16, rfl, rfl, by decide, zt_in_wsX00, zt_in_za_29 _ (List.mem_of_getElem? (i := 15) rfl), tyX0_ok, nmX0, rfl⟩
theorem zo_F0_172 : zt_okF (0, 172, 8, 2) := ⟨RX5, TX5, 11, rfl, rfl, by decide, zt_in_wsX50, zt_in_za_29 _ (List.mem_of_getElem? (i := 16) rfl), tyX5_ok, nmX5, rfl⟩
theorem zo_F0_175 : zt_okF (0, 175, 8, 1) := ⟨RX5, TX5, 11, rfl, rfl, by decide, zt_in_wsX50, zt_in_za_29 _ (List.mem_of_getElem? (i := 17) rfl), tyX5_ok, nmX5, rfl⟩
theorem zo_F0_178 : zt_okF (0, 178, 8, 3) := ⟨RX5, TX5, 11, rfl, rfl, by decide, zt_in_wsX50, zt_in_za_29 _ (List.mem_of_getElem? (i := 18) rfl), tyX5_ok, nmX5, rfl⟩
theorem zo_F0_181 : zt_okF (0, 181, 8, 4) := ⟨RX5, TX5, 11, rfl, rfl, by decide, zt_in_wsX50, zt_in_za_29 _ (List.mem_of_getElem? (i := 19) rfl), tyX5_ok, nmX5, rfl⟩
theorem zo_F1_9 : zt_okF (1, 9, 4, 0) := ⟨RX1, TX1, 8, rfl, rfl, by decide, zt_in_wsX10, zt_in_za_29 _ (List.mem_of_getElem? (i := 20) rfl), tyX1_ok, nmX1, rfl⟩
theorem zo_F1_15 : zt_okF (1, 15, 4, 1) := ⟨RX1, TX1, 8, rfl, rfl, by decide, zt_in_wsX10, zt_in_za_29 _ (List.mem_of_getElem? (i := 21) rfl), tyX1_ok, nmX1, rfl⟩
theorem zo_F1_45 : zt_okF (1, 45, 4, 2) := ⟨RX1, TX1, 8, rfl, rfl, by decide, zt_in_wsX10, zt_in_za_29 _ (List.mem_of_getElem? (i := 22) rfl), tyX1_ok, nmX1, rfl⟩
theorem zo_F1_51 : zt_okF (1, 51, 4, 3) := ⟨RX1, TX1, 8, rfl, rfl, by decide, zt_in_wsX10, zt_in_za_29 _ (List.mem_of_getElem? (i := 23) rfl), tyX1_ok, nmX1, rfl⟩
theorem zo_F1_54 : zt_okF (1, 54, 4, 4) := ⟨RX1, TX1, 8, rfl, rfl, by decide, zt_in_wsX10, zt_in_za_29 _ (List.mem_of_getElem? (i := 24) rfl), tyX1_ok, nmX1, rfl⟩
theorem zo_F1_57 : zt_okF (1, 57, 4, 5) := ⟨RX1, TX1, 8, rfl, rfl, by decide, zt_in_wsX10, zt_in_za_29 _ (List.mem_of_getElem? (i := 25) rfl), tyX1_ok, nmX1, rfl⟩
theorem zo_F1_60 : zt_okF (1, 60, 4, 6) := ⟨RX1, TX1, 8, rfl, rfl, by decide, zt_in_wsX10, zt_in_za_29 _ (List.mem_of_getElem? (i := 26) rfl), tyX1_ok, nmX1, rfl⟩
theorem zo_F1_63 : zt_okF (1, 63, 4, 7) := ⟨RX1, TX1, 8, rfl, rfl, by decide, zt_in_wsX10, zt_in_za_29 _ (List.mem_of_getElem? (i := 27) rfl), tyX1_ok, nmX1, rfl⟩
theorem zo_F2_9 : zt_okF (2, 9, 5, 0) := ⟨RX2, TX2, 1, rfl, rfl, by decide, zt_in_wsX20, zt_in_za_29 _ (List.mem_of_getElem? (i := 28) rfl), tyX2_ok, nmX2, rfl⟩
theorem zo_F2_47 : zt_okF (2, 47, 4, 1) := ⟨RX1, TX1, 8, rfl, rfl, by decide, zt_in_wsX10, zt_in_za_29 _ (List.mem_of_getElem? (i := 29) rfl), tyX1_ok, nmX1, rfl⟩
theorem zo_F2_54 : zt_okF (2, 54, 4, 2) := ⟨RX1, TX1, 8, rfl, rfl, by decide, zt_in_wsX10, zt_in_za_30 _ (List.mem_of_getElem? (i := 0) rfl), tyX1_ok, nmX1, rfl⟩
theorem zo_F2_61 : zt_okF (2, 61, 4, 4) := ⟨RX1, TX1, 8, rfl, rfl, by decide, zt_in_wsX10, zt_in_za_30 _ (List.mem_of_getElem? (i := 1) rfl), tyX1_ok, nmX1, rfl⟩
theorem zo_F2_64 : zt_okF (2, 64, 4, 5) := ⟨RX1, TX1, 8, rfl, rfl, by decide, zt_in_wsX10, zt_in_za_30 _ (List.mem_of_getElem? (i := 2) rfl), tyX1_ok, nmX1, rfl⟩
theorem zo_F2_67 : zt_okF (2, 67, 4, 6) := ⟨RX1, TX1, 8, rfl, rfl, by decide, zt_in_wsX10, zt_in_za_30 _ (List.mem_of_getElem? (i := 3) rfl), tyX1_ok, nmX1, rfl⟩
theorem zo_F2_70 : zt_okF (2, 70, 4, 7) := ⟨RX1, TX1, 8, rfl, rfl, by decide, zt_in_wsX10, zt_in_za_30 _ (List.mem_of_getElem? (i := 4) rfl), tyX1_ok, nmX1, rfl⟩
theorem zo_F2_73 : zt_okF (2, 73, 4, 3) := ⟨RX1, TX1, 8, rfl, rfl, by decide, zt_in_wsX10, zt_in_za_30 _ (List.mem_of_getElem? (i := 5) rfl), tyX1_ok, nmX1, rfl⟩
theorem zo_F3_9 : zt_okF (3, 9, 6, 0) := ⟨RX3, TX3, 12, rfl, rfl, by decide, zt_in_wsX30, zt_in_za_30 _ (List.mem_of_getElem? (i := 6) rfl), tyX3_ok, nmX3, rfl⟩
theorem zo_F3_17 : zt_okF (3, 17, 6, 1) := ⟨RX3, TX3, 12, rfl, rfl, by decide, zt_in_wsX30, zt_in_za_30 _ (List.mem_of_getElem? (i := 7) rfl), tyX3_ok, nmX3, rfl⟩
theorem zo_F3_21 : zt_okF (3, 21, 6, 2) := ⟨RX3, TX3, 12, rfl, rfl, by decide, zt_in_wsX30, zt_in_za_30 _ (List.mem_of_getElem? (i := 8) rfl), tyX3_ok, nmX3, rfl⟩
theorem zo_F3_24 : zt_okF (3, 24, 6, 3) := ⟨RX3, TX3, 12, rfl, rfl, by decide, zt_in_wsX30, zt_in_za_30 _ (List.mem_of_getElem? (i := 9) rfl), tyX3_ok, nmX3, rfl⟩
theorem zo_F3_27 : zt_okF (3, 27, 6, 4) := ⟨RX3, TX3, 12, rfl, rfl, by decide, zt_in_wsX30, zt_in_za_30 _ (List.mem_of_getElem? (i := 10) rfl), tyX3_ok, nmX3, rfl⟩
theorem zo_F3_30 : zt_okF (3, 30, 6, 5) := ⟨RX3, TX3, 12, rfl, rfl, by decide, zt_in_wsX30, zt_in_za_30 _ (List.mem_of_getElem? (i := 11) rfl), tyX3_ok, nmX3, rfl⟩
theorem zo_F3_33 : zt_okF (3, 33, 6, 6) := ⟨RX3, TX3, 12, rfl, rfl, by decide, zt_in_wsX30, zt_in_za_30 _ (List.mem_of_getElem? (i := 12) rfl), tyX3_ok, nmX3, rfl⟩
theorem zo_F3_36 : zt_okF (3, 36, 6, 7) := ⟨RX3, TX3, 12, rfl, rfl, by decide, zt_in_wsX30, zt_in_za_30 _ (List.mem_of_getElem? (i := 13) rfl), tyX3_ok, nmX3, rfl⟩
theorem zo_F3_42 : zt_okF (3, 42, 6, 10) := ⟨RX3, TX3, 12, rfl, rfl, by decide, zt_in_wsX30, zt_in_za_30 _ (List.mem_of_getElem? (i := 14) rfl), tyX3_ok, nmX3, rfl⟩
theorem zo_F3_49 : zt_okF (3, 49, 6, 11) := ⟨RX3, TX3, 12, rfl, rfl, by decide, zt_in_wsX30, zt_in_za_30 _ (List.mem_of_getElem? (i := 15) rfl), tyX3_ok, nmX3, rfl⟩
theorem zo_F3_77 : zt_okF (3, 77, 6, 9) := ⟨RX3, TX3, 12, rfl, rfl, by decide, zt_in_wsX30, zt_in_za_30 _ (List.mem_of_getElem? (i := 16) rfl), tyX3_ok, nmX3, rfl⟩
theorem zo_F3_99 : zt_okF (3, 99, 6, 8) := ⟨RX3, TX3, 12, rfl, rfl, by decide, zt_in_wsX30, zt_in_za_30 _ (List.mem_of_getElem? (i := 17) rfl), tyX3_ok, nmX3, rfl⟩
theorem zo_F4_9 : zt_okF (4, 9, 7, 0) := ⟨RX4, TX4, 2, rfl, rfl, by decide, zt_in_wsX40, zt_in_za_30 _ (List.mem_of_getElem? (i := 18) rfl), tyX4_ok, nmX4, rfl⟩
theorem zo_F4_23 : zt_okF (4, 23, 7, 1) := ⟨RX4, TX4, 2, rfl, rfl, by decide, zt_in_wsX40, zt_in_za_30 _ (List.mem_of_getElem? (i := 19) rfl), tyX4_ok, nmX4, rfl⟩
theorem zo_F5_9 : zt_okF (5, 9, 8, 0) := ⟨RX5, TX5, 11, rfl, rfl, by decide, zt_in_wsX50, zt_in_za_30 _ (List.mem_of_getElem? (i := 20) rfl), tyX5_ok, nmX5, rfl⟩
theorem zo_F5_15 : zt_okF (5, 15, 8, 1) := ⟨RX5, TX5, 11, rfl, rfl, by decide, zt_in_wsX50, zt_in_za_30 _ (List.mem_of_getElem? (i := 21) rfl), tyX5_ok, nmX5, rfl⟩
theorem zo_F5_18 : zt_okF (5, 18, 8, 2) := ⟨RX5, TX5, 11, rfl, rfl, by decide, zt_in_wsX50, zt_in_za_30 _ (List.mem_of_getElem? (i := 22) rfl), tyX5_ok, nmX5, rfl⟩
theorem zo_F5_21 : zt_okF (5, 21, 8, 3) := ⟨RX5, TX5, 11, rfl, rfl, by decide, zt_in_wsX50, zt_in_za_30 _ (List.mem_of_getElem? (i := 23) rfl), tyX5_ok, nmX5, rfl⟩
theorem zo_F5_24 : zt_okF (5, 24, 8, 4) := ⟨RX5, TX5, 11, rfl, rfl, by decide, zt_in_wsX50, zt_in_za_30 _ (List.mem_of_getElem? (i := 24) rfl), tyX5_ok, nmX5, rfl⟩
theorem zo_F5_27 : zt_okF (5, 27, 8, 5) := ⟨RX5, TX5, 11, rfl, rfl, by decide, zt_in_wsX50, zt_in_za_30 _ (List.mem_of_getElem? (i := 25) rfl), tyX5_ok, nmX5, rfl⟩
theorem zo_F5_30 : zt_okF (5, 30, 8, 6) := ⟨RX5, TX5, 11, rfl, rfl, by decide, zt_in_wsX50, zt_in_za_30 _ (List.mem_of_getElem? (i := 26) rfl), tyX5_ok, nmX5, rfl⟩
theorem zo_F5_33 : zt_okF (5, 33, 8, 7) := ⟨RX5, TX5, 11, rfl, rfl, by decide, zt_in_wsX50, zt_in_za_30 _ (List.mem_of_getElem? (i := 27) rfl), tyX5_ok, nmX5, rfl⟩
theorem zo_F5_36 : zt_okF (5, 36, 8, 8) := ⟨RX5, TX5, 11, rfl, rfl, by decide, zt_in_wsX50, zt_in_za_30 _ (List.mem_of_getElem? (i := 28) rfl), tyX5_ok, nmX5, rfl⟩
theorem zo_F5_42 : zt_okF (5, 42, 8, 10) := ⟨RX5, TX5, 11, rfl, rfl, by decide, zt_in_wsX50, zt_in_za_30 _ (List.mem_of_getElem? (i := 29) rfl), tyX5_ok, nmX5, rfl⟩
theorem zo_F5_46 : zt_okF (5, 46, 8, 9) := ⟨RX5, TX5, 11, rfl, rfl, by decide, zt_in_wsX50, zt_in_za_31 _ (List.mem_of_getElem? (i := 0) rfl), tyX5_ok, nmX5, rfl⟩
theorem zo_F6_12 : zt_okF (6, 12, 9, 0) := ⟨RX6, TX6, 7, rfl, rfl, by decide, zt_in_wsX60, zt_in_za_31 _ (List.mem_of_getElem? (i := 1) rfl), tyX6_ok, nmX6, rfl⟩
theorem zo_F6_18 : zt_okF (6, 18, 9, 1) := ⟨RX6, TX6, 7, rfl, rfl, by decide, zt_in_wsX60, zt_in_za_31 _ (List.mem_of_getElem? (i := 2) rfl), tyX6_ok, nmX6, rfl⟩
theorem zo_F6_25 : zt_okF (6, 25, 9, 2) := ⟨RX6, TX6, 7, rfl, rfl, by decide, zt_in_wsX60, zt_in_za_31 _ (List.mem_of_getElem? (i := 3) rfl), tyX6_ok, nmX6, rfl⟩
theorem zo_F6_32 : zt_okF (6, 32, 9, 3) := ⟨RX6, TX6, 7, rfl, rfl, by decide, zt_in_wsX60, zt_in_za_31 _ (List.mem_of_getElem? (i := 4) rfl), tyX6_ok, nmX6, rfl⟩
theorem zo_F6_39 : zt_okF (6, 39, 9, 4) := ⟨RX6, TX6, 7, rfl, rfl, by decide, zt_in_wsX60, zt_in_za_31 _ (List.mem_of_getElem? (i := 5) rfl), tyX6_ok, nmX6, rfl⟩
theorem zo_F6_46 : zt_okF (6, 46, 9, 5) := ⟨RX6, TX6, 7, rfl, rfl, by decide, zt_in_wsX60, zt_in_za_31 _ (List.mem_of_getElem? (i := 6) rfl), tyX6_ok, nmX6, rfl⟩
theorem zo_F6_65 : zt_okF (6, 65, 8, 0) := ⟨RX5, TX5, 11, rfl, rfl, by decide, zt_in_wsX50, zt_in_za_31 _ (List.mem_of_getElem? (i := 7) rfl), tyX5_ok, nmX5, rfl⟩
theorem zo_F6_69 : zt_okF (6, 69, 8, 3) := ⟨RX5, TX5, 11, rfl, rfl, by decide, zt_in_wsX50, zt_in_za_31 _ (List.mem_of_getElem? (i := 8) rfl), tyX5_ok, nmX5, rfl⟩
theorem zo_F6_75 : zt_okF (6, 75, 8, 5) := ⟨RX5, TX5, 11, rfl, rfl, by decide, zt_in_wsX50, zt_in_za_31 _ (List.mem_of_getElem? (i := 9) rfl), tyX5_ok, nmX5, rfl⟩
theorem zo_F6_84 : zt_okF (6, 84, 8, 1) := ⟨RX5, TX5, 11, rfl, rfl, by decide, zt_in_wsX50, zt_in_za_31 _ (List.mem_of_getElem? (i := 10) rfl), tyX5_ok, nmX5, rfl⟩
theorem zo_F6_87 : zt_okF (6, 87, 8, 2) := ⟨RX5, TX5, 11, rfl, rfl, by decide, zt_in_wsX50, zt_in_za_31 _ (List.mem_of_getElem? (i := 11) rfl), tyX5_ok, nmX5, rfl⟩
theorem zo_F6_90 : zt_okF (6, 90, 8, 9) := ⟨RX5, TX5, 11, rfl, rfl, by decide, zt_in_wsX50, zt_in_za_31 _ (List.mem_of_getElem? (i := 12) rfl), tyX5_ok, nmX5, rfl⟩
theorem zo_F6_100 : zt_okF (6, 100, 9, 6) := ⟨RX6, TX6, 7, rfl, rfl, by decide, zt_in_wsX60, zt_in_za_31 _ (List.mem_of_getElem? (i := 13) rfl), tyX6_ok, nmX6, rfl⟩
theorem zo_F6_107 : zt_okF (6, 107, 4, 1) := ⟨RX1, TX1, 8, rfl, rfl, by decide, zt_in_wsX10, zt_in_za_31 _ (List.mem_of_getElem? (i := 14) rfl), tyX1_ok, nmX1, rfl⟩
theorem zo_F6_134 : zt_okF (6, 134, 4, 2) := ⟨RX1, TX1, 8, rfl, rfl, by decide, zt_in_wsX10, zt_in_za_31 _ (List.mem_of_getElem? (i := 15) rfl), tyX1_ok, nmX1, rfl⟩
theorem zo_F6_137 : zt_okF (6, 137, 4, 3) := ⟨RX1, TX1, 8, rfl, rfl, by decide, zt_in_wsX10, zt_in_za_31 _ (List.mem_of_getElem? (i := 16) rfl), tyX1_ok, nmX1, rfl⟩
theorem zo_F6_144 : zt_okF (6, 144, 4, 4) := ⟨RX1, TX1, 8, rfl, rfl, by decide, zt_in_wsX10, zt_in_za_31 _ (List.mem_of_getElem? (i := 17) rfl), tyX1_ok, nmX1, rfl⟩
theorem zo_F6_202 : zt_okF (6, 202, 6, 10) := ⟨RX3, TX3, 12, rfl, rfl, by decide, zt_in_wsX30, zt_in_za_31 _ (List.mem_of_getElem? (i := 18) rfl), tyX3_ok, nmX3, rfl⟩
theorem zo_F6_205 : zt_okF (6, 205, 6, 11) := ⟨RX3, TX3, 12, rfl, rfl, by decide, zt_in_wsX30, zt_in_za_31 _ (List.mem_of_getElem? (i := 19) rfl), tyX3_ok, nmX3, rfl⟩
theorem zo_F7_7 : zt_okF (7, 7, 10, 2) := ⟨RX7, TX7, 41, rfl, rfl, by decide, zt_in_wsX70, zt_in_za_31 _ (List.mem_of_getElem? (i := 20) rfl), tyX7_ok, nmX7, rfl⟩
theorem zo_F7_13 : zt_okF (7, 13, 10, 3) := ⟨RX7, TX7, 41, rfl, rfl, by decide, zt_in_wsX70, zt_in_za_31 _ (List.mem_of_getElem? (i := 21) rfl), tyX7_ok, nmX7, rfl⟩
theorem zo_F7_16 : zt_okF (7, 16, 10, 4) := ⟨RX7, TX7, 41, rfl, rfl, by decide, zt_in_wsX70, zt_in_za_31 _ (List.mem_of_getElem? (i := 22) rfl), tyX7_ok, nmX7, rfl⟩
theorem zo_F7_19 : zt_okF (7, 19, 10, 5) := ⟨RX7, TX7, 41, rfl, rfl, by decide, zt_in_wsX70, zt_in_za_31 _ (List.mem_of_getElem? (i := 23) rfl), tyX7_ok, nmX7, rfl⟩
theorem zo_F7_22 : zt_okF (7, 22, 10, 6) := ⟨RX7, TX7, 41, rfl, rfl, by decide, zt_in_wsX70, zt_in_za_31 _ (List.mem_of_getElem? (i := 24) rfl), tyX7_ok, nmX7, rfl⟩
theorem zo_F7_25 : zt_okF (7, 25, 10, 8) := ⟨RX7, TX7, 41, rfl, rfl, by decide, zt_in_wsX70, zt_in_za_31 _ (List.mem_of_getElem? (i := 25) rfl), tyX7_ok, nmX7, rfl⟩
theorem zo_F7_28 : zt_okF (7, 28, 10, 9) := ⟨RX7, TX7, 41, rfl, rfl, by decide, zt_in_wsX70, zt_in_za_31 _ (List.mem_of_getElem? (i := 26) rfl), tyX7_ok, nmX7, rfl⟩
theorem zo_F7_31 : zt_okF (7, 31, 10, 10) := ⟨RX7, TX7, 41, rfl, rfl, by decide, zt_in_wsX70, zt_in_za_31 _ (List.mem_of_getElem? (i := 27) rfl), tyX7_ok, nmX7, rfl⟩
theorem zo_F7_34 : zt_okF (7, 34, 10, 12) := ⟨RX7, TX7, 41, rfl, rfl, by decide, zt_in_wsX70, zt_in_za_31 _ (List.mem_of_getElem? (i := 28) rfl), tyX7_ok, nmX7, rfl⟩
theorem zo_F7_37 : zt_okF (7, 37, 10, 13) := ⟨RX7, TX7, 41, rfl, rfl, by decide, zt_in_wsX70, zt_in_za_31 _ (List.mem_of_getElem? (i := 29) rfl), tyX7_ok, nmX7, rfl⟩
theorem zo_F7_40 : zt_okF (7, 40, 10, 16) := ⟨RX7, TX7, 41, rfl, rfl, by decide, zt_in_wsX70, zt_in_za_32 _ (List.mem_of_getElem? (i := 0) rfl), tyX7_ok, nmX7, rfl⟩
theorem zo_F7_43 : zt_okF (7, 43, 10, 17) := ⟨RX7, TX7, 41, rfl, rfl, by decide, zt_in_wsX70, zt_in_za_32 _ (List.mem_of_getElem? (i := 1) rfl), tyX7_ok, nmX7, rfl⟩
theorem zo_F7_46 : zt_okF (7, 46, 10, 20) := ⟨RX7, TX7, 41, rfl, rfl, by decide, zt_in_wsX70, zt_in_za_32 _ (List.mem_of_getElem? (i := 2) rfl), tyX7_ok, nmX7, rfl⟩
theorem zo_F7_49 : zt_okF (7, 49, 10, 21) := ⟨RX7, TX7, 41, rfl, rfl, by decide, zt_in_wsX70, zt_in_za_32 _ (List.mem_of_getElem? (i := 3) rfl), tyX7_ok, nmX7, rfl⟩
theorem zo_F7_52 : zt_okF (7, 52, 10, 23) := ⟨RX7, TX7, 41, rfl, rfl, by decide, zt_in_wsX70, zt_in_za_32 _ (List.mem_of_getElem? (i := 4) rfl), tyX7_ok, nmX7, rfl⟩
theorem zo_F7_55 : zt_okF (7, 55, 10, 24) := ⟨RX7, TX7, 41, rfl, rfl, by decide, zt_in_wsX70, zt_in_za_32 _ (List.mem_of_getElem? (i := 5) rfl), tyX7_ok, nmX7, rfl⟩
theorem zo_F7_58 : zt_okF (7, 58, 10, 25) := ⟨RX7, TX7, 41, rfl, rfl, by decide, zt_in_wsX70, zt_in_za_32 _ (List.mem_of_getElem? (i := 6) rfl), tyX7_ok, nmX7, rfl⟩
theorem zo_F7_61 : zt_okF (7, 61, 10, 26) := ⟨RX7, TX7, 41, rfl, rfl, by decide, zt_in_wsX70, zt_in_za_32 _ (List.mem_of_getElem? (i := 7) rfl), tyX7_ok, nmX7, rfl⟩
theorem zo_F7_64 : zt_okF (7, 64, 10, 28) := ⟨RX7, TX7, 41, rfl, rfl, by decide, zt_in_wsX70, zt_in_za_32 _ (List.mem_of_getElem? (i := 8) rfl), tyX7_ok, nmX7, rfl⟩
theorem zo_F7_67 : zt_okF (7, 67, 10, 29) := ⟨RX7, TX7, 41, rfl, rfl, by decide, zt_in_wsX70, zt_in_za_32 _ (List.mem_of_getElem? (i := 9) rfl), tyX7_ok, nmX7, rfl⟩
theorem zo_F7_70 : zt_okF (7, 70, 10, 30) := ⟨RX7, TX7, 41, rfl, rfl, by decide, zt_in_wsX70, zt_in_za_32 _ (List.mem_of_getElem? (i := 10) rfl), tyX7_ok, nmX7, rfl⟩
theorem zo_F7_73 : zt_okF (7, 73, 10, 31) := ⟨RX7, TX7, 41, rfl, rfl, by decide, zt_in_wsX70, zt_in_za_32 _ (List.mem_of_getElem? (i := 11) rfl), tyX7_ok, nmX7, rfl⟩
theorem zo_F7_76 : zt_okF (7, 76, 10, 32) := ⟨RX7, TX7, 41, rfl, rfl, by decide, zt_in_wsX70, zt_in_za_32 _ (List.mem_of_getElem? (i := 12) rfl), tyX7_ok, nmX7, rfl⟩
theorem zo_F7_79 : zt_okF (7, 79, 10, 33) := ⟨RX7, TX7, 41, rfl, rfl, by decide, zt_in_wsX70, zt_in_za_32 _ (List.mem_of_getElem? (i := 13) rfl), tyX7_ok, nmX7, rfl⟩
theorem zo_F7_82 : zt_okF (7, 82, 10, 36) := ⟨RX7, TX7, 41, rfl, rfl, by decide, zt_in_wsX70, zt_in_za_32 _ (List.mem_of_getElem? (i := 14) rfl), tyX7_ok, nmX7, rfl⟩
theorem zo_F7_85 : zt_okF (7, 85, 10, 38) := ⟨RX7, TX7, 41, rfl, rfl, by decide, zt_in_wsX70, zt_in_za_32 _ (List.mem_of_getElem? (i := 15) rfl), tyX7_ok, nmX7, rfl⟩
theorem zo_F7_88 : zt_okF (7, 88, 10, 39) := ⟨RX7, TX7, 41, rfl, rfl, by decide, zt_in_wsX70, zt_in_za_32 _ (List.mem_of_getElem? (i := 16) rfl), tyX7_ok, nmX7, rfl⟩
theorem zo_F7_91 : zt_okF (7, 91, 10, 40) := ⟨RX7, TX7, 41, rfl, rfl, by decide, zt_in_wsX70, zt_in_za_32 _ (List.mem_of_getElem? (i := 17) rfl), tyX7_ok, nmX7, rfl⟩
theorem zo_F7_94 : zt_okF (7, 94, 10, 1) := ⟨RX7, TX7, 41, rfl, rfl, by decide, zt_in_wsX70, zt_in_za_32 _ (List.mem_of_getElem? (i := 18) rfl), tyX7_ok, nmX7, rfl⟩
theorem zo_F7_98 : zt_okF (7, 98, 10, 0) := ⟨RX7, TX7, 41, rfl, rfl, by decide, zt_in_wsX70, zt_in_za_32 _ (List.mem_of_getElem? (i := 19) rfl), tyX7_ok, nmX7, rfl⟩
theorem zo_F7_105 : zt_okF (7, 105, 10, 7) := ⟨RX7, TX7, 41, rfl, rfl, by decide, zt_in_wsX70, zt_in_za_32 _ (List.mem_of_getElem? (i := 20) rfl), tyX7_ok, nmX7, rfl⟩
theorem zo_F7_129 : zt_okF (7, 129, 10, 14) := ⟨RX7, TX7, 41, rfl, rfl, by decide, zt_in_wsX70, zt_in_za_32 _ (List.mem_of_getElem? (i := 21) rfl), tyX7_ok, nmX7, rfl⟩
theorem zo_F7_132 : zt_okF (7, 132, 10, 15) := ⟨RX7, TX7, 41, rfl, rfl, by decide, zt_in_wsX70, zt_in_za_32 _ (List.mem_of_getElem? (i := 22) rfl), tyX7_ok, nmX7, rfl⟩
theorem zo_F7_139 : zt_okF (7, 139, 10, 19) := ⟨RX7, TX7, 41, rfl, rfl, by decide, zt_in_wsX70, zt_in_za_32 _ (List.mem_of_getElem? (i := 23) rfl), tyX7_ok, nmX7, rfl⟩
theorem zo_F7_142 : zt_okF (7, 142, 10, 18) := ⟨RX7, TX7, 41, rfl, rfl, by decide, zt_in_wsX70, zt_in_za_32 _ (List.mem_of_getElem? (i := 24) rfl), tyX7_ok, nmX7, rfl⟩
theorem zo_F7_149 : zt_okF (7, 149, 10, 22) := ⟨RX7, TX7, 41, rfl, rfl, by decide, zt_in_wsX70, zt_in_za_32 _ (List.mem_of_getElem? (i := 25) rfl), tyX7_ok, nmX7, rfl⟩
theorem zo_F7_165 : zt_okF (7, 165, 10, 27) := ⟨RX7, TX7, 41, rfl, rfl, by decide, zt_in_wsX70, zt_in_za_32 _ (List.mem_of_getElem? (i := 26) rfl), tyX7_ok, nmX7, rfl⟩
theorem zo_F7_168 : zt_okF (7, 168, 10, 11) := ⟨RX7, TX7, 41, rfl, rfl, by decide, zt_in_wsX70, zt_in_za_32 _ (List.mem_of_getElem? (i := 27) rfl), tyX7_ok, nmX7, rfl⟩
theorem zo_F7_195 : zt_okF (7, 195, 10, 34) := ⟨RX7, TX7, 41, rfl, rfl, by decide, zt_in_wsX70, zt_in_za_32 _ (List.mem_of_getElem? (i := 28) rfl), tyX7_ok, nmX7, rfl⟩
theorem zo_F7_257 : zt_okF (7, 257, 10, 35) := ⟨RX7, TX7, 41, rfl, rfl, by decide, zt_in_wsX70, zt_in_za_32 _ (List.mem_of_getElem? (i := 29) rfl), tyX7_ok, nmX7, rfl⟩
theorem zo_F7_269 : zt_okF (7, 269, 10, 37) := ⟨RX7, TX7, 41, rfl, rfl, by decide, zt_in_wsX70, zt_in_za_33 _ (List.mem_of_getElem? (i := 0) rfl), tyX7_ok, nmX7, rfl⟩
theorem zo_Fg0 : ∀ e ∈ zt_Fl_0, zt_okF e := List.forall_mem_cons.mpr ⟨zo_F0_12, List.forall_mem_cons.mpr ⟨zo_F0_18, List.forall_mem_cons.mpr ⟨zo_F0_22, List.forall_mem_cons.mpr ⟨zo_F0_25, List.forall_mem_cons.mpr ⟨zo_F0_28, List.forall_mem_cons.mpr ⟨zo_F0_31, List.forall_mem_cons.mpr ⟨zo_F0_34, List.forall_mem_cons.mpr ⟨zo_F0_37, List.forall_mem_cons.mpr ⟨zo_F0_40, List.forall_mem_cons.mpr ⟨zo_F0_43, List.forall_mem_cons.mpr ⟨zo_F0_46, List.forall_mem_cons.mpr ⟨zo_F0_49, List.forall_mem_cons.mpr ⟨zo_F0_52, List.forall_mem_cons.mpr ⟨zo_F0_70, List.forall_mem_cons.mpr ⟨zo_F0_107, List.forall_mem_cons.mpr ⟨zo_F0_110, List.forall_mem_cons.mpr ⟨zo_F0_123, List.forall_mem_cons.mpr ⟨zo_F0_141, List.forall_mem_cons.mpr ⟨zo_F0_152, List.forall_mem_cons.mpr ⟨zo_F0_159, fun _ h => absurd h List.not_mem_nil⟩⟩⟩⟩⟩⟩⟩⟩⟩⟩⟩⟩⟩⟩⟩⟩⟩⟩⟩⟩
theorem zo_Fg1 : ∀ e ∈ zt_Fl_1, zt_okF e := List.forall_mem_cons.mpr ⟨zo_F0_162, List.forall_mem_cons.mpr ⟨zo_F0_172, List.forall_mem_cons.mpr ⟨zo_F0_175, List.forall_mem_cons.mpr ⟨zo_F0_178, List.forall_mem_cons.mpr ⟨zo_F0_181, List.forall_mem_cons.mpr ⟨zo_F1_9, List.forall_mem_cons.mpr ⟨zo_F1_15, List.forall_mem_cons.mpr ⟨zo_F1_45, List.forall_mem_cons.mpr ⟨zo_F1_51, List.forall_mem_cons.mpr ⟨zo_F1_54, List.forall_mem_cons.mpr ⟨zo_F1_57, List.forall_mem_cons.mpr ⟨zo_F1_60, List.forall_mem_cons.mpr ⟨zo_F1_63, List.forall_mem_cons.mpr ⟨zo_F2_9, List.forall_mem_cons.mpr ⟨zo_F2_47, List.forall_mem_cons.mpr ⟨zo_F2_54, List.forall_mem_cons.mpr ⟨zo_F2_61, List.forall_mem_cons.mpr ⟨zo_F2_64, List.forall_mem_cons.mpr ⟨zo_F2_67, List.forall_mem_cons.mpr ⟨zo_F2_70, fun _ h => absurd h List.not_mem_nil⟩⟩⟩⟩⟩⟩⟩⟩⟩⟩⟩⟩⟩⟩⟩⟩⟩⟩⟩⟩
theorem zo_Fg2 : ∀ e ∈ zt_Fl_2, zt_okF e := List.forall_mem_cons.mpr ⟨zo_F2_73, List.forall_mem_cons.mpr ⟨zo_F3_9, List.forall_mem_cons.mpr ⟨zo_F3_17, List.forall_mem_cons.mpr ⟨zo_F3_21, List.forall_mem_cons.mpr ⟨zo_F3_24, List.forall_mem_cons.mpr ⟨zo_F3_27, List.forall_mem_cons.mpr ⟨zo_F3_30, List.forall_mem_cons.mpr ⟨zo_F3_33, List.forall_mem_cons.mpr ⟨zo_F3_36, List.forall_mem_cons.mpr ⟨zo_F3_42, List.forall_mem_cons.mpr ⟨zo_F3_49, List.forall_mem_cons.mpr ⟨zo_F3_77, List.forall_mem_cons.mpr ⟨zo_F3_99, List.forall_mem_cons.mpr ⟨zo_F4_9, List.forall_mem_cons.mpr ⟨zo_F4_23, List.forall_mem_cons.mpr ⟨zo_F5_9, List.forall_mem_cons.mpr ⟨zo_F5_15, List.forall_mem_cons.mpr ⟨zo_F5_18, List.forall_mem_cons.mpr ⟨zo_F5_21, List.forall_mem_cons.mpr ⟨zo_F5_24, fun _ h => absurd h List.not_mem_nil⟩⟩⟩⟩⟩⟩⟩⟩⟩⟩⟩⟩⟩⟩⟩⟩⟩⟩⟩⟩
theorem zo_Fg3 : ∀ e ∈ zt_Fl_3, zt_okF e := List.forall_mem_cons.mpr ⟨zo_F5_27, List.forall_mem_cons.mpr ⟨zo_F5_30, List.forall_mem_cons.mpr ⟨zo_F5_33, List.forall_mem_cons.mpr ⟨zo_F5_36, List.forall_mem_cons.mpr ⟨zo_F5_42, List.forall_mem_cons.mpr ⟨zo_F5_46, List.forall_mem_cons.mpr ⟨zo_F6_12, List.forall_mem_cons.mpr ⟨zo_F6_18, List.forall_mem_cons.mpr ⟨zo_F6_25, List.forall_mem_cons.mpr ⟨zo_F6_32, List.forall_mem_cons.mpr ⟨zo_F6_39, List.forall_mem_cons.mpr ⟨zo_F6_46, List.forall_mem_cons.mpr ⟨zo_F6_65, List.forall_mem_cons.mpr ⟨zo_F6_69, List.forall_mem_cons.mpr ⟨zo_F6_75, List.forall_mem_cons.mpr ⟨zo_F6_84, List.forall_mem_cons.mpr ⟨zo_F6_87, List.forall_mem_cons.mpr ⟨zo_F6_90, List.forall_mem_cons.mpr ⟨zo_F6_100, List.forall_mem_cons.mpr ⟨zo_F6_107, fun _ h => absurd h List.not_mem_nil⟩⟩⟩⟩⟩⟩⟩⟩⟩⟩⟩⟩⟩⟩⟩⟩⟩⟩⟩⟩
theorem zo_Fg4 : ∀ e ∈ zt_Fl_4, zt_okF e := List.forall_mem_cons.mpr ⟨zo_F6_134, List.forall_mem_cons.mpr ⟨zo_F6_137, List.forall_mem_cons.mpr ⟨zo_F6_144, List.forall_mem_cons.mpr ⟨zo_F6_202, List.forall_mem_cons.mpr ⟨zo_F6_205, List.forall_mem_cons.mpr ⟨zo_F7_7, List.forall_mem_cons.mpr ⟨zo_F7_13, List.forall_mem_cons.mpr ⟨zo_F7_16, List.forall_mem_cons.mpr ⟨zo_F7_19, List.forall_mem_cons.mpr ⟨zo_F7_22, List.forall_mem_cons.mpr ⟨zo_F7_25, List.forall_mem_cons.mpr ⟨zo_F7_28, List.forall_mem_cons.mpr ⟨zo_F7_31, List.forall_mem_cons.mpr ⟨zo_F7_34, List.forall_mem_cons.mpr ⟨zo_F7_37, List.forall_mem_cons.mpr ⟨zo_F7_40, List.forall_mem_cons.mpr ⟨zo_F7_43, List.forall_mem_cons.mpr ⟨zo_F7_46, List.forall_mem_cons.mpr ⟨zo_F7_49, List.forall_mem_cons.mpr ⟨zo_F7_52, fun _ h => absurd h List.not_mem_nil⟩⟩⟩⟩⟩⟩⟩⟩⟩⟩⟩⟩⟩⟩⟩⟩⟩⟩⟩⟩
theorem zo_Fg5 : ∀ e ∈ zt_Fl_5, zt_okF e := List.forall_mem_cons.mpr ⟨zo_F7_55, List.forall_mem_cons.mpr ⟨zo_F7_58, List.forall_mem_cons.mpr ⟨zo_F7_61, List.forall_mem_cons.mpr ⟨zo_F7_64, List.forall_mem_cons.mpr ⟨zo_F7_67, List.forall_mem_cons.mpr ⟨zo_F7_70, List.forall_mem_cons.mpr ⟨zo_F7_73, List.forall_mem_cons.mpr ⟨zo_F7_76, List.forall_mem_cons.mpr ⟨zo_F7_79, List.forall_mem_cons.mpr ⟨zo_F7_82, List.forall_mem_cons.mpr ⟨zo_F7_85, List.forall_mem_cons.mpr ⟨zo_F7_88, List.forall_mem_cons.mpr ⟨zo_F7_91, List.forall_mem_cons.mpr ⟨zo_F7_94, List.forall_mem_cons.mpr ⟨zo_F7_98, List.forall_mem_cons.mpr ⟨zo_F7_105, List.forall_mem_cons.mpr ⟨zo_F7_129, List.forall_mem_cons.mpr ⟨zo_F7_132, List.forall_mem_cons.mpr ⟨zo_F7_139, List.forall_mem_cons.mpr ⟨zo_F7_142, fun _ h => absurd h List.not_mem_nil⟩⟩⟩⟩⟩⟩⟩⟩⟩⟩⟩⟩⟩⟩⟩⟩⟩⟩⟩⟩
theorem zo_Fg6 : ∀ e ∈ zt_Fl_6, zt_okF e := List.forall_mem_cons.mpr ⟨zo_F7_149, List.forall_mem_cons.mpr ⟨zo_F7_165, List.forall_mem_cons.mpr ⟨zo_F7_168, List.forall_mem_cons.mpr ⟨zo_F7_195, List.forall_mem_cons.mpr ⟨zo_F7_257, List.forall_mem_cons.mpr ⟨zo_F7_269, fun _ h => absurd h List.not_mem_nil⟩⟩⟩⟩⟩⟩
theorem zo_N0_9 : zt_okN (0, 9, 7, 2) := ⟨RX4, TX4, rfl, zt_in_wsX40, zt_in_za_33 _ (List.mem_of_getElem? (i := 8) rfl), zt_in_za_33 _ (List.mem_of_getElem? (i := 9) rfl), zt_in_za_3 _ (List.mem_of_getElem? (i := 4) rfl), tyX4_ok, by decide +kernel⟩
theorem zo_N3_15 : zt_okN (3, 15, 4, 8) := ⟨RX1, TX1, rfl, zt_in_wsX10, zt_in_za_33 _ (List.mem_of_getElem? (i := 10) rfl), zt_in_za_33 _ (List.mem_of_getElem? (i := 11) rfl), zt_in_za_0 _ (List.mem_of_getElem? (i := 23) rfl), tyX1_ok, by decide +kernel⟩
theorem zo_N6_9 : zt_okN (6, 9, 8, 11) := ⟨RX5, TX5, rfl, zt_in_wsX50, zt_in_za_33 _ (List.mem_of_getElem? (i := 12) rfl), zt_in_za_33 _ (List.mem_of_getElem? (i := 13) rfl), zt_in_za_3 _ (List.mem_of_getElem? (i := 13) rfl), tyX5_ok, by decide +kernel⟩
theorem zo_N6_16 : zt_okN (6, 16, 4, 8) := ⟨RX1, TX1, rfl, zt_in_wsX10, zt_in_za_33 _ (List.mem_of_getElem? (i := 14) rfl), zt_in_za_33 _ (List.mem_of_getElem? (i := 11) rfl), zt_in_za_0 _ (List.mem_of_getElem? (i := 23) rfl), tyX1_ok, by decide +kernel⟩
theorem zo_N6_29 : zt_okN (6, 29, 3, 16) := ⟨RX0, TX0, rfl, zt_in_wsX00, zt_in_za_33 _ (List.mem_of_getElem? (i := 15) rfl), zt_in_za_33 _ (List.mem_of_getElem? (i := 16) rfl), zt_in_za_0 _ (List.mem_of_getElem? (i := 5) rfl), tyX0_ok, by decide +kernel⟩
theorem zo_N6_36 : zt_okN (6, 36, 5, 1) := ⟨RX2, TX2, rfl, zt_in_wsX20, zt_in_za_33 _ (List.mem_of_getElem? (i := 17) rfl), zt_in_za_33 _ (List.mem_of_getElem? (i := 18) rfl), zt_in_za_1 _ (List.mem_of_getElem? (i := 26) rfl), tyX2_ok, by decide +kernel⟩
theorem zo_N6_43 : zt_okN (6, 43, 6, 12) := ⟨RX3, TX3, rfl, zt_in_wsX30, zt_in_za_33 _ (List.mem_of_getElem? (i := 19) rfl), zt_in_za_33 _ (List.mem_of_getElem? (i := 20) rfl), zt_in_za_2 _ (List.mem_of_getElem? (i := 11) rfl), tyX3_ok, by decide +kernel⟩
theorem zo_N8_8 : zt_okN (8, 8, 9, 7) := ⟨RX6, TX6, rfl, zt_in_wsX60, zt_in_za_33 _ (List.mem_of_getElem? (i := 21) rfl), zt_in_za_33 _ (List.mem_of_getElem? (i := 22) rfl), zt_in_za_3 _ (List.mem_of_getElem? (i := 26) rfl), tyX6_ok, by decide +kernel⟩
theorem zo_N8_16 : zt_okN (8, 16, 10, 41) := ⟨RX7, TX7, rfl, zt_in_wsX70, zt_in_za_33 _ (List.mem_of_getElem? (i := 23) rfl), zt_in_za_33 _ (List.mem_of_getElem? (i := 24) rfl), zt_in_za_4 _ (List.mem_of_getElem? (i := 26) rfl), tyX7_ok, by decide +kernel⟩
theorem zo_Ng0 : ∀ e ∈ zt_Nl_0, zt_okN e := List.forall_mem_cons.mpr ⟨zo_N0_9, List.forall_mem_cons.mpr ⟨zo_N3_15, List.forall_mem_cons.mpr ⟨zo_N6_9, List.forall_mem_cons.mpr ⟨zo_N6_16, List.forall_mem_cons.mpr ⟨zo_N6_29, List.forall_mem_cons.mpr ⟨zo_N6_36, List.forall_mem_cons.mpr ⟨zo_N6_43, List.forall_mem_cons.mpr ⟨zo_N8_8, List.forall_mem_cons.mpr ⟨zo_N8_16, fun _ h => absurd h List.not_mem_nil⟩⟩⟩⟩⟩⟩⟩⟩⟩
theorem zo_C : ∀ e ∈ zt_Cl, zt_okC e := List.forall_mem_append.mpr ⟨zo_Cg0, List.forall_mem_append.mpr ⟨zo_Cg1, List.forall_mem_append.mpr ⟨zo_Cg2, List.forall_mem_append.mpr ⟨zo_Cg3, List.forall_mem_append.mpr ⟨zo_Cg4, List.forall_mem_append.mpr ⟨zo_Cg5, List.forall_mem_append.mpr ⟨zo_Cg6, List.forall_mem_append.mpr ⟨zo_Cg7, List.forall_mem_append.mpr ⟨zo_Cg8, List.forall_mem_append.mpr ⟨zo_Cg9, List.forall_mem_append.mpr ⟨zo_Cg10, List.forall_mem_append.mpr ⟨zo_Cg11, zo_Cg12⟩⟩⟩⟩⟩⟩⟩⟩⟩⟩⟩⟩
theorem zo_F : ∀ e ∈ zt_Fl, zt_okF e := List.forall_mem_append.mpr ⟨zo_Fg0, List.forall_mem_append.mpr ⟨zo_Fg1, List.forall_mem_append.mpr ⟨zo_Fg2, List.forall_mem_append.mpr ⟨zo_Fg3, List.forall_mem_append.mpr ⟨zo_Fg4, List.forall_mem_append.mpr ⟨zo_Fg5, zo_Fg6⟩⟩⟩⟩⟩⟩
theorem zo_N : ∀ e ∈ zt_Nl, zt_okN e := zo_Ng0
theorem zo_K : ∀ e ∈ zt_Kl, Cond.constant (zt_own e.1) e.2.1 e.2.2 ∈ zt_all := List.forall_mem_cons.mpr ⟨zt_in_za_33 _ (List.mem_of_getElem? (i := 1) rfl), List.forall_mem_cons.mpr ⟨zt_in_za_33 _ (List.mem_of_getElem? (i := 2) rfl), List.forall_mem_cons.mpr ⟨zt_in_za_33 _ (List.mem_of_getElem? (i := 3) rfl), List.forall_mem_cons.mpr ⟨zt_in_za_33 _ (List.mem_of_getElem? (i := 4) rfl), List.forall_mem_cons.mpr ⟨zt_in_za_33 _ (List.mem_of_getElem? (i := 5) rfl), fun _ h => absurd h List.not_mem_nil⟩⟩⟩⟩⟩
theorem zo_J : ∀ e ∈ zt_Jl, Cond.constantLong (zt_own e.1) e.2.1 e.2.2 ∈ zt_all := List.forall_mem_cons.mpr ⟨zt_in_za_33 _ (List.mem_of_getElem? (i := 6) rfl), List.forall_mem_cons.mpr ⟨zt_in_za_33 _ (List.mem_of_getElem? (i := 7) rfl), fun _ h => absurd h List.not_mem_nil⟩⟩
theorem zo_A : ∀ e ∈ zt_Al, Cond.classLink (zt_own e.1) e.2 RX1 ∈ zt_all := List.forall_mem_cons.mpr ⟨zt_in_za_33 _ (List.mem_of_getElem? (i := 10) rfl), List.forall_mem_cons.mpr ⟨zt_in_za_33 _ (List.mem_of_getElem? (i := 14) rfl), fun _ h => absurd h List.not_mem_nil⟩⟩
theorem zo_objI : Cond.instanceMethod objectInit ∈ zt_all := zt_in_za_28 _ (List.mem_of_getElem? (i := 17) rfl)
theorem zo_objC : Cond.code objectInit ⟨#[0xb1]⟩ 1 none ∈ zt_all := zt_in_za_28 _ (List.mem_of_getElem? (i := 18) rfl)
theorem zo_minS : Cond.static Lib.Math.min.name ∈ zt_all := zt_in_za_28 _ (List.mem_of_getElem? (i := 19) rfl)
theorem zo_minI : Cond.initialized "java/lang/Math" ∈ zt_all := zt_in_za_28 _ (List.mem_of_getElem? (i := 20) rfl)
theorem zo_minC : Cond.code Lib.Math.min.name Lib.Math.min.code 2 (some .int) ∈ zt_all := zt_in_za_28 _ (List.mem_of_getElem? (i := 21) rfl)
theorem zo_cpyN : Cond.native arraycopyName ∈ zt_all := zt_in_za_28 _ (List.mem_of_getElem? (i := 22) rfl)
theorem zo_cpyS : Cond.static arraycopyName ∈ zt_all := zt_in_za_28 _ (List.mem_of_getElem? (i := 23) rfl)
theorem zo_cpyI : Cond.initialized "java/lang/System" ∈ zt_all := zt_in_za_28 _ (List.mem_of_getElem? (i := 24) rfl)
theorem zo_aI : Cond.arrayClass .int ∈ zt_all := zt_in_za_33 _ (List.mem_of_getElem? (i := 25) rfl)
theorem zo_aJ : Cond.arrayClass .long ∈ zt_all := zt_in_za_33 _ (List.mem_of_getElem? (i := 26) rfl)
