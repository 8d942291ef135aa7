abbrev cB_init : ByteArray := prog_1_method_1_code
abbrev yB_init : MethodName := ⟨"BubbleBox", "<init>", "()V"⟩
abbrev cB_stuck : ByteArray := prog_1_method_2_code
abbrev yB_stuck : MethodName := ⟨"BubbleBox", "stuck", "(II)V"⟩
abbrev cB_power : ByteArray := prog_1_method_3_code
abbrev yB_power : MethodName := ⟨"BubbleBox", "power", "(I)V"⟩
abbrev cB_state : ByteArray := prog_1_method_4_code
abbrev yB_state : MethodName := ⟨"BubbleBox", "state", "()I"⟩
abbrev cB_steps : ByteArray := prog_1_method_5_code
abbrev yB_steps : MethodName := ⟨"BubbleBox", "steps", "()J"⟩
abbrev cB_format : ByteArray := prog_1_method_6_code
abbrev yB_format : MethodName := ⟨"BubbleBox", "format", "()Z"⟩
abbrev cB_mount : ByteArray := prog_1_method_7_code
abbrev yB_mount : MethodName := ⟨"BubbleBox", "mount", "()Z"⟩
abbrev cB_create : ByteArray := prog_1_method_8_code
abbrev yB_create : MethodName := ⟨"BubbleBox", "create", "(I)I"⟩
abbrev cB_find : ByteArray := prog_1_method_9_code
abbrev yB_find : MethodName := ⟨"BubbleBox", "find", "(I)I"⟩
abbrev cB_length : ByteArray := prog_1_method_10_code
abbrev yB_length : MethodName := ⟨"BubbleBox", "length", "(I)I"⟩
abbrev cB_append : ByteArray := prog_1_method_11_code
abbrev yB_append : MethodName := ⟨"BubbleBox", "append", "(II)I"⟩
abbrev cB_byteAt : ByteArray := prog_1_method_12_code
abbrev yB_byteAt : MethodName := ⟨"BubbleBox", "byteAt", "(II)I"⟩
abbrev cB_truncate : ByteArray := prog_1_method_13_code
abbrev yB_truncate : MethodName := ⟨"BubbleBox", "truncate", "(II)I"⟩
abbrev cB_remove : ByteArray := prog_1_method_14_code
abbrev yB_remove : MethodName := ⟨"BubbleBox", "remove", "(I)I"⟩
abbrev cB_sync : ByteArray := prog_1_method_15_code
abbrev yB_sync : MethodName := ⟨"BubbleBox", "sync", "()I"⟩
abbrev cB_free : ByteArray := prog_1_method_16_code
abbrev yB_free : MethodName := ⟨"BubbleBox", "free", "()I"⟩
abbrev cB_pageOf : ByteArray := prog_1_method_17_code
abbrev yB_pageOf : MethodName := ⟨"BubbleBox", "pageOf", "(II)I"⟩
abbrev cB_queue : ByteArray := prog_1_method_18_code
abbrev yB_queue : MethodName := ⟨"BubbleBox", "queue", "(IZJ)I"⟩
abbrev cB_serve : ByteArray := prog_1_method_19_code
abbrev yB_serve : MethodName := ⟨"BubbleBox", "serve", "()I"⟩
abbrev cB_served : ByteArray := prog_1_method_20_code
abbrev yB_served : MethodName := ⟨"BubbleBox", "served", "(I)J"⟩
abbrev cB_pagesFor : ByteArray := prog_1_method_21_code
abbrev yB_pagesFor : MethodName := ⟨"BubbleBox", "pagesFor", "(I)I"⟩
abbrev cB_needMounted : ByteArray := prog_1_method_22_code
abbrev yB_needMounted : MethodName := ⟨"BubbleBox", "needMounted", "()V"⟩
abbrev cB_entryOf : ByteArray := prog_1_method_23_code
abbrev yB_entryOf : MethodName := ⟨"BubbleBox", "entryOf", "(I)LBubbleBox$Entry;"⟩
abbrev cB_forgetAll : ByteArray := prog_1_method_24_code
abbrev yB_forgetAll : MethodName := ⟨"BubbleBox", "forgetAll", "()V"⟩
abbrev cB_usePower : ByteArray := prog_1_method_25_code
abbrev yB_usePower : MethodName := ⟨"BubbleBox", "usePower", "()V"⟩
abbrev cB_readPage : ByteArray := prog_1_method_26_code
abbrev yB_readPage : MethodName := ⟨"BubbleBox", "readPage", "(I)J"⟩
abbrev cB_writePage : ByteArray := prog_1_method_27_code
abbrev yB_writePage : MethodName := ⟨"BubbleBox", "writePage", "(IJ)V"⟩
abbrev cB_save : ByteArray := prog_1_method_28_code
abbrev yB_save : MethodName := ⟨"BubbleBox", "save", "(LBubbleBox$Entry;)V"⟩
abbrev cB_load : ByteArray := prog_1_method_29_code
abbrev yB_load : MethodName := ⟨"BubbleBox", "load", "(LBubbleBox$Entry;I)V"⟩
abbrev cB_openNewPage : ByteArray := prog_1_method_30_code
abbrev yB_openNewPage : MethodName := ⟨"BubbleBox", "openNewPage", "(LBubbleBox$Entry;)V"⟩
abbrev cB_openLastPage : ByteArray := prog_1_method_31_code
abbrev yB_openLastPage : MethodName := ⟨"BubbleBox", "openLastPage", "(LBubbleBox$Entry;)V"⟩
abbrev cB_neededFreePage : ByteArray := prog_1_method_32_code
abbrev yB_neededFreePage : MethodName := ⟨"BubbleBox", "neededFreePage", "()I"⟩
abbrev cB_writeAll : ByteArray := prog_1_method_33_code
abbrev yB_writeAll : MethodName := ⟨"BubbleBox", "writeAll", "()I"⟩
abbrev cB_writeOtherImage : ByteArray := prog_1_method_34_code
abbrev yB_writeOtherImage : MethodName := ⟨"BubbleBox", "writeOtherImage", "()V"⟩
abbrev cB_readImages : ByteArray := prog_1_method_35_code
abbrev yB_readImages : MethodName := ⟨"BubbleBox", "readImages", "()V"⟩
abbrev cB_newestImage : ByteArray := prog_1_method_36_code
abbrev yB_newestImage : MethodName := ⟨"BubbleBox", "newestImage", "()I"⟩
abbrev cB_transferAsked : ByteArray := prog_1_method_37_code
abbrev yB_transferAsked : MethodName := ⟨"BubbleBox", "transferAsked", "(I)V"⟩
abbrev cM_init : ByteArray := prog_8_method_1_code
abbrev yM_init : MethodName := ⟨"BubbleBoxModel", "<init>", "()V"⟩
abbrev cM_thrown : ByteArray := prog_8_method_2_code
abbrev yM_thrown : MethodName := ⟨"BubbleBoxModel", "thrown", "()I"⟩
abbrev cM_stuck : ByteArray := prog_8_method_3_code
abbrev yM_stuck : MethodName := ⟨"BubbleBoxModel", "stuck", "(II)V"⟩
abbrev cM_power : ByteArray := prog_8_method_4_code
abbrev yM_power : MethodName := ⟨"BubbleBoxModel", "power", "(I)V"⟩
abbrev cM_state : ByteArray := prog_8_method_5_code
abbrev yM_state : MethodName := ⟨"BubbleBoxModel", "state", "()I"⟩
abbrev cM_steps : ByteArray := prog_8_method_6_code
abbrev yM_steps : MethodName := ⟨"BubbleBoxModel", "steps", "()J"⟩
abbrev cM_stepsTo : ByteArray := prog_8_method_7_code
abbrev yM_stepsTo : MethodName := ⟨"BubbleBoxModel", "stepsTo", "(I)I"⟩
abbrev cM_turnTo : ByteArray := prog_8_method_8_code
abbrev yM_turnTo : MethodName := ⟨"BubbleBoxModel", "turnTo", "(I)V"⟩
abbrev cM_goes : ByteArray := prog_8_method_9_code
abbrev yM_goes : MethodName := ⟨"BubbleBoxModel", "goes", "(I)Z"⟩
abbrev cM_write : ByteArray := prog_8_method_10_code
abbrev yM_write : MethodName := ⟨"BubbleBoxModel", "write", "(IJ)V"⟩
abbrev cM_read : ByteArray := prog_8_method_11_code
abbrev yM_read : MethodName := ⟨"BubbleBoxModel", "read", "(I)J"⟩
abbrev cM_forget : ByteArray := prog_8_method_12_code
abbrev yM_forget : MethodName := ⟨"BubbleBoxModel", "forget", "()V"⟩
abbrev cM_drop : ByteArray := prog_8_method_13_code
abbrev yM_drop : MethodName := ⟨"BubbleBoxModel", "drop", "(I)V"⟩
abbrev cM_format : ByteArray := prog_8_method_14_code
abbrev yM_format : MethodName := ⟨"BubbleBoxModel", "format", "()Z"⟩
abbrev cM_putBytes : ByteArray := prog_8_method_15_code
abbrev yM_putBytes : MethodName := ⟨"BubbleBoxModel", "putBytes", "(IJI)V"⟩
abbrev cM_getBytes : ByteArray := prog_8_method_16_code
abbrev yM_getBytes : MethodName := ⟨"BubbleBoxModel", "getBytes", "(II)I"⟩
abbrev cM_sumOfImage : ByteArray := prog_8_method_17_code
abbrev yM_sumOfImage : MethodName := ⟨"BubbleBoxModel", "sumOfImage", "()I"⟩
abbrev cM_pages : ByteArray := prog_8_method_18_code
abbrev yM_pages : MethodName := ⟨"BubbleBoxModel", "pages", "(I)I"⟩
abbrev cM_makeImage : ByteArray := prog_8_method_19_code
abbrev yM_makeImage : MethodName := ⟨"BubbleBoxModel", "makeImage", "(I)V"⟩
abbrev cM_saveAll : ByteArray := prog_8_method_20_code
abbrev yM_saveAll : MethodName := ⟨"BubbleBoxModel", "saveAll", "()V"⟩
abbrev cM_hold : ByteArray := prog_8_method_21_code
abbrev yM_hold : MethodName := ⟨"BubbleBoxModel", "hold", "()V"⟩
abbrev cM_isUsed : ByteArray := prog_8_method_22_code
abbrev yM_isUsed : MethodName := ⟨"BubbleBoxModel", "isUsed", "(I)Z"⟩
abbrev cM_loadImage : ByteArray := prog_8_method_23_code
abbrev yM_loadImage : MethodName := ⟨"BubbleBoxModel", "loadImage", "(I)V"⟩
abbrev cM_isValid : ByteArray := prog_8_method_24_code
abbrev yM_isValid : MethodName := ⟨"BubbleBoxModel", "isValid", "()Z"⟩
abbrev cM_mount : ByteArray := prog_8_method_25_code
abbrev yM_mount : MethodName := ⟨"BubbleBoxModel", "mount", "()Z"⟩
abbrev cM_isReady : ByteArray := prog_8_method_26_code
abbrev yM_isReady : MethodName := ⟨"BubbleBoxModel", "isReady", "()Z"⟩
abbrev cM_isFile : ByteArray := prog_8_method_27_code
abbrev yM_isFile : MethodName := ⟨"BubbleBoxModel", "isFile", "(I)Z"⟩
abbrev cM_numberOf : ByteArray := prog_8_method_28_code
abbrev yM_numberOf : MethodName := ⟨"BubbleBoxModel", "numberOf", "(I)I"⟩
abbrev cM_create : ByteArray := prog_8_method_29_code
abbrev yM_create : MethodName := ⟨"BubbleBoxModel", "create", "(I)I"⟩
abbrev cM_find : ByteArray := prog_8_method_30_code
abbrev yM_find : MethodName := ⟨"BubbleBoxModel", "find", "(I)I"⟩
abbrev cM_length : ByteArray := prog_8_method_31_code
abbrev yM_length : MethodName := ⟨"BubbleBoxModel", "length", "(I)I"⟩
abbrev cM_save : ByteArray := prog_8_method_32_code
abbrev yM_save : MethodName := ⟨"BubbleBoxModel", "save", "(I)V"⟩
abbrev cM_load : ByteArray := prog_8_method_33_code
abbrev yM_load : MethodName := ⟨"BubbleBoxModel", "load", "(II)V"⟩
abbrev cM_isFree : ByteArray := prog_8_method_34_code
abbrev yM_isFree : MethodName := ⟨"BubbleBoxModel", "isFree", "(I)Z"⟩
abbrev cM_leastFree : ByteArray := prog_8_method_35_code
abbrev yM_leastFree : MethodName := ⟨"BubbleBoxModel", "leastFree", "()I"⟩
abbrev cM_append : ByteArray := prog_8_method_36_code
abbrev yM_append : MethodName := ⟨"BubbleBoxModel", "append", "(II)I"⟩
abbrev cM_byteAt : ByteArray := prog_8_method_37_code
abbrev yM_byteAt : MethodName := ⟨"BubbleBoxModel", "byteAt", "(II)I"⟩
abbrev cM_shorten : ByteArray := prog_8_method_38_code
abbrev yM_shorten : MethodName := ⟨"BubbleBoxModel", "shorten", "(II)I"⟩
abbrev cM_truncate : ByteArray := prog_8_method_39_code
abbrev yM_truncate : MethodName := ⟨"BubbleBoxModel", "truncate", "(II)I"⟩
abbrev cM_remove : ByteArray := prog_8_method_40_code
abbrev yM_remove : MethodName := ⟨"BubbleBoxModel", "remove", "(I)I"⟩
abbrev cM_sync : ByteArray := prog_8_method_41_code
abbrev yM_sync : MethodName := ⟨"BubbleBoxModel", "sync", "()I"⟩
abbrev cM_free : ByteArray := prog_8_method_42_code
abbrev yM_free : MethodName := ⟨"BubbleBoxModel", "free", "()I"⟩
abbrev cM_pageOf : ByteArray := prog_8_method_43_code
abbrev yM_pageOf : MethodName := ⟨"BubbleBoxModel", "pageOf", "(II)I"⟩
abbrev cM_queue : ByteArray := prog_8_method_44_code
abbrev yM_queue : MethodName := ⟨"BubbleBoxModel", "queue", "(IZJ)I"⟩
abbrev cM_serve : ByteArray := prog_8_method_45_code
abbrev yM_serve : MethodName := ⟨"BubbleBoxModel", "serve", "()I"⟩
abbrev cM_served : ByteArray := prog_8_method_46_code
abbrev yM_served : MethodName := ⟨"BubbleBoxModel", "served", "(I)J"⟩
abbrev cC_init : ByteArray := prog_2_method_1_code
abbrev yC_init : MethodName := ⟨"BubbleBox$Chip", "<init>", "()V"⟩
abbrev cC_stepsTo : ByteArray := prog_2_method_2_code
abbrev yC_stepsTo : MethodName := ⟨"BubbleBox$Chip", "stepsTo", "(I)I"⟩
abbrev cC_turnTo : ByteArray := prog_2_method_3_code
abbrev yC_turnTo : MethodName := ⟨"BubbleBox$Chip", "turnTo", "(I)V"⟩
abbrev cC_goodLoops : ByteArray := prog_2_method_4_code
abbrev yC_goodLoops : MethodName := ⟨"BubbleBox$Chip", "goodLoops", "()I"⟩
abbrev cC_clearPages : ByteArray := prog_2_method_5_code
abbrev yC_clearPages : MethodName := ⟨"BubbleBox$Chip", "clearPages", "()V"⟩
abbrev cD_init : ByteArray := prog_3_method_1_code
abbrev yD_init : MethodName := ⟨"BubbleBox$Directory", "<init>", "()V"⟩
abbrev cD_forget : ByteArray := prog_3_method_2_code
abbrev yD_forget : MethodName := ⟨"BubbleBox$Directory", "forget", "()V"⟩
abbrev cD_numberOf : ByteArray := prog_3_method_3_code
abbrev yD_numberOf : MethodName := ⟨"BubbleBox$Directory", "numberOf", "(I)I"⟩
abbrev cD_isFree : ByteArray := prog_3_method_4_code
abbrev yD_isFree : MethodName := ⟨"BubbleBox$Directory", "isFree", "(I)Z"⟩
abbrev cD_leastFree : ByteArray := prog_3_method_5_code
abbrev yD_leastFree : MethodName := ⟨"BubbleBox$Directory", "leastFree", "()I"⟩
abbrev cD_countFree : ByteArray := prog_3_method_6_code
abbrev yD_countFree : MethodName := ⟨"BubbleBox$Directory", "countFree", "()I"⟩
abbrev cD_pageAt : ByteArray := prog_3_method_7_code
abbrev yD_pageAt : MethodName := ⟨"BubbleBox$Directory", "pageAt", "(LBubbleBox$Entry;I)I"⟩
abbrev cD_putPageAt : ByteArray := prog_3_method_8_code
abbrev yD_putPageAt : MethodName := ⟨"BubbleBox$Directory", "putPageAt", "(LBubbleBox$Entry;II)V"⟩
abbrev cD_addPage : ByteArray := prog_3_method_9_code
abbrev yD_addPage : MethodName := ⟨"BubbleBox$Directory", "addPage", "(LBubbleBox$Entry;I)V"⟩
abbrev cD_replaceLastPage : ByteArray := prog_3_method_10_code
abbrev yD_replaceLastPage : MethodName := ⟨"BubbleBox$Directory", "replaceLastPage", "(LBubbleBox$Entry;I)V"⟩
abbrev cD_shorten : ByteArray := prog_3_method_11_code
abbrev yD_shorten : MethodName := ⟨"BubbleBox$Directory", "shorten", "(LBubbleBox$Entry;I)I"⟩
abbrev cD_giveUp : ByteArray := prog_3_method_12_code
abbrev yD_giveUp : MethodName := ⟨"BubbleBox$Directory", "giveUp", "(LBubbleBox$Entry;II)V"⟩
abbrev cD_holdOwned : ByteArray := prog_3_method_13_code
abbrev yD_holdOwned : MethodName := ⟨"BubbleBox$Directory", "holdOwned", "()V"⟩
abbrev cD_putInto : ByteArray := prog_3_method_14_code
abbrev yD_putInto : MethodName := ⟨"BubbleBox$Directory", "putInto", "(LBubbleBox$Image;I)V"⟩
abbrev cD_takeFrom : ByteArray := prog_3_method_15_code
abbrev yD_takeFrom : MethodName := ⟨"BubbleBox$Directory", "takeFrom", "(LBubbleBox$Image;)V"⟩
abbrev cD_ownChain : ByteArray := prog_3_method_16_code
abbrev yD_ownChain : MethodName := ⟨"BubbleBox$Directory", "ownChain", "(LBubbleBox$Entry;)V"⟩
abbrev cE_init : ByteArray := prog_4_method_1_code
abbrev yE_init : MethodName := ⟨"BubbleBox$Entry", "<init>", "()V"⟩
abbrev cE_forget : ByteArray := prog_4_method_2_code
abbrev yE_forget : MethodName := ⟨"BubbleBox$Entry", "forget", "()V"⟩
abbrev cE_openWindow : ByteArray := prog_4_method_3_code
abbrev yE_openWindow : MethodName := ⟨"BubbleBox$Entry", "openWindow", "(IJ)V"⟩
abbrev cE_putIntoWindow : ByteArray := prog_4_method_4_code
abbrev yE_putIntoWindow : MethodName := ⟨"BubbleBox$Entry", "putIntoWindow", "(II)V"⟩
abbrev cE_byteInWindow : ByteArray := prog_4_method_5_code
abbrev yE_byteInWindow : MethodName := ⟨"BubbleBox$Entry", "byteInWindow", "(I)I"⟩
abbrev cI_init : ByteArray := prog_5_method_1_code
abbrev yI_init : MethodName := ⟨"BubbleBox$Image", "<init>", "()V"⟩
abbrev cI_clear : ByteArray := prog_5_method_2_code
abbrev yI_clear : MethodName := ⟨"BubbleBox$Image", "clear", "()V"⟩
abbrev cI_number : ByteArray := prog_5_method_3_code
abbrev yI_number : MethodName := ⟨"BubbleBox$Image", "number", "(II)I"⟩
abbrev cI_pageNumber : ByteArray := prog_5_method_4_code
abbrev yI_pageNumber : MethodName := ⟨"BubbleBox$Image", "pageNumber", "(I)I"⟩
abbrev cI_putNumber : ByteArray := prog_5_method_5_code
abbrev yI_putNumber : MethodName := ⟨"BubbleBox$Image", "putNumber", "(III)V"⟩
abbrev cI_dueSum : ByteArray := prog_5_method_6_code
abbrev yI_dueSum : MethodName := ⟨"BubbleBox$Image", "dueSum", "()I"⟩
abbrev cI_isValid : ByteArray := prog_5_method_7_code
abbrev yI_isValid : MethodName := ⟨"BubbleBox$Image", "isValid", "()Z"⟩
abbrev cR_init : ByteArray := prog_6_method_1_code
abbrev yR_init : MethodName := ⟨"BubbleBox$Requests", "<init>", "()V"⟩
abbrev cR_forget : ByteArray := prog_6_method_2_code
abbrev yR_forget : MethodName := ⟨"BubbleBox$Requests", "forget", "()V"⟩
abbrev cR_ask : ByteArray := prog_6_method_3_code
abbrev yR_ask : MethodName := ⟨"BubbleBox$Requests", "ask", "(IZJ)I"⟩
abbrev cR_begin : ByteArray := prog_6_method_4_code
abbrev yR_begin : MethodName := ⟨"BubbleBox$Requests", "begin", "()V"⟩
abbrev cR_takeNearest : ByteArray := prog_6_method_5_code
abbrev yR_takeNearest : MethodName := ⟨"BubbleBox$Requests", "takeNearest", "(LBubbleBox$Chip;)I"⟩
abbrev cL_stuck : ByteArray := method_3_code
abbrev yL_stuck : MethodName := ⟨"BubbleBoxLaw", "stuck", "(LBubbleBox;II)I"⟩
abbrev cL_format : ByteArray := method_4_code
abbrev yL_format : MethodName := ⟨"BubbleBoxLaw", "format", "(LBubbleBox;[J)I"⟩
abbrev cL_create : ByteArray := method_5_code
abbrev yL_create : MethodName := ⟨"BubbleBoxLaw", "create", "(LBubbleBox;I[J)I"⟩
abbrev cL_find : ByteArray := method_6_code
abbrev yL_find : MethodName := ⟨"BubbleBoxLaw", "find", "(LBubbleBox;I[J)I"⟩
abbrev cL_length : ByteArray := method_7_code
abbrev yL_length : MethodName := ⟨"BubbleBoxLaw", "length", "(LBubbleBox;I[J)I"⟩
abbrev cL_append : ByteArray := method_8_code
abbrev yL_append : MethodName := ⟨"BubbleBoxLaw", "append", "(LBubbleBox;II[J)I"⟩
abbrev cL_byteAt : ByteArray := method_9_code
abbrev yL_byteAt : MethodName := ⟨"BubbleBoxLaw", "byteAt", "(LBubbleBox;II[J)I"⟩
abbrev cL_truncate : ByteArray := method_10_code
abbrev yL_truncate : MethodName := ⟨"BubbleBoxLaw", "truncate", "(LBubbleBox;II[J)I"⟩
abbrev cL_remove : ByteArray := method_11_code
abbrev yL_remove : MethodName := ⟨"BubbleBoxLaw", "remove", "(LBubbleBox;I[J)I"⟩
abbrev cL_sync : ByteArray := method_12_code
abbrev yL_sync : MethodName := ⟨"BubbleBoxLaw", "sync", "(LBubbleBox;[J)I"⟩
abbrev cL_free : ByteArray := method_13_code
abbrev yL_free : MethodName := ⟨"BubbleBoxLaw", "free", "(LBubbleBox;[J)I"⟩
abbrev cL_pageOf : ByteArray := method_14_code
abbrev yL_pageOf : MethodName := ⟨"BubbleBoxLaw", "pageOf", "(LBubbleBox;II[J)I"⟩
abbrev cL_queue : ByteArray := method_15_code
abbrev yL_queue : MethodName := ⟨"BubbleBoxLaw", "queue", "(LBubbleBox;IZJ[J)I"⟩
abbrev cL_serve : ByteArray := method_16_code
abbrev yL_serve : MethodName := ⟨"BubbleBoxLaw", "serve", "(LBubbleBox;[J)I"⟩
abbrev cL_served : ByteArray := method_17_code
abbrev yL_served : MethodName := ⟨"BubbleBoxLaw", "served", "(LBubbleBox;I[J)I"⟩
abbrev cL_law : ByteArray := code
abbrev yL_law : MethodName := ⟨"BubbleBoxLaw", "law", "([I)Z"⟩
theorem kw_0 : (Cond.initialized "BubbleBoxLaw") ∈ tables_1 := List.mem_of_getElem? (i := 0) (by decide +kernel)
theorem kw_1 : (Cond.initialized "BubbleBox") ∈ tables_1 := List.mem_of_getElem? (i := 1) (by decide +kernel)
theorem kw_2 : (Cond.initialized "BubbleBox$Chip") ∈ tables_1 := List.mem_of_getElem? (i := 2) (by decide +kernel)
theorem kw_3 : (Cond.initialized "BubbleBox$Directory") ∈ tables_1 := List.mem_of_getElem? (i := 3) (by decide +kernel)
theorem kw_4 : (Cond.initialized "BubbleBox$Entry") ∈ tables_1 := List.mem_of_getElem? (i := 4) (by decide +kernel)
theorem kw_5 : (Cond.initialized "BubbleBox$Requests") ∈ tables_1 := List.mem_of_getElem? (i := 5) (by decide +kernel)
theorem kw_6 : (Cond.initialized "BubbleBox$Image") ∈ tables_1 := List.mem_of_getElem? (i := 6) (by decide +kernel)
theorem kw_7 : (Cond.initialized "BubbleBoxModel") ∈ tables_1 := List.mem_of_getElem? (i := 7) (by decide +kernel)
theorem kw_8 : (Cond.initialized "java/lang/Throwable") ∈ tables_1 := List.mem_of_getElem? (i := 8) (by decide +kernel)
theorem kw_9 : (Cond.initialized "java/lang/Exception") ∈ tables_1 := List.mem_of_getElem? (i := 9) (by decide +kernel)
theorem kw_10 : (Cond.initialized "java/lang/RuntimeException") ∈ tables_1 := List.mem_of_getElem? (i := 10) (by decide +kernel)
theorem kw_11 : (Cond.initialized "java/lang/IllegalArgumentException") ∈ tables_1 := List.mem_of_getElem? (i := 11) (by decide +kernel)
theorem kw_12 : (Cond.initialized "java/lang/IllegalStateException") ∈ tables_1 := List.mem_of_getElem? (i := 12) (by decide +kernel)
theorem kw_13 : (Cond.initialized "java/lang/UnsupportedOperationException") ∈ tables_1 := List.mem_of_getElem? (i := 13) (by decide +kernel)
theorem kw_14 : (Cond.initialized "java/lang/IndexOutOfBoundsException") ∈ tables_1 := List.mem_of_getElem? (i := 14) (by decide +kernel)
theorem kw_15 : (Cond.classLink "BubbleBoxLaw" (8 : Nat) "BubbleBox") ∈ tables_1 := List.mem_of_getElem? (i := 15) (by decide +kernel)
theorem kw_16 : (Cond.instantiable "BubbleBox" (8 : Nat)) ∈ tables_1 := List.mem_of_getElem? (i := 16) (by decide +kernel)
theorem kw_17 : (Cond.methodLink "BubbleBoxLaw" (69 : Nat) ({ cls := "BubbleBox", name := "<init>", desc := "()V" } : MethodName)) ∈ tables_1 := List.mem_of_getElem? (i := 17) (by decide +kernel)
theorem kw_18 : (Cond.instanceMethod ({ cls := "BubbleBox", name := "<init>", desc := "()V" } : MethodName)) ∈ tables_1 := List.mem_of_getElem? (i := 18) (by decide +kernel)
theorem kw_19 : (Cond.code ({ cls := "BubbleBox", name := "<init>", desc := "()V" } : MethodName) prog_1_method_1_code (1 : Nat) (Option.none : Option FieldType)) ∈ tables_1 := List.mem_of_getElem? (i := 19) (by decide +kernel)
theorem kw_20 : (Cond.methodLink "BubbleBox" (1 : Nat) ({ cls := "java/lang/Object", name := "<init>", desc := "()V" } : MethodName)) ∈ tables_1 := List.mem_of_getElem? (i := 20) (by decide +kernel)
theorem kw_21 : (Cond.instanceMethod ({ cls := "java/lang/Object", name := "<init>", desc := "()V" } : MethodName)) ∈ tables_1 := List.mem_of_getElem? (i := 21) (by decide +kernel)
theorem kw_22 : (Cond.code ({ cls := "java/lang/Object", name := "<init>", desc := "()V" } : MethodName) object_method_1_code (1 : Nat) (Option.none : Option FieldType)) ∈ tables_1 := List.mem_of_getElem? (i := 22) (by decide +kernel)
theorem kw_23 : (Cond.classLink "BubbleBox" (7 : Nat) "BubbleBox$Chip") ∈ tables_1 := List.mem_of_getElem? (i := 23) (by decide +kernel)
theorem kw_24 : (Cond.instantiable "BubbleBox$Chip" (5 : Nat)) ∈ tables_1 := List.mem_of_getElem? (i := 24) (by decide +kernel)
theorem kw_25 : (Cond.methodLinkNest "BubbleBox" (9 : Nat) ({ cls := "BubbleBox$Chip", name := "<init>", desc := "()V" } : MethodName) "BubbleBox") ∈ tables_1 := List.mem_of_getElem? (i := 25) (by decide +kernel)
theorem kw_26 : (Cond.instanceMethod ({ cls := "BubbleBox$Chip", name := "<init>", desc := "()V" } : MethodName)) ∈ tables_1 := List.mem_of_getElem? (i := 26) (by decide +kernel)
theorem kw_27 : (Cond.code ({ cls := "BubbleBox$Chip", name := "<init>", desc := "()V" } : MethodName) prog_2_method_1_code (1 : Nat) (Option.none : Option FieldType)) ∈ tables_1 := List.mem_of_getElem? (i := 27) (by decide +kernel)
theorem kw_28 : (Cond.methodLink "BubbleBox$Chip" (3 : Nat) ({ cls := "java/lang/Object", name := "<init>", desc := "()V" } : MethodName)) ∈ tables_1 := List.mem_of_getElem? (i := 28) (by decide +kernel)
theorem kw_29 : (Cond.fieldLink "BubbleBox$Chip" (9 : Nat) "BubbleBox$Chip" "pages" "[J") ∈ tables_1 := List.mem_of_getElem? (i := 29) (by decide +kernel)
theorem kw_30 : (Cond.fieldLinkNest "BubbleBox" (223 : Nat) "BubbleBox$Chip" "pages" "[J" "BubbleBox") ∈ tables_1 := List.mem_of_getElem? (i := 30) (by decide +kernel)
theorem kw_31 : (Cond.fieldLink "BubbleBox$Chip" (15 : Nat) "BubbleBox$Chip" "bad" "[Z") ∈ tables_1 := List.mem_of_getElem? (i := 31) (by decide +kernel)
theorem kw_32 : (Cond.fieldLinkNest "BubbleBox" (68 : Nat) "BubbleBox$Chip" "bad" "[Z" "BubbleBox") ∈ tables_1 := List.mem_of_getElem? (i := 32) (by decide +kernel)
theorem kw_33 : (Cond.fieldLink "BubbleBox$Chip" (19 : Nat) "BubbleBox$Chip" "mapped" "Z") ∈ tables_1 := List.mem_of_getElem? (i := 33) (by decide +kernel)
theorem kw_34 : (Cond.fieldLinkNest "BubbleBox" (59 : Nat) "BubbleBox$Chip" "mapped" "Z" "BubbleBox") ∈ tables_1 := List.mem_of_getElem? (i := 34) (by decide +kernel)
theorem kw_35 : (Cond.fieldLink "BubbleBox$Chip" (23 : Nat) "BubbleBox$Chip" "position" "I") ∈ tables_1 := List.mem_of_getElem? (i := 35) (by decide +kernel)
theorem kw_36 : (Cond.fieldLink "BubbleBox$Chip" (27 : Nat) "BubbleBox$Chip" "stepsTaken" "J") ∈ tables_1 := List.mem_of_getElem? (i := 36) (by decide +kernel)
theorem kw_37 : (Cond.fieldLinkNest "BubbleBox" (72 : Nat) "BubbleBox$Chip" "stepsTaken" "J" "BubbleBox") ∈ tables_1 := List.mem_of_getElem? (i := 37) (by decide +kernel)
theorem kw_38 : (Cond.laysFinal "BubbleBox$Chip" "BubbleBox$Chip" "pages" "[J") ∈ tables_1 := List.mem_of_getElem? (i := 38) (by decide +kernel)
theorem kw_39 : (Cond.soleField "BubbleBox$Chip" "pages") ∈ tables_1 := List.mem_of_getElem? (i := 39) (by decide +kernel)
theorem kw_40 : (Cond.laysFinal "BubbleBox$Chip" "BubbleBox$Chip" "bad" "[Z") ∈ tables_1 := List.mem_of_getElem? (i := 40) (by decide +kernel)
theorem kw_41 : (Cond.soleField "BubbleBox$Chip" "bad") ∈ tables_1 := List.mem_of_getElem? (i := 41) (by decide +kernel)
theorem kw_42 : (Cond.lays "BubbleBox$Chip" "BubbleBox$Chip" "mapped" "Z") ∈ tables_1 := List.mem_of_getElem? (i := 42) (by decide +kernel)
theorem kw_43 : (Cond.soleField "BubbleBox$Chip" "mapped") ∈ tables_1 := List.mem_of_getElem? (i := 43) (by decide +kernel)
theorem kw_44 : (Cond.lays "BubbleBox$Chip" "BubbleBox$Chip" "position" "I") ∈ tables_1 := List.mem_of_getElem? (i := 44) (by decide +kernel)
theorem kw_45 : (Cond.soleField "BubbleBox$Chip" "position") ∈ tables_1 := List.mem_of_getElem? (i := 45) (by decide +kernel)
theorem kw_46 : (Cond.lays "BubbleBox$Chip" "BubbleBox$Chip" "stepsTaken" "J") ∈ tables_1 := List.mem_of_getElem? (i := 46) (by decide +kernel)
theorem kw_47 : (Cond.soleField "BubbleBox$Chip" "stepsTaken") ∈ tables_1 := List.mem_of_getElem? (i := 47) (by decide +kernel)
theorem kw_48 : (Cond.superclass "BubbleBox$Chip" "java/lang/Object") ∈ tables_1 := List.mem_of_getElem? (i := 48) (by decide +kernel)
theorem kw_49 : (Cond.arrayClass FieldType.long) ∈ tables_1 := List.mem_of_getElem? (i := 49) (by decide +kernel)
theorem kw_50 : (Cond.arrayClass FieldType.boolean) ∈ tables_1 := List.mem_of_getElem? (i := 50) (by decide +kernel)
theorem kw_51 : (Cond.classLink "BubbleBox" (16 : Nat) "BubbleBox$Directory") ∈ tables_1 := List.mem_of_getElem? (i := 51) (by decide +kernel)
theorem kw_52 : (Cond.instantiable "BubbleBox$Directory" (4 : Nat)) ∈ tables_1 := List.mem_of_getElem? (i := 52) (by decide +kernel)
theorem kw_53 : (Cond.methodLinkNest "BubbleBox" (18 : Nat) ({ cls := "BubbleBox$Directory", name := "<init>", desc := "()V" } : MethodName) "BubbleBox") ∈ tables_1 := List.mem_of_getElem? (i := 53) (by decide +kernel)
theorem kw_54 : (Cond.instanceMethod ({ cls := "BubbleBox$Directory", name := "<init>", desc := "()V" } : MethodName)) ∈ tables_1 := List.mem_of_getElem? (i := 54) (by decide +kernel)
theorem kw_55 : (Cond.code ({ cls := "BubbleBox$Directory", name := "<init>", desc := "()V" } : MethodName) prog_3_method_1_code (2 : Nat) (Option.none : Option FieldType)) ∈ tables_1 := List.mem_of_getElem? (i := 55) (by decide +kernel)
theorem kw_56 : (Cond.methodLink "BubbleBox$Directory" (3 : Nat) ({ cls := "java/lang/Object", name := "<init>", desc := "()V" } : MethodName)) ∈ tables_1 := List.mem_of_getElem? (i := 56) (by decide +kernel)
theorem kw_57 : (Cond.classLink "BubbleBox$Directory" (9 : Nat) "BubbleBox$Entry") ∈ tables_1 := List.mem_of_getElem? (i := 57) (by decide +kernel)
theorem kw_58 : (Cond.arrayOver (FieldType.object "BubbleBox$Entry")) ∈ tables_1 := List.mem_of_getElem? (i := 58) (by decide +kernel)
theorem kw_59 : (Cond.instantiable "BubbleBox$Entry" (6 : Nat)) ∈ tables_1 := List.mem_of_getElem? (i := 59) (by decide +kernel)
theorem kw_60 : (Cond.methodLinkNest "BubbleBox$Directory" (17 : Nat) ({ cls := "BubbleBox$Entry", name := "<init>", desc := "()V" } : MethodName) "BubbleBox") ∈ tables_1 := List.mem_of_getElem? (i := 60) (by decide +kernel)
theorem kw_61 : (Cond.instanceMethod ({ cls := "BubbleBox$Entry", name := "<init>", desc := "()V" } : MethodName)) ∈ tables_1 := List.mem_of_getElem? (i := 61) (by decide +kernel)
theorem kw_62 : (Cond.code ({ cls := "BubbleBox$Entry", name := "<init>", desc := "()V" } : MethodName) prog_4_method_1_code (1 : Nat) (Option.none : Option FieldType)) ∈ tables_1 := List.mem_of_getElem? (i := 62) (by decide +kernel)
theorem kw_63 : (Cond.methodLink "BubbleBox$Entry" (3 : Nat) ({ cls := "java/lang/Object", name := "<init>", desc := "()V" } : MethodName)) ∈ tables_1 := List.mem_of_getElem? (i := 63) (by decide +kernel)
theorem kw_64 : (Cond.fieldLink "BubbleBox$Entry" (9 : Nat) "BubbleBox$Entry" "name" "I") ∈ tables_1 := List.mem_of_getElem? (i := 64) (by decide +kernel)
theorem kw_65 : (Cond.fieldLinkNest "BubbleBox$Directory" (32 : Nat) "BubbleBox$Entry" "name" "I" "BubbleBox") ∈ tables_1 := List.mem_of_getElem? (i := 65) (by decide +kernel)
theorem kw_66 : (Cond.fieldLinkNest "BubbleBox" (125 : Nat) "BubbleBox$Entry" "name" "I" "BubbleBox") ∈ tables_1 := List.mem_of_getElem? (i := 66) (by decide +kernel)
theorem kw_67 : (Cond.fieldLink "BubbleBox$Entry" (15 : Nat) "BubbleBox$Entry" "firstPage" "I") ∈ tables_1 := List.mem_of_getElem? (i := 67) (by decide +kernel)
theorem kw_68 : (Cond.fieldLinkNest "BubbleBox$Directory" (40 : Nat) "BubbleBox$Entry" "firstPage" "I" "BubbleBox") ∈ tables_1 := List.mem_of_getElem? (i := 68) (by decide +kernel)
theorem kw_69 : (Cond.fieldLink "BubbleBox$Entry" (18 : Nat) "BubbleBox$Entry" "bytes" "I") ∈ tables_1 := List.mem_of_getElem? (i := 69) (by decide +kernel)
theorem kw_70 : (Cond.fieldLinkNest "BubbleBox$Directory" (47 : Nat) "BubbleBox$Entry" "bytes" "I" "BubbleBox") ∈ tables_1 := List.mem_of_getElem? (i := 70) (by decide +kernel)
theorem kw_71 : (Cond.fieldLinkNest "BubbleBox" (134 : Nat) "BubbleBox$Entry" "bytes" "I" "BubbleBox") ∈ tables_1 := List.mem_of_getElem? (i := 71) (by decide +kernel)
theorem kw_72 : (Cond.fieldLink "BubbleBox$Entry" (21 : Nat) "BubbleBox$Entry" "windowPage" "I") ∈ tables_1 := List.mem_of_getElem? (i := 72) (by decide +kernel)
theorem kw_73 : (Cond.fieldLinkNest "BubbleBox$Directory" (61 : Nat) "BubbleBox$Entry" "windowPage" "I" "BubbleBox") ∈ tables_1 := List.mem_of_getElem? (i := 73) (by decide +kernel)
theorem kw_74 : (Cond.fieldLinkNest "BubbleBox" (229 : Nat) "BubbleBox$Entry" "windowPage" "I" "BubbleBox") ∈ tables_1 := List.mem_of_getElem? (i := 74) (by decide +kernel)
theorem kw_75 : (Cond.fieldLink "BubbleBox$Entry" (24 : Nat) "BubbleBox$Entry" "windowBits" "J") ∈ tables_1 := List.mem_of_getElem? (i := 75) (by decide +kernel)
theorem kw_76 : (Cond.fieldLinkNest "BubbleBox" (232 : Nat) "BubbleBox$Entry" "windowBits" "J" "BubbleBox") ∈ tables_1 := List.mem_of_getElem? (i := 76) (by decide +kernel)
theorem kw_77 : (Cond.fieldLink "BubbleBox$Entry" (28 : Nat) "BubbleBox$Entry" "changed" "Z") ∈ tables_1 := List.mem_of_getElem? (i := 77) (by decide +kernel)
theorem kw_78 : (Cond.fieldLinkNest "BubbleBox" (226 : Nat) "BubbleBox$Entry" "changed" "Z" "BubbleBox") ∈ tables_1 := List.mem_of_getElem? (i := 78) (by decide +kernel)
theorem kw_79 : (Cond.lays "BubbleBox$Entry" "BubbleBox$Entry" "name" "I") ∈ tables_1 := List.mem_of_getElem? (i := 79) (by decide +kernel)
theorem kw_80 : (Cond.soleField "BubbleBox$Entry" "name") ∈ tables_1 := List.mem_of_getElem? (i := 80) (by decide +kernel)
theorem kw_81 : (Cond.lays "BubbleBox$Entry" "BubbleBox$Entry" "firstPage" "I") ∈ tables_1 := List.mem_of_getElem? (i := 81) (by decide +kernel)
theorem kw_82 : (Cond.soleField "BubbleBox$Entry" "firstPage") ∈ tables_1 := List.mem_of_getElem? (i := 82) (by decide +kernel)
theorem kw_83 : (Cond.lays "BubbleBox$Entry" "BubbleBox$Entry" "bytes" "I") ∈ tables_1 := List.mem_of_getElem? (i := 83) (by decide +kernel)
theorem kw_84 : (Cond.soleField "BubbleBox$Entry" "bytes") ∈ tables_1 := List.mem_of_getElem? (i := 84) (by decide +kernel)
theorem kw_85 : (Cond.lays "BubbleBox$Entry" "BubbleBox$Entry" "windowPage" "I") ∈ tables_1 := List.mem_of_getElem? (i := 85) (by decide +kernel)
theorem kw_86 : (Cond.soleField "BubbleBox$Entry" "windowPage") ∈ tables_1 := List.mem_of_getElem? (i := 86) (by decide +kernel)
theorem kw_87 : (Cond.lays "BubbleBox$Entry" "BubbleBox$Entry" "windowBits" "J") ∈ tables_1 := List.mem_of_getElem? (i := 87) (by decide +kernel)
theorem kw_88 : (Cond.soleField "BubbleBox$Entry" "windowBits") ∈ tables_1 := List.mem_of_getElem? (i := 88) (by decide +kernel)
theorem kw_89 : (Cond.lays "BubbleBox$Entry" "BubbleBox$Entry" "changed" "Z") ∈ tables_1 := List.mem_of_getElem? (i := 89) (by decide +kernel)
theorem kw_90 : (Cond.soleField "BubbleBox$Entry" "changed") ∈ tables_1 := List.mem_of_getElem? (i := 90) (by decide +kernel)
theorem kw_91 : (Cond.superclass "BubbleBox$Entry" "java/lang/Object") ∈ tables_1 := List.mem_of_getElem? (i := 91) (by decide +kernel)
theorem kw_92 : (Cond.fieldLink "BubbleBox$Directory" (11 : Nat) "BubbleBox$Directory" "entries" "[LBubbleBox$Entry;") ∈ tables_1 := List.mem_of_getElem? (i := 92) (by decide +kernel)
theorem kw_93 : (Cond.fieldLinkNest "BubbleBox" (121 : Nat) "BubbleBox$Directory" "entries" "[LBubbleBox$Entry;" "BubbleBox") ∈ tables_1 := List.mem_of_getElem? (i := 93) (by decide +kernel)
theorem kw_94 : (Cond.fieldLink "BubbleBox$Directory" (18 : Nat) "BubbleBox$Directory" "behind" "[I") ∈ tables_1 := List.mem_of_getElem? (i := 94) (by decide +kernel)
theorem kw_95 : (Cond.fieldLink "BubbleBox$Directory" (22 : Nat) "BubbleBox$Directory" "owned" "[Z") ∈ tables_1 := List.mem_of_getElem? (i := 95) (by decide +kernel)
theorem kw_96 : (Cond.fieldLink "BubbleBox$Directory" (26 : Nat) "BubbleBox$Directory" "held" "[Z") ∈ tables_1 := List.mem_of_getElem? (i := 96) (by decide +kernel)
theorem kw_97 : (Cond.fieldLinkNest "BubbleBox" (255 : Nat) "BubbleBox$Directory" "held" "[Z" "BubbleBox") ∈ tables_1 := List.mem_of_getElem? (i := 97) (by decide +kernel)
theorem kw_98 : (Cond.laysFinal "BubbleBox$Directory" "BubbleBox$Directory" "entries" "[LBubbleBox$Entry;") ∈ tables_1 := List.mem_of_getElem? (i := 98) (by decide +kernel)
theorem kw_99 : (Cond.soleField "BubbleBox$Directory" "entries") ∈ tables_1 := List.mem_of_getElem? (i := 99) (by decide +kernel)
theorem kw_100 : (Cond.laysFinal "BubbleBox$Directory" "BubbleBox$Directory" "behind" "[I") ∈ tables_1 := List.mem_of_getElem? (i := 100) (by decide +kernel)
theorem kw_101 : (Cond.soleField "BubbleBox$Directory" "behind") ∈ tables_1 := List.mem_of_getElem? (i := 101) (by decide +kernel)
theorem kw_102 : (Cond.laysFinal "BubbleBox$Directory" "BubbleBox$Directory" "owned" "[Z") ∈ tables_1 := List.mem_of_getElem? (i := 102) (by decide +kernel)
theorem kw_103 : (Cond.soleField "BubbleBox$Directory" "owned") ∈ tables_1 := List.mem_of_getElem? (i := 103) (by decide +kernel)
theorem kw_104 : (Cond.laysFinal "BubbleBox$Directory" "BubbleBox$Directory" "held" "[Z") ∈ tables_1 := List.mem_of_getElem? (i := 104) (by decide +kernel)
theorem kw_105 : (Cond.soleField "BubbleBox$Directory" "held") ∈ tables_1 := List.mem_of_getElem? (i := 105) (by decide +kernel)
theorem kw_106 : (Cond.superclass "BubbleBox$Directory" "java/lang/Object") ∈ tables_1 := List.mem_of_getElem? (i := 106) (by decide +kernel)
theorem kw_107 : (Cond.arrayClass FieldType.int) ∈ tables_1 := List.mem_of_getElem? (i := 107) (by decide +kernel)
theorem kw_108 : (Cond.classLink "BubbleBox" (23 : Nat) "BubbleBox$Requests") ∈ tables_1 := List.mem_of_getElem? (i := 108) (by decide +kernel)
theorem kw_109 : (Cond.instantiable "BubbleBox$Requests" (7 : Nat)) ∈ tables_1 := List.mem_of_getElem? (i := 109) (by decide +kernel)
theorem kw_110 : (Cond.methodLinkNest "BubbleBox" (25 : Nat) ({ cls := "BubbleBox$Requests", name := "<init>", desc := "()V" } : MethodName) "BubbleBox") ∈ tables_1 := List.mem_of_getElem? (i := 110) (by decide +kernel)
theorem kw_111 : (Cond.instanceMethod ({ cls := "BubbleBox$Requests", name := "<init>", desc := "()V" } : MethodName)) ∈ tables_1 := List.mem_of_getElem? (i := 111) (by decide +kernel)
theorem kw_112 : (Cond.code ({ cls := "BubbleBox$Requests", name := "<init>", desc := "()V" } : MethodName) prog_6_method_1_code (1 : Nat) (Option.none : Option FieldType)) ∈ tables_1 := List.mem_of_getElem? (i := 112) (by decide +kernel)
theorem kw_113 : (Cond.methodLink "BubbleBox$Requests" (3 : Nat) ({ cls := "java/lang/Object", name := "<init>", desc := "()V" } : MethodName)) ∈ tables_1 := List.mem_of_getElem? (i := 113) (by decide +kernel)
theorem kw_114 : (Cond.fieldLink "BubbleBox$Requests" (9 : Nat) "BubbleBox$Requests" "page" "[I") ∈ tables_1 := List.mem_of_getElem? (i := 114) (by decide +kernel)
theorem kw_115 : (Cond.fieldLinkNest "BubbleBox" (281 : Nat) "BubbleBox$Requests" "page" "[I" "BubbleBox") ∈ tables_1 := List.mem_of_getElem? (i := 115) (by decide +kernel)
theorem kw_116 : (Cond.fieldLink "BubbleBox$Requests" (15 : Nat) "BubbleBox$Requests" "write" "[Z") ∈ tables_1 := List.mem_of_getElem? (i := 116) (by decide +kernel)
theorem kw_117 : (Cond.fieldLinkNest "BubbleBox" (285 : Nat) "BubbleBox$Requests" "write" "[Z" "BubbleBox") ∈ tables_1 := List.mem_of_getElem? (i := 117) (by decide +kernel)
theorem kw_118 : (Cond.fieldLink "BubbleBox$Requests" (19 : Nat) "BubbleBox$Requests" "bits" "[J") ∈ tables_1 := List.mem_of_getElem? (i := 118) (by decide +kernel)
theorem kw_119 : (Cond.fieldLinkNest "BubbleBox" (292 : Nat) "BubbleBox$Requests" "bits" "[J" "BubbleBox") ∈ tables_1 := List.mem_of_getElem? (i := 119) (by decide +kernel)
theorem kw_120 : (Cond.fieldLink "BubbleBox$Requests" (23 : Nat) "BubbleBox$Requests" "waiting" "[Z") ∈ tables_1 := List.mem_of_getElem? (i := 120) (by decide +kernel)
theorem kw_121 : (Cond.fieldLink "BubbleBox$Requests" (26 : Nat) "BubbleBox$Requests" "answers" "[J") ∈ tables_1 := List.mem_of_getElem? (i := 121) (by decide +kernel)
theorem kw_122 : (Cond.fieldLinkNest "BubbleBox" (205 : Nat) "BubbleBox$Requests" "answers" "[J" "BubbleBox") ∈ tables_1 := List.mem_of_getElem? (i := 122) (by decide +kernel)
theorem kw_123 : (Cond.fieldLink "BubbleBox$Requests" (29 : Nat) "BubbleBox$Requests" "asked" "I") ∈ tables_1 := List.mem_of_getElem? (i := 123) (by decide +kernel)
theorem kw_124 : (Cond.fieldLinkNest "BubbleBox" (180 : Nat) "BubbleBox$Requests" "asked" "I" "BubbleBox") ∈ tables_1 := List.mem_of_getElem? (i := 124) (by decide +kernel)
theorem kw_125 : (Cond.fieldLink "BubbleBox$Requests" (33 : Nat) "BubbleBox$Requests" "answered" "I") ∈ tables_1 := List.mem_of_getElem? (i := 125) (by decide +kernel)
theorem kw_126 : (Cond.fieldLinkNest "BubbleBox" (192 : Nat) "BubbleBox$Requests" "answered" "I" "BubbleBox") ∈ tables_1 := List.mem_of_getElem? (i := 126) (by decide +kernel)
theorem kw_127 : (Cond.laysFinal "BubbleBox$Requests" "BubbleBox$Requests" "page" "[I") ∈ tables_1 := List.mem_of_getElem? (i := 127) (by decide +kernel)
theorem kw_128 : (Cond.soleField "BubbleBox$Requests" "page") ∈ tables_1 := List.mem_of_getElem? (i := 128) (by decide +kernel)
theorem kw_129 : (Cond.laysFinal "BubbleBox$Requests" "BubbleBox$Requests" "write" "[Z") ∈ tables_1 := List.mem_of_getElem? (i := 129) (by decide +kernel)
theorem kw_130 : (Cond.soleField "BubbleBox$Requests" "write") ∈ tables_1 := List.mem_of_getElem? (i := 130) (by decide +kernel)
theorem kw_131 : (Cond.laysFinal "BubbleBox$Requests" "BubbleBox$Requests" "bits" "[J") ∈ tables_1 := List.mem_of_getElem? (i := 131) (by decide +kernel)
theorem kw_132 : (Cond.soleField "BubbleBox$Requests" "bits") ∈ tables_1 := List.mem_of_getElem? (i := 132) (by decide +kernel)
theorem kw_133 : (Cond.laysFinal "BubbleBox$Requests" "BubbleBox$Requests" "waiting" "[Z") ∈ tables_1 := List.mem_of_getElem? (i := 133) (by decide +kernel)
theorem kw_134 : (Cond.soleField "BubbleBox$Requests" "waiting") ∈ tables_1 := List.mem_of_getElem? (i := 134) (by decide +kernel)
theorem kw_135 : (Cond.laysFinal "BubbleBox$Requests" "BubbleBox$Requests" "answers" "[J") ∈ tables_1 := List.mem_of_getElem? (i := 135) (by decide +kernel)
theorem kw_136 : (Cond.soleField "BubbleBox$Requests" "answers") ∈ tables_1 := List.mem_of_getElem? (i := 136) (by decide +kernel)
theorem kw_137 : (Cond.lays "BubbleBox$Requests" "BubbleBox$Requests" "asked" "I") ∈ tables_1 := List.mem_of_getElem? (i := 137) (by decide +kernel)
theorem kw_138 : (Cond.soleField "BubbleBox$Requests" "asked") ∈ tables_1 := List.mem_of_getElem? (i := 138) (by decide +kernel)
theorem kw_139 : (Cond.lays "BubbleBox$Requests" "BubbleBox$Requests" "answered" "I") ∈ tables_1 := List.mem_of_getElem? (i := 139) (by decide +kernel)
theorem kw_140 : (Cond.soleField "BubbleBox$Requests" "answered") ∈ tables_1 := List.mem_of_getElem? (i := 140) (by decide +kernel)
theorem kw_141 : (Cond.superclass "BubbleBox$Requests" "java/lang/Object") ∈ tables_1 := List.mem_of_getElem? (i := 141) (by decide +kernel)
theorem kw_142 : (Cond.classLink "BubbleBox" (30 : Nat) "BubbleBox$Image") ∈ tables_1 := List.mem_of_getElem? (i := 142) (by decide +kernel)
theorem kw_143 : (Cond.arrayOver (FieldType.object "BubbleBox$Image")) ∈ tables_1 := List.mem_of_getElem? (i := 143) (by decide +kernel)
theorem kw_144 : (Cond.instantiable "BubbleBox$Image" (1 : Nat)) ∈ tables_1 := List.mem_of_getElem? (i := 144) (by decide +kernel)
theorem kw_145 : (Cond.methodLinkNest "BubbleBox" (32 : Nat) ({ cls := "BubbleBox$Image", name := "<init>", desc := "()V" } : MethodName) "BubbleBox") ∈ tables_1 := List.mem_of_getElem? (i := 145) (by decide +kernel)
theorem kw_146 : (Cond.instanceMethod ({ cls := "BubbleBox$Image", name := "<init>", desc := "()V" } : MethodName)) ∈ tables_1 := List.mem_of_getElem? (i := 146) (by decide +kernel)
theorem kw_147 : (Cond.code ({ cls := "BubbleBox$Image", name := "<init>", desc := "()V" } : MethodName) prog_5_method_1_code (1 : Nat) (Option.none : Option FieldType)) ∈ tables_1 := List.mem_of_getElem? (i := 147) (by decide +kernel)
theorem kw_148 : (Cond.methodLink "BubbleBox$Image" (3 : Nat) ({ cls := "java/lang/Object", name := "<init>", desc := "()V" } : MethodName)) ∈ tables_1 := List.mem_of_getElem? (i := 148) (by decide +kernel)
theorem kw_149 : (Cond.fieldLink "BubbleBox$Image" (9 : Nat) "BubbleBox$Image" "pages" "[J") ∈ tables_1 := List.mem_of_getElem? (i := 149) (by decide +kernel)
theorem kw_150 : (Cond.fieldLinkNest "BubbleBox" (276 : Nat) "BubbleBox$Image" "pages" "[J" "BubbleBox") ∈ tables_1 := List.mem_of_getElem? (i := 150) (by decide +kernel)
theorem kw_151 : (Cond.laysFinal "BubbleBox$Image" "BubbleBox$Image" "pages" "[J") ∈ tables_1 := List.mem_of_getElem? (i := 151) (by decide +kernel)
theorem kw_152 : (Cond.soleField "BubbleBox$Image" "pages") ∈ tables_1 := List.mem_of_getElem? (i := 152) (by decide +kernel)
theorem kw_153 : (Cond.superclass "BubbleBox$Image" "java/lang/Object") ∈ tables_1 := List.mem_of_getElem? (i := 153) (by decide +kernel)
theorem kw_154 : (Cond.fieldLink "BubbleBox" (10 : Nat) "BubbleBox" "chip" "LBubbleBox$Chip;") ∈ tables_1 := List.mem_of_getElem? (i := 154) (by decide +kernel)
theorem kw_155 : (Cond.fieldLink "BubbleBox" (19 : Nat) "BubbleBox" "directory" "LBubbleBox$Directory;") ∈ tables_1 := List.mem_of_getElem? (i := 155) (by decide +kernel)
theorem kw_156 : (Cond.fieldLink "BubbleBox" (26 : Nat) "BubbleBox" "requests" "LBubbleBox$Requests;") ∈ tables_1 := List.mem_of_getElem? (i := 156) (by decide +kernel)
theorem kw_157 : (Cond.fieldLink "BubbleBox" (33 : Nat) "BubbleBox" "images" "[LBubbleBox$Image;") ∈ tables_1 := List.mem_of_getElem? (i := 157) (by decide +kernel)
theorem kw_158 : (Cond.fieldLink "BubbleBox" (37 : Nat) "BubbleBox" "condition" "I") ∈ tables_1 := List.mem_of_getElem? (i := 158) (by decide +kernel)
theorem kw_159 : (Cond.fieldLink "BubbleBox" (41 : Nat) "BubbleBox" "transfersLeft" "I") ∈ tables_1 := List.mem_of_getElem? (i := 159) (by decide +kernel)
theorem kw_160 : (Cond.fieldLink "BubbleBox" (44 : Nat) "BubbleBox" "currentImage" "I") ∈ tables_1 := List.mem_of_getElem? (i := 160) (by decide +kernel)
theorem kw_161 : (Cond.fieldLink "BubbleBox" (47 : Nat) "BubbleBox" "turn" "I") ∈ tables_1 := List.mem_of_getElem? (i := 161) (by decide +kernel)
theorem kw_162 : (Cond.laysFinal "BubbleBox" "BubbleBox" "chip" "LBubbleBox$Chip;") ∈ tables_1 := List.mem_of_getElem? (i := 162) (by decide +kernel)
theorem kw_163 : (Cond.soleField "BubbleBox" "chip") ∈ tables_1 := List.mem_of_getElem? (i := 163) (by decide +kernel)
theorem kw_164 : (Cond.laysFinal "BubbleBox" "BubbleBox" "directory" "LBubbleBox$Directory;") ∈ tables_1 := List.mem_of_getElem? (i := 164) (by decide +kernel)
theorem kw_165 : (Cond.soleField "BubbleBox" "directory") ∈ tables_1 := List.mem_of_getElem? (i := 165) (by decide +kernel)
theorem kw_166 : (Cond.laysFinal "BubbleBox" "BubbleBox" "requests" "LBubbleBox$Requests;") ∈ tables_1 := List.mem_of_getElem? (i := 166) (by decide +kernel)
theorem kw_167 : (Cond.soleField "BubbleBox" "requests") ∈ tables_1 := List.mem_of_getElem? (i := 167) (by decide +kernel)
theorem kw_168 : (Cond.laysFinal "BubbleBox" "BubbleBox" "images" "[LBubbleBox$Image;") ∈ tables_1 := List.mem_of_getElem? (i := 168) (by decide +kernel)
theorem kw_169 : (Cond.soleField "BubbleBox" "images") ∈ tables_1 := List.mem_of_getElem? (i := 169) (by decide +kernel)
theorem kw_170 : (Cond.lays "BubbleBox" "BubbleBox" "condition" "I") ∈ tables_1 := List.mem_of_getElem? (i := 170) (by decide +kernel)
theorem kw_171 : (Cond.soleField "BubbleBox" "condition") ∈ tables_1 := List.mem_of_getElem? (i := 171) (by decide +kernel)
theorem kw_172 : (Cond.lays "BubbleBox" "BubbleBox" "transfersLeft" "I") ∈ tables_1 := List.mem_of_getElem? (i := 172) (by decide +kernel)
theorem kw_173 : (Cond.soleField "BubbleBox" "transfersLeft") ∈ tables_1 := List.mem_of_getElem? (i := 173) (by decide +kernel)
theorem kw_174 : (Cond.lays "BubbleBox" "BubbleBox" "currentImage" "I") ∈ tables_1 := List.mem_of_getElem? (i := 174) (by decide +kernel)
theorem kw_175 : (Cond.soleField "BubbleBox" "currentImage") ∈ tables_1 := List.mem_of_getElem? (i := 175) (by decide +kernel)
theorem kw_176 : (Cond.lays "BubbleBox" "BubbleBox" "turn" "I") ∈ tables_1 := List.mem_of_getElem? (i := 176) (by decide +kernel)
theorem kw_177 : (Cond.soleField "BubbleBox" "turn") ∈ tables_1 := List.mem_of_getElem? (i := 177) (by decide +kernel)
theorem kw_178 : (Cond.superclass "BubbleBox" "java/lang/Object") ∈ tables_1 := List.mem_of_getElem? (i := 178) (by decide +kernel)
theorem kw_179 : (Cond.methodLink "BubbleBoxLaw" (82 : Nat) ({ cls := "BubbleBox", name := "power", desc := "(I)V" } : MethodName)) ∈ tables_1 := List.mem_of_getElem? (i := 179) (by decide +kernel)
theorem kw_180 : (Cond.instanceMethod ({ cls := "BubbleBox", name := "power", desc := "(I)V" } : MethodName)) ∈ tables_1 := List.mem_of_getElem? (i := 180) (by decide +kernel)
theorem kw_181 : (Cond.selects "BubbleBox" ({ cls := "BubbleBox", name := "power", desc := "(I)V" } : MethodName) ({ cls := "BubbleBox", name := "power", desc := "(I)V" } : MethodName)) ∈ tables_1 := List.mem_of_getElem? (i := 181) (by decide +kernel)
theorem kw_182 : (Cond.code ({ cls := "BubbleBox", name := "power", desc := "(I)V" } : MethodName) prog_1_method_3_code (2 : Nat) (Option.none : Option FieldType)) ∈ tables_1 := List.mem_of_getElem? (i := 182) (by decide +kernel)
theorem kw_183 : (Cond.methodLink "BubbleBoxLaw" (87 : Nat) ({ cls := "BubbleBox", name := "state", desc := "()I" } : MethodName)) ∈ tables_1 := List.mem_of_getElem? (i := 183) (by decide +kernel)
theorem kw_184 : (Cond.instanceMethod ({ cls := "BubbleBox", name := "state", desc := "()I" } : MethodName)) ∈ tables_1 := List.mem_of_getElem? (i := 184) (by decide +kernel)
theorem kw_185 : (Cond.selects "BubbleBox" ({ cls := "BubbleBox", name := "state", desc := "()I" } : MethodName) ({ cls := "BubbleBox", name := "state", desc := "()I" } : MethodName)) ∈ tables_1 := List.mem_of_getElem? (i := 185) (by decide +kernel)
theorem kw_186 : (Cond.code ({ cls := "BubbleBox", name := "state", desc := "()I" } : MethodName) prog_1_method_4_code (1 : Nat) (Option.some FieldType.int)) ∈ tables_1 := List.mem_of_getElem? (i := 186) (by decide +kernel)
theorem kw_187 : (Cond.methodLink "BubbleBoxLaw" (91 : Nat) ({ cls := "BubbleBox", name := "steps", desc := "()J" } : MethodName)) ∈ tables_1 := List.mem_of_getElem? (i := 187) (by decide +kernel)
theorem kw_188 : (Cond.instanceMethod ({ cls := "BubbleBox", name := "steps", desc := "()J" } : MethodName)) ∈ tables_1 := List.mem_of_getElem? (i := 188) (by decide +kernel)
theorem kw_189 : (Cond.selects "BubbleBox" ({ cls := "BubbleBox", name := "steps", desc := "()J" } : MethodName) ({ cls := "BubbleBox", name := "steps", desc := "()J" } : MethodName)) ∈ tables_1 := List.mem_of_getElem? (i := 189) (by decide +kernel)
theorem kw_190 : (Cond.code ({ cls := "BubbleBox", name := "steps", desc := "()J" } : MethodName) prog_1_method_5_code (1 : Nat) (Option.some FieldType.long)) ∈ tables_1 := List.mem_of_getElem? (i := 190) (by decide +kernel)
theorem kw_191 : (Cond.methodLink "BubbleBoxLaw" (100 : Nat) ({ cls := "BubbleBox", name := "mount", desc := "()Z" } : MethodName)) ∈ tables_1 := List.mem_of_getElem? (i := 191) (by decide +kernel)
theorem kw_192 : (Cond.instanceMethod ({ cls := "BubbleBox", name := "mount", desc := "()Z" } : MethodName)) ∈ tables_1 := List.mem_of_getElem? (i := 192) (by decide +kernel)
theorem kw_193 : (Cond.selects "BubbleBox" ({ cls := "BubbleBox", name := "mount", desc := "()Z" } : MethodName) ({ cls := "BubbleBox", name := "mount", desc := "()Z" } : MethodName)) ∈ tables_1 := List.mem_of_getElem? (i := 193) (by decide +kernel)
theorem kw_194 : (Cond.code ({ cls := "BubbleBox", name := "mount", desc := "()Z" } : MethodName) prog_1_method_7_code (2 : Nat) (Option.some FieldType.boolean)) ∈ tables_1 := List.mem_of_getElem? (i := 194) (by decide +kernel)
theorem kw_195 : (Cond.methodLink "BubbleBox" (87 : Nat) ({ cls := "BubbleBox", name := "forgetAll", desc := "()V" } : MethodName)) ∈ tables_1 := List.mem_of_getElem? (i := 195) (by decide +kernel)
theorem kw_196 : (Cond.privateMethod ({ cls := "BubbleBox", name := "forgetAll", desc := "()V" } : MethodName)) ∈ tables_1 := List.mem_of_getElem? (i := 196) (by decide +kernel)
theorem kw_197 : (Cond.instanceMethod ({ cls := "BubbleBox", name := "forgetAll", desc := "()V" } : MethodName)) ∈ tables_1 := List.mem_of_getElem? (i := 197) (by decide +kernel)
theorem kw_198 : (Cond.code ({ cls := "BubbleBox", name := "forgetAll", desc := "()V" } : MethodName) prog_1_method_24_code (1 : Nat) (Option.none : Option FieldType)) ∈ tables_1 := List.mem_of_getElem? (i := 198) (by decide +kernel)
theorem kw_199 : (Cond.methodLinkNest "BubbleBox" (213 : Nat) ({ cls := "BubbleBox$Directory", name := "forget", desc := "()V" } : MethodName) "BubbleBox") ∈ tables_1 := List.mem_of_getElem? (i := 199) (by decide +kernel)
theorem kw_200 : (Cond.privateMethod ({ cls := "BubbleBox$Directory", name := "forget", desc := "()V" } : MethodName)) ∈ tables_1 := List.mem_of_getElem? (i := 200) (by decide +kernel)
theorem kw_201 : (Cond.instanceMethod ({ cls := "BubbleBox$Directory", name := "forget", desc := "()V" } : MethodName)) ∈ tables_1 := List.mem_of_getElem? (i := 201) (by decide +kernel)
theorem kw_202 : (Cond.code ({ cls := "BubbleBox$Directory", name := "forget", desc := "()V" } : MethodName) prog_3_method_2_code (2 : Nat) (Option.none : Option FieldType)) ∈ tables_1 := List.mem_of_getElem? (i := 202) (by decide +kernel)
theorem kw_203 : (Cond.methodLinkNest "BubbleBox$Directory" (29 : Nat) ({ cls := "BubbleBox$Entry", name := "forget", desc := "()V" } : MethodName) "BubbleBox") ∈ tables_1 := List.mem_of_getElem? (i := 203) (by decide +kernel)
theorem kw_204 : (Cond.privateMethod ({ cls := "BubbleBox$Entry", name := "forget", desc := "()V" } : MethodName)) ∈ tables_1 := List.mem_of_getElem? (i := 204) (by decide +kernel)
theorem kw_205 : (Cond.instanceMethod ({ cls := "BubbleBox$Entry", name := "forget", desc := "()V" } : MethodName)) ∈ tables_1 := List.mem_of_getElem? (i := 205) (by decide +kernel)
theorem kw_206 : (Cond.code ({ cls := "BubbleBox$Entry", name := "forget", desc := "()V" } : MethodName) prog_4_method_2_code (1 : Nat) (Option.none : Option FieldType)) ∈ tables_1 := List.mem_of_getElem? (i := 206) (by decide +kernel)
theorem kw_207 : (Cond.methodLink "BubbleBox$Entry" (32 : Nat) ({ cls := "BubbleBox$Entry", name := "openWindow", desc := "(IJ)V" } : MethodName)) ∈ tables_1 := List.mem_of_getElem? (i := 207) (by decide +kernel)
theorem kw_208 : (Cond.privateMethod ({ cls := "BubbleBox$Entry", name := "openWindow", desc := "(IJ)V" } : MethodName)) ∈ tables_1 := List.mem_of_getElem? (i := 208) (by decide +kernel)
theorem kw_209 : (Cond.instanceMethod ({ cls := "BubbleBox$Entry", name := "openWindow", desc := "(IJ)V" } : MethodName)) ∈ tables_1 := List.mem_of_getElem? (i := 209) (by decide +kernel)
theorem kw_210 : (Cond.code ({ cls := "BubbleBox$Entry", name := "openWindow", desc := "(IJ)V" } : MethodName) prog_4_method_3_code (4 : Nat) (Option.none : Option FieldType)) ∈ tables_1 := List.mem_of_getElem? (i := 210) (by decide +kernel)
theorem kw_211 : (Cond.methodLinkNest "BubbleBox" (214 : Nat) ({ cls := "BubbleBox$Requests", name := "forget", desc := "()V" } : MethodName) "BubbleBox") ∈ tables_1 := List.mem_of_getElem? (i := 211) (by decide +kernel)
theorem kw_212 : (Cond.privateMethod ({ cls := "BubbleBox$Requests", name := "forget", desc := "()V" } : MethodName)) ∈ tables_1 := List.mem_of_getElem? (i := 212) (by decide +kernel)
theorem kw_213 : (Cond.instanceMethod ({ cls := "BubbleBox$Requests", name := "forget", desc := "()V" } : MethodName)) ∈ tables_1 := List.mem_of_getElem? (i := 213) (by decide +kernel)
theorem kw_214 : (Cond.code ({ cls := "BubbleBox$Requests", name := "forget", desc := "()V" } : MethodName) prog_6_method_2_code (1 : Nat) (Option.none : Option FieldType)) ∈ tables_1 := List.mem_of_getElem? (i := 214) (by decide +kernel)
theorem kw_215 : (Cond.methodLink "BubbleBox" (93 : Nat) ({ cls := "BubbleBox", name := "readImages", desc := "()V" } : MethodName)) ∈ tables_1 := List.mem_of_getElem? (i := 215) (by decide +kernel)
theorem kw_216 : (Cond.privateMethod ({ cls := "BubbleBox", name := "readImages", desc := "()V" } : MethodName)) ∈ tables_1 := List.mem_of_getElem? (i := 216) (by decide +kernel)
theorem kw_217 : (Cond.instanceMethod ({ cls := "BubbleBox", name := "readImages", desc := "()V" } : MethodName)) ∈ tables_1 := List.mem_of_getElem? (i := 217) (by decide +kernel)
theorem kw_218 : (Cond.code ({ cls := "BubbleBox", name := "readImages", desc := "()V" } : MethodName) prog_1_method_35_code (3 : Nat) (Option.none : Option FieldType)) ∈ tables_1 := List.mem_of_getElem? (i := 218) (by decide +kernel)
theorem kw_219 : (Cond.methodLink "BubbleBox" (242 : Nat) ({ cls := "BubbleBox", name := "readPage", desc := "(I)J" } : MethodName)) ∈ tables_1 := List.mem_of_getElem? (i := 219) (by decide +kernel)
theorem kw_220 : (Cond.privateMethod ({ cls := "BubbleBox", name := "readPage", desc := "(I)J" } : MethodName)) ∈ tables_1 := List.mem_of_getElem? (i := 220) (by decide +kernel)
theorem kw_221 : (Cond.instanceMethod ({ cls := "BubbleBox", name := "readPage", desc := "(I)J" } : MethodName)) ∈ tables_1 := List.mem_of_getElem? (i := 221) (by decide +kernel)
theorem kw_222 : (Cond.code ({ cls := "BubbleBox", name := "readPage", desc := "(I)J" } : MethodName) prog_1_method_26_code (2 : Nat) (Option.some FieldType.long)) ∈ tables_1 := List.mem_of_getElem? (i := 222) (by decide +kernel)
theorem kw_223 : (Cond.methodLink "BubbleBox" (217 : Nat) ({ cls := "BubbleBox", name := "usePower", desc := "()V" } : MethodName)) ∈ tables_1 := List.mem_of_getElem? (i := 223) (by decide +kernel)
theorem kw_224 : (Cond.privateMethod ({ cls := "BubbleBox", name := "usePower", desc := "()V" } : MethodName)) ∈ tables_1 := List.mem_of_getElem? (i := 224) (by decide +kernel)
theorem kw_225 : (Cond.instanceMethod ({ cls := "BubbleBox", name := "usePower", desc := "()V" } : MethodName)) ∈ tables_1 := List.mem_of_getElem? (i := 225) (by decide +kernel)
theorem kw_226 : (Cond.code ({ cls := "BubbleBox", name := "usePower", desc := "()V" } : MethodName) prog_1_method_25_code (1 : Nat) (Option.none : Option FieldType)) ∈ tables_1 := List.mem_of_getElem? (i := 226) (by decide +kernel)
theorem kw_227 : (Cond.classLink "BubbleBox" (63 : Nat) "java/lang/IllegalStateException") ∈ tables_1 := List.mem_of_getElem? (i := 227) (by decide +kernel)
theorem kw_228 : (Cond.instantiable "java/lang/IllegalStateException" (6 : Nat)) ∈ tables_1 := List.mem_of_getElem? (i := 228) (by decide +kernel)
theorem kw_229 : (Cond.castable "java/lang/IllegalStateException" "java/lang/IllegalStateException") ∈ tables_1 := List.mem_of_getElem? (i := 229) (by decide +kernel)
theorem kw_230 : (Cond.declares ({ cls := "java/lang/RuntimeException", name := "<init>", desc := "()V" } : MethodName)) ∈ tables_1 := List.mem_of_getElem? (i := 230) (by decide +kernel)
theorem kw_231 : (Cond.declares ({ cls := "java/lang/RuntimeException", name := "<init>", desc := "(Ljava/lang/String;)V" } : MethodName)) ∈ tables_1 := List.mem_of_getElem? (i := 231) (by decide +kernel)
theorem kw_232 : (Cond.declares ({ cls := "java/lang/Exception", name := "<init>", desc := "()V" } : MethodName)) ∈ tables_1 := List.mem_of_getElem? (i := 232) (by decide +kernel)
theorem kw_233 : (Cond.declares ({ cls := "java/lang/Exception", name := "<init>", desc := "(Ljava/lang/String;)V" } : MethodName)) ∈ tables_1 := List.mem_of_getElem? (i := 233) (by decide +kernel)
theorem kw_234 : (Cond.declares ({ cls := "java/lang/Throwable", name := "<init>", desc := "()V" } : MethodName)) ∈ tables_1 := List.mem_of_getElem? (i := 234) (by decide +kernel)
theorem kw_235 : (Cond.declares ({ cls := "java/lang/Throwable", name := "<init>", desc := "(Ljava/lang/String;)V" } : MethodName)) ∈ tables_1 := List.mem_of_getElem? (i := 235) (by decide +kernel)
theorem kw_236 : (Cond.selects "java/lang/IllegalStateException" ({ cls := "java/lang/Throwable", name := "fillInStackTrace", desc := "(I)Ljava/lang/Throwable;" } : MethodName) ({ cls := "java/lang/Throwable", name := "fillInStackTrace", desc := "(I)Ljava/lang/Throwable;" } : MethodName)) ∈ tables_1 := List.mem_of_getElem? (i := 236) (by decide +kernel)
theorem kw_237 : (Cond.selects "java/lang/IllegalStateException" ({ cls := "java/lang/Throwable", name := "fillInStackTrace", desc := "()Ljava/lang/Throwable;" } : MethodName) ({ cls := "java/lang/Throwable", name := "fillInStackTrace", desc := "()Ljava/lang/Throwable;" } : MethodName)) ∈ tables_1 := List.mem_of_getElem? (i := 237) (by decide +kernel)
theorem kw_238 : (Cond.lays "java/lang/IllegalStateException" "java/lang/Throwable" "cause" "Ljava/lang/Throwable;") ∈ tables_1 := List.mem_of_getElem? (i := 238) (by decide +kernel)
theorem kw_239 : (Cond.lays "java/lang/Throwable" "java/lang/Throwable" "cause" "Ljava/lang/Throwable;") ∈ tables_1 := List.mem_of_getElem? (i := 239) (by decide +kernel)
theorem kw_240 : (Cond.lays "java/lang/IllegalStateException" "java/lang/Throwable" "stackTrace" "[Ljava/lang/StackTraceElement;") ∈ tables_1 := List.mem_of_getElem? (i := 240) (by decide +kernel)
theorem kw_241 : (Cond.lays "java/lang/Throwable" "java/lang/Throwable" "stackTrace" "[Ljava/lang/StackTraceElement;") ∈ tables_1 := List.mem_of_getElem? (i := 241) (by decide +kernel)
theorem kw_242 : (Cond.lays "java/lang/IllegalStateException" "java/lang/Throwable" "suppressedExceptions" "Ljava/util/List;") ∈ tables_1 := List.mem_of_getElem? (i := 242) (by decide +kernel)
theorem kw_243 : (Cond.lays "java/lang/Throwable" "java/lang/Throwable" "suppressedExceptions" "Ljava/util/List;") ∈ tables_1 := List.mem_of_getElem? (i := 243) (by decide +kernel)
theorem kw_244 : (Cond.lays "java/lang/IllegalStateException" "java/lang/Throwable" "detailMessage" "Ljava/lang/String;") ∈ tables_1 := List.mem_of_getElem? (i := 244) (by decide +kernel)
theorem kw_245 : (Cond.lays "java/lang/Throwable" "java/lang/Throwable" "detailMessage" "Ljava/lang/String;") ∈ tables_1 := List.mem_of_getElem? (i := 245) (by decide +kernel)
theorem kw_246 : (Cond.lays "java/lang/IllegalStateException" "java/lang/Throwable" "backtrace" "Ljava/lang/Object;") ∈ tables_1 := List.mem_of_getElem? (i := 246) (by decide +kernel)
theorem kw_247 : (Cond.lays "java/lang/Throwable" "java/lang/Throwable" "backtrace" "Ljava/lang/Object;") ∈ tables_1 := List.mem_of_getElem? (i := 247) (by decide +kernel)
theorem kw_248 : (Cond.fieldLink "java/lang/Throwable" (198 : Nat) "java/lang/Throwable" "backtrace" "Ljava/lang/Object;") ∈ tables_1 := List.mem_of_getElem? (i := 248) (by decide +kernel)
theorem kw_249 : (Cond.superclass "java/lang/Throwable" "java/lang/Object") ∈ tables_1 := List.mem_of_getElem? (i := 249) (by decide +kernel)
theorem kw_250 : (Cond.instanceMethod ({ cls := "java/lang/Throwable", name := "<init>", desc := "()V" } : MethodName)) ∈ tables_1 := List.mem_of_getElem? (i := 250) (by decide +kernel)
theorem kw_251 : (Cond.code ({ cls := "java/lang/Throwable", name := "<init>", desc := "()V" } : MethodName) prog_15_method_1_code (1 : Nat) (Option.none : Option FieldType)) ∈ tables_1 := List.mem_of_getElem? (i := 251) (by decide +kernel)
theorem kw_252 : (Cond.methodLink "java/lang/Throwable" (1 : Nat) ({ cls := "java/lang/Object", name := "<init>", desc := "()V" } : MethodName)) ∈ tables_1 := List.mem_of_getElem? (i := 252) (by decide +kernel)
theorem kw_253 : (Cond.fieldLink "java/lang/Throwable" (13 : Nat) "java/lang/Throwable" "UNASSIGNED_STACK" "[Ljava/lang/StackTraceElement;") ∈ tables_1 := List.mem_of_getElem? (i := 253) (by decide +kernel)
theorem kw_254 : (Cond.laysStatic "java/lang/Throwable" "UNASSIGNED_STACK" "[Ljava/lang/StackTraceElement;") ∈ tables_1 := List.mem_of_getElem? (i := 254) (by decide +kernel)
theorem kw_255 : (Cond.fieldLink "java/lang/Throwable" (20 : Nat) "java/lang/Throwable" "SUPPRESSED_SENTINEL" "Ljava/util/List;") ∈ tables_1 := List.mem_of_getElem? (i := 255) (by decide +kernel)
theorem kw_256 : (Cond.laysStatic "java/lang/Throwable" "SUPPRESSED_SENTINEL" "Ljava/util/List;") ∈ tables_1 := List.mem_of_getElem? (i := 256) (by decide +kernel)
theorem kw_257 : (Cond.methodLink "java/lang/Throwable" (27 : Nat) ({ cls := "java/lang/Throwable", name := "fillInStackTrace", desc := "()Ljava/lang/Throwable;" } : MethodName)) ∈ tables_1 := List.mem_of_getElem? (i := 257) (by decide +kernel)
theorem kw_258 : (Cond.instanceMethod ({ cls := "java/lang/Throwable", name := "fillInStackTrace", desc := "()Ljava/lang/Throwable;" } : MethodName)) ∈ tables_1 := List.mem_of_getElem? (i := 258) (by decide +kernel)
theorem kw_259 : (Cond.sameMethod "java/lang/Throwable" "java/lang/Throwable" "fillInStackTrace" "()Ljava/lang/Throwable;") ∈ tables_1 := List.mem_of_getElem? (i := 259) (by decide +kernel)
theorem kw_260 : (Cond.selects "java/lang/IllegalArgumentException" ({ cls := "java/lang/Throwable", name := "fillInStackTrace", desc := "()Ljava/lang/Throwable;" } : MethodName) ({ cls := "java/lang/Throwable", name := "fillInStackTrace", desc := "()Ljava/lang/Throwable;" } : MethodName)) ∈ tables_1 := List.mem_of_getElem? (i := 260) (by decide +kernel)
theorem kw_261 : (Cond.selects "java/lang/IndexOutOfBoundsException" ({ cls := "java/lang/Throwable", name := "fillInStackTrace", desc := "()Ljava/lang/Throwable;" } : MethodName) ({ cls := "java/lang/Throwable", name := "fillInStackTrace", desc := "()Ljava/lang/Throwable;" } : MethodName)) ∈ tables_1 := List.mem_of_getElem? (i := 261) (by decide +kernel)
theorem kw_262 : (Cond.selects "java/lang/UnsupportedOperationException" ({ cls := "java/lang/Throwable", name := "fillInStackTrace", desc := "()Ljava/lang/Throwable;" } : MethodName) ({ cls := "java/lang/Throwable", name := "fillInStackTrace", desc := "()Ljava/lang/Throwable;" } : MethodName)) ∈ tables_1 := List.mem_of_getElem? (i := 262) (by decide +kernel)
theorem kw_263 : (Cond.codeSync ({ cls := "java/lang/Throwable", name := "fillInStackTrace", desc := "()Ljava/lang/Throwable;" } : MethodName) prog_15_method_18_code (1 : Nat) (Option.some (FieldType.object "java/lang/Throwable"))) ∈ tables_1 := List.mem_of_getElem? (i := 263) (by decide +kernel)
theorem kw_264 : (Cond.methodLink "java/lang/Throwable" (202 : Nat) ({ cls := "java/lang/Throwable", name := "fillInStackTrace", desc := "(I)Ljava/lang/Throwable;" } : MethodName)) ∈ tables_1 := List.mem_of_getElem? (i := 264) (by decide +kernel)
theorem kw_265 : (Cond.privateMethod ({ cls := "java/lang/Throwable", name := "fillInStackTrace", desc := "(I)Ljava/lang/Throwable;" } : MethodName)) ∈ tables_1 := List.mem_of_getElem? (i := 265) (by decide +kernel)
theorem kw_266 : (Cond.instanceMethod ({ cls := "java/lang/Throwable", name := "fillInStackTrace", desc := "(I)Ljava/lang/Throwable;" } : MethodName)) ∈ tables_1 := List.mem_of_getElem? (i := 266) (by decide +kernel)
theorem kw_267 : (Cond.instantiable "java/lang/Throwable" (6 : Nat)) ∈ tables_1 := List.mem_of_getElem? (i := 267) (by decide +kernel)
theorem kw_268 : (Cond.native ({ cls := "java/lang/Throwable", name := "fillInStackTrace", desc := "(I)Ljava/lang/Throwable;" } : MethodName)) ∈ tables_1 := List.mem_of_getElem? (i := 268) (by decide +kernel)
theorem kw_269 : (Cond.stringRef "BubbleBox" (215 : Nat) "power went off") ∈ tables_1 := List.mem_of_getElem? (i := 269) (by decide +kernel)
theorem kw_270 : (Cond.methodLink "BubbleBox" (67 : Nat) ({ cls := "java/lang/IllegalStateException", name := "<init>", desc := "(Ljava/lang/String;)V" } : MethodName)) ∈ tables_1 := List.mem_of_getElem? (i := 270) (by decide +kernel)
theorem kw_271 : (Cond.instanceMethod ({ cls := "java/lang/IllegalStateException", name := "<init>", desc := "(Ljava/lang/String;)V" } : MethodName)) ∈ tables_1 := List.mem_of_getElem? (i := 271) (by decide +kernel)
theorem kw_272 : (Cond.code ({ cls := "java/lang/IllegalStateException", name := "<init>", desc := "(Ljava/lang/String;)V" } : MethodName) prog_11_method_2_code (2 : Nat) (Option.none : Option FieldType)) ∈ tables_1 := List.mem_of_getElem? (i := 272) (by decide +kernel)
theorem kw_273 : (Cond.methodLink "java/lang/IllegalStateException" (7 : Nat) ({ cls := "java/lang/RuntimeException", name := "<init>", desc := "(Ljava/lang/String;)V" } : MethodName)) ∈ tables_1 := List.mem_of_getElem? (i := 273) (by decide +kernel)
theorem kw_274 : (Cond.instanceMethod ({ cls := "java/lang/RuntimeException", name := "<init>", desc := "(Ljava/lang/String;)V" } : MethodName)) ∈ tables_1 := List.mem_of_getElem? (i := 274) (by decide +kernel)
theorem kw_275 : (Cond.code ({ cls := "java/lang/RuntimeException", name := "<init>", desc := "(Ljava/lang/String;)V" } : MethodName) prog_13_method_2_code (2 : Nat) (Option.none : Option FieldType)) ∈ tables_1 := List.mem_of_getElem? (i := 275) (by decide +kernel)
theorem kw_276 : (Cond.methodLink "java/lang/RuntimeException" (7 : Nat) ({ cls := "java/lang/Exception", name := "<init>", desc := "(Ljava/lang/String;)V" } : MethodName)) ∈ tables_1 := List.mem_of_getElem? (i := 276) (by decide +kernel)
theorem kw_277 : (Cond.instanceMethod ({ cls := "java/lang/Exception", name := "<init>", desc := "(Ljava/lang/String;)V" } : MethodName)) ∈ tables_1 := List.mem_of_getElem? (i := 277) (by decide +kernel)
theorem kw_278 : (Cond.code ({ cls := "java/lang/Exception", name := "<init>", desc := "(Ljava/lang/String;)V" } : MethodName) prog_9_method_2_code (2 : Nat) (Option.none : Option FieldType)) ∈ tables_1 := List.mem_of_getElem? (i := 278) (by decide +kernel)
theorem kw_279 : (Cond.methodLink "java/lang/Exception" (7 : Nat) ({ cls := "java/lang/Throwable", name := "<init>", desc := "(Ljava/lang/String;)V" } : MethodName)) ∈ tables_1 := List.mem_of_getElem? (i := 279) (by decide +kernel)
theorem kw_280 : (Cond.instanceMethod ({ cls := "java/lang/Throwable", name := "<init>", desc := "(Ljava/lang/String;)V" } : MethodName)) ∈ tables_1 := List.mem_of_getElem? (i := 280) (by decide +kernel)
theorem kw_281 : (Cond.code ({ cls := "java/lang/Throwable", name := "<init>", desc := "(Ljava/lang/String;)V" } : MethodName) prog_15_method_2_code (2 : Nat) (Option.none : Option FieldType)) ∈ tables_1 := List.mem_of_getElem? (i := 281) (by decide +kernel)
theorem kw_282 : (Cond.fieldLink "java/lang/Throwable" (198 : Nat) "java/lang/Throwable" "backtrace" "Ljava/lang/Object;") ∈ tables_1 := List.mem_of_getElem? (i := 282) (by decide +kernel)
theorem kw_283 : (Cond.fieldLink "java/lang/Throwable" (31 : Nat) "java/lang/Throwable" "detailMessage" "Ljava/lang/String;") ∈ tables_1 := List.mem_of_getElem? (i := 283) (by decide +kernel)
theorem kw_284 : (Cond.fieldLink "java/lang/Throwable" (7 : Nat) "java/lang/Throwable" "cause" "Ljava/lang/Throwable;") ∈ tables_1 := List.mem_of_getElem? (i := 284) (by decide +kernel)
theorem kw_285 : (Cond.fieldLink "java/lang/Throwable" (17 : Nat) "java/lang/Throwable" "stackTrace" "[Ljava/lang/StackTraceElement;") ∈ tables_1 := List.mem_of_getElem? (i := 285) (by decide +kernel)
theorem kw_286 : (Cond.fieldLink "java/lang/Throwable" (24 : Nat) "java/lang/Throwable" "suppressedExceptions" "Ljava/util/List;") ∈ tables_1 := List.mem_of_getElem? (i := 286) (by decide +kernel)
theorem kw_287 : (Cond.soleField "java/lang/Throwable" "backtrace") ∈ tables_1 := List.mem_of_getElem? (i := 287) (by decide +kernel)
theorem kw_288 : (Cond.soleField "java/lang/Throwable" "detailMessage") ∈ tables_1 := List.mem_of_getElem? (i := 288) (by decide +kernel)
theorem kw_289 : (Cond.soleField "java/lang/Throwable" "cause") ∈ tables_1 := List.mem_of_getElem? (i := 289) (by decide +kernel)
theorem kw_290 : (Cond.soleField "java/lang/Throwable" "stackTrace") ∈ tables_1 := List.mem_of_getElem? (i := 290) (by decide +kernel)
theorem kw_291 : (Cond.lays "java/lang/IllegalStateException" "java/lang/Throwable" "depth" "I") ∈ tables_1 := List.mem_of_getElem? (i := 291) (by decide +kernel)
theorem kw_292 : (Cond.soleField "java/lang/Throwable" "depth") ∈ tables_1 := List.mem_of_getElem? (i := 292) (by decide +kernel)
theorem kw_293 : (Cond.soleField "java/lang/Throwable" "suppressedExceptions") ∈ tables_1 := List.mem_of_getElem? (i := 293) (by decide +kernel)
theorem kw_294 : (Cond.superclass "java/lang/IllegalStateException" "java/lang/RuntimeException") ∈ tables_1 := List.mem_of_getElem? (i := 294) (by decide +kernel)
theorem kw_295 : (Cond.arrayClass FieldType.byte) ∈ tables_1 := List.mem_of_getElem? (i := 295) (by decide +kernel)
theorem kw_296 : (Cond.methodLinkNest "BubbleBox" (220 : Nat) ({ cls := "BubbleBox$Chip", name := "turnTo", desc := "(I)V" } : MethodName) "BubbleBox") ∈ tables_1 := List.mem_of_getElem? (i := 296) (by decide +kernel)
theorem kw_297 : (Cond.privateMethod ({ cls := "BubbleBox$Chip", name := "turnTo", desc := "(I)V" } : MethodName)) ∈ tables_1 := List.mem_of_getElem? (i := 297) (by decide +kernel)
theorem kw_298 : (Cond.instanceMethod ({ cls := "BubbleBox$Chip", name := "turnTo", desc := "(I)V" } : MethodName)) ∈ tables_1 := List.mem_of_getElem? (i := 298) (by decide +kernel)
theorem kw_299 : (Cond.code ({ cls := "BubbleBox$Chip", name := "turnTo", desc := "(I)V" } : MethodName) prog_2_method_3_code (2 : Nat) (Option.none : Option FieldType)) ∈ tables_1 := List.mem_of_getElem? (i := 299) (by decide +kernel)
theorem kw_300 : (Cond.methodLink "BubbleBox$Chip" (31 : Nat) ({ cls := "BubbleBox$Chip", name := "stepsTo", desc := "(I)I" } : MethodName)) ∈ tables_1 := List.mem_of_getElem? (i := 300) (by decide +kernel)
theorem kw_301 : (Cond.privateMethod ({ cls := "BubbleBox$Chip", name := "stepsTo", desc := "(I)I" } : MethodName)) ∈ tables_1 := List.mem_of_getElem? (i := 301) (by decide +kernel)
theorem kw_302 : (Cond.instanceMethod ({ cls := "BubbleBox$Chip", name := "stepsTo", desc := "(I)I" } : MethodName)) ∈ tables_1 := List.mem_of_getElem? (i := 302) (by decide +kernel)
theorem kw_303 : (Cond.code ({ cls := "BubbleBox$Chip", name := "stepsTo", desc := "(I)I" } : MethodName) prog_2_method_2_code (2 : Nat) (Option.some FieldType.int)) ∈ tables_1 := List.mem_of_getElem? (i := 303) (by decide +kernel)
theorem kw_304 : (Cond.methodLink "BubbleBox" (96 : Nat) ({ cls := "BubbleBox", name := "newestImage", desc := "()I" } : MethodName)) ∈ tables_1 := List.mem_of_getElem? (i := 304) (by decide +kernel)
theorem kw_305 : (Cond.privateMethod ({ cls := "BubbleBox", name := "newestImage", desc := "()I" } : MethodName)) ∈ tables_1 := List.mem_of_getElem? (i := 305) (by decide +kernel)
theorem kw_306 : (Cond.instanceMethod ({ cls := "BubbleBox", name := "newestImage", desc := "()I" } : MethodName)) ∈ tables_1 := List.mem_of_getElem? (i := 306) (by decide +kernel)
theorem kw_307 : (Cond.code ({ cls := "BubbleBox", name := "newestImage", desc := "()I" } : MethodName) prog_1_method_36_code (4 : Nat) (Option.some FieldType.int)) ∈ tables_1 := List.mem_of_getElem? (i := 307) (by decide +kernel)
theorem kw_308 : (Cond.methodLinkNest "BubbleBox" (277 : Nat) ({ cls := "BubbleBox$Image", name := "isValid", desc := "()Z" } : MethodName) "BubbleBox") ∈ tables_1 := List.mem_of_getElem? (i := 308) (by decide +kernel)
theorem kw_309 : (Cond.privateMethod ({ cls := "BubbleBox$Image", name := "isValid", desc := "()Z" } : MethodName)) ∈ tables_1 := List.mem_of_getElem? (i := 309) (by decide +kernel)
theorem kw_310 : (Cond.instanceMethod ({ cls := "BubbleBox$Image", name := "isValid", desc := "()Z" } : MethodName)) ∈ tables_1 := List.mem_of_getElem? (i := 310) (by decide +kernel)
theorem kw_311 : (Cond.code ({ cls := "BubbleBox$Image", name := "isValid", desc := "()Z" } : MethodName) prog_5_method_7_code (1 : Nat) (Option.some FieldType.boolean)) ∈ tables_1 := List.mem_of_getElem? (i := 311) (by decide +kernel)
theorem kw_312 : (Cond.methodLink "BubbleBox$Image" (15 : Nat) ({ cls := "BubbleBox$Image", name := "number", desc := "(II)I" } : MethodName)) ∈ tables_1 := List.mem_of_getElem? (i := 312) (by decide +kernel)
theorem kw_313 : (Cond.privateMethod ({ cls := "BubbleBox$Image", name := "number", desc := "(II)I" } : MethodName)) ∈ tables_1 := List.mem_of_getElem? (i := 313) (by decide +kernel)
theorem kw_314 : (Cond.instanceMethod ({ cls := "BubbleBox$Image", name := "number", desc := "(II)I" } : MethodName)) ∈ tables_1 := List.mem_of_getElem? (i := 314) (by decide +kernel)
theorem kw_315 : (Cond.code ({ cls := "BubbleBox$Image", name := "number", desc := "(II)I" } : MethodName) prog_5_method_3_code (7 : Nat) (Option.some FieldType.int)) ∈ tables_1 := List.mem_of_getElem? (i := 315) (by decide +kernel)
theorem kw_316 : (Cond.methodLink "BubbleBox$Image" (19 : Nat) ({ cls := "BubbleBox$Image", name := "dueSum", desc := "()I" } : MethodName)) ∈ tables_1 := List.mem_of_getElem? (i := 316) (by decide +kernel)
theorem kw_317 : (Cond.privateMethod ({ cls := "BubbleBox$Image", name := "dueSum", desc := "()I" } : MethodName)) ∈ tables_1 := List.mem_of_getElem? (i := 317) (by decide +kernel)
theorem kw_318 : (Cond.instanceMethod ({ cls := "BubbleBox$Image", name := "dueSum", desc := "()I" } : MethodName)) ∈ tables_1 := List.mem_of_getElem? (i := 318) (by decide +kernel)
theorem kw_319 : (Cond.code ({ cls := "BubbleBox$Image", name := "dueSum", desc := "()I" } : MethodName) prog_5_method_6_code (3 : Nat) (Option.some FieldType.int)) ∈ tables_1 := List.mem_of_getElem? (i := 319) (by decide +kernel)
theorem kw_320 : (Cond.methodLinkNest "BubbleBox" (99 : Nat) ({ cls := "BubbleBox$Image", name := "number", desc := "(II)I" } : MethodName) "BubbleBox") ∈ tables_1 := List.mem_of_getElem? (i := 320) (by decide +kernel)
theorem kw_321 : (Cond.methodLinkNest "BubbleBox" (103 : Nat) ({ cls := "BubbleBox$Directory", name := "takeFrom", desc := "(LBubbleBox$Image;)V" } : MethodName) "BubbleBox") ∈ tables_1 := List.mem_of_getElem? (i := 321) (by decide +kernel)
theorem kw_322 : (Cond.privateMethod ({ cls := "BubbleBox$Directory", name := "takeFrom", desc := "(LBubbleBox$Image;)V" } : MethodName)) ∈ tables_1 := List.mem_of_getElem? (i := 322) (by decide +kernel)
theorem kw_323 : (Cond.instanceMethod ({ cls := "BubbleBox$Directory", name := "takeFrom", desc := "(LBubbleBox$Image;)V" } : MethodName)) ∈ tables_1 := List.mem_of_getElem? (i := 323) (by decide +kernel)
theorem kw_324 : (Cond.code ({ cls := "BubbleBox$Directory", name := "takeFrom", desc := "(LBubbleBox$Image;)V" } : MethodName) prog_3_method_15_code (5 : Nat) (Option.none : Option FieldType)) ∈ tables_1 := List.mem_of_getElem? (i := 324) (by decide +kernel)
theorem kw_325 : (Cond.methodLinkNest "BubbleBox$Directory" (81 : Nat) ({ cls := "BubbleBox$Image", name := "pageNumber", desc := "(I)I" } : MethodName) "BubbleBox") ∈ tables_1 := List.mem_of_getElem? (i := 325) (by decide +kernel)
theorem kw_326 : (Cond.privateMethod ({ cls := "BubbleBox$Image", name := "pageNumber", desc := "(I)I" } : MethodName)) ∈ tables_1 := List.mem_of_getElem? (i := 326) (by decide +kernel)
theorem kw_327 : (Cond.instanceMethod ({ cls := "BubbleBox$Image", name := "pageNumber", desc := "(I)I" } : MethodName)) ∈ tables_1 := List.mem_of_getElem? (i := 327) (by decide +kernel)
theorem kw_328 : (Cond.code ({ cls := "BubbleBox$Image", name := "pageNumber", desc := "(I)I" } : MethodName) prog_5_method_4_code (3 : Nat) (Option.some FieldType.int)) ∈ tables_1 := List.mem_of_getElem? (i := 328) (by decide +kernel)
theorem kw_329 : (Cond.methodLinkNest "BubbleBox$Directory" (84 : Nat) ({ cls := "BubbleBox$Image", name := "number", desc := "(II)I" } : MethodName) "BubbleBox") ∈ tables_1 := List.mem_of_getElem? (i := 329) (by decide +kernel)
theorem kw_330 : (Cond.methodLink "BubbleBox$Directory" (88 : Nat) ({ cls := "BubbleBox$Directory", name := "ownChain", desc := "(LBubbleBox$Entry;)V" } : MethodName)) ∈ tables_1 := List.mem_of_getElem? (i := 330) (by decide +kernel)
theorem kw_331 : (Cond.privateMethod ({ cls := "BubbleBox$Directory", name := "ownChain", desc := "(LBubbleBox$Entry;)V" } : MethodName)) ∈ tables_1 := List.mem_of_getElem? (i := 331) (by decide +kernel)
theorem kw_332 : (Cond.instanceMethod ({ cls := "BubbleBox$Directory", name := "ownChain", desc := "(LBubbleBox$Entry;)V" } : MethodName)) ∈ tables_1 := List.mem_of_getElem? (i := 332) (by decide +kernel)
theorem kw_333 : (Cond.code ({ cls := "BubbleBox$Directory", name := "ownChain", desc := "(LBubbleBox$Entry;)V" } : MethodName) prog_3_method_16_code (5 : Nat) (Option.none : Option FieldType)) ∈ tables_1 := List.mem_of_getElem? (i := 333) (by decide +kernel)
theorem kw_334 : (Cond.methodLinkNest "BubbleBox$Directory" (50 : Nat) ({ cls := "BubbleBox", name := "pagesFor", desc := "(I)I" } : MethodName) "BubbleBox") ∈ tables_1 := List.mem_of_getElem? (i := 334) (by decide +kernel)
theorem kw_335 : (Cond.static ({ cls := "BubbleBox", name := "pagesFor", desc := "(I)I" } : MethodName)) ∈ tables_1 := List.mem_of_getElem? (i := 335) (by decide +kernel)
theorem kw_336 : (Cond.code ({ cls := "BubbleBox", name := "pagesFor", desc := "(I)I" } : MethodName) prog_1_method_21_code (1 : Nat) (Option.some FieldType.int)) ∈ tables_1 := List.mem_of_getElem? (i := 336) (by decide +kernel)
theorem kw_337 : (Cond.methodLink "BubbleBox$Directory" (92 : Nat) ({ cls := "BubbleBox$Directory", name := "holdOwned", desc := "()V" } : MethodName)) ∈ tables_1 := List.mem_of_getElem? (i := 337) (by decide +kernel)
theorem kw_338 : (Cond.privateMethod ({ cls := "BubbleBox$Directory", name := "holdOwned", desc := "()V" } : MethodName)) ∈ tables_1 := List.mem_of_getElem? (i := 338) (by decide +kernel)
theorem kw_339 : (Cond.instanceMethod ({ cls := "BubbleBox$Directory", name := "holdOwned", desc := "()V" } : MethodName)) ∈ tables_1 := List.mem_of_getElem? (i := 339) (by decide +kernel)
theorem kw_340 : (Cond.code ({ cls := "BubbleBox$Directory", name := "holdOwned", desc := "()V" } : MethodName) prog_3_method_13_code (2 : Nat) (Option.none : Option FieldType)) ∈ tables_1 := List.mem_of_getElem? (i := 340) (by decide +kernel)
theorem kw_341 : (Cond.methodLink "BubbleBoxLaw" (73 : Nat) ({ cls := "BubbleBoxLaw", name := "stuck", desc := "(LBubbleBox;II)I" } : MethodName)) ∈ tables_1 := List.mem_of_getElem? (i := 341) (by decide +kernel)
theorem kw_342 : (Cond.static ({ cls := "BubbleBoxLaw", name := "stuck", desc := "(LBubbleBox;II)I" } : MethodName)) ∈ tables_1 := List.mem_of_getElem? (i := 342) (by decide +kernel)
theorem kw_343 : (Cond.codeWith ({ cls := "BubbleBoxLaw", name := "stuck", desc := "(LBubbleBox;II)I" } : MethodName) method_3_code (4 : Nat) (Option.some FieldType.int) [((0 : Nat), (6 : Nat), (9 : Nat), (13 : Nat)), ((0 : Nat), (6 : Nat), (12 : Nat), (15 : Nat))]) ∈ tables_1 := List.mem_of_getElem? (i := 343) (by decide +kernel)
theorem kw_344 : (Cond.classLink "BubbleBoxLaw" (13 : Nat) "java/lang/IllegalArgumentException") ∈ tables_1 := List.mem_of_getElem? (i := 344) (by decide +kernel)
theorem kw_345 : (Cond.classLink "BubbleBoxLaw" (15 : Nat) "java/lang/IllegalStateException") ∈ tables_1 := List.mem_of_getElem? (i := 345) (by decide +kernel)
theorem kw_346 : (Cond.methodLink "BubbleBoxLaw" (7 : Nat) ({ cls := "BubbleBox", name := "stuck", desc := "(II)V" } : MethodName)) ∈ tables_1 := List.mem_of_getElem? (i := 346) (by decide +kernel)
theorem kw_347 : (Cond.instanceMethod ({ cls := "BubbleBox", name := "stuck", desc := "(II)V" } : MethodName)) ∈ tables_1 := List.mem_of_getElem? (i := 347) (by decide +kernel)
theorem kw_348 : (Cond.selects "BubbleBox" ({ cls := "BubbleBox", name := "stuck", desc := "(II)V" } : MethodName) ({ cls := "BubbleBox", name := "stuck", desc := "(II)V" } : MethodName)) ∈ tables_1 := List.mem_of_getElem? (i := 348) (by decide +kernel)
theorem kw_349 : (Cond.code ({ cls := "BubbleBox", name := "stuck", desc := "(II)V" } : MethodName) prog_1_method_2_code (3 : Nat) (Option.none : Option FieldType)) ∈ tables_1 := List.mem_of_getElem? (i := 349) (by decide +kernel)
theorem kw_350 : (Cond.classLink "BubbleBox" (50 : Nat) "java/lang/IllegalArgumentException") ∈ tables_1 := List.mem_of_getElem? (i := 350) (by decide +kernel)
theorem kw_351 : (Cond.instantiable "java/lang/IllegalArgumentException" (6 : Nat)) ∈ tables_1 := List.mem_of_getElem? (i := 351) (by decide +kernel)
theorem kw_352 : (Cond.castable "java/lang/IllegalArgumentException" "java/lang/IllegalArgumentException") ∈ tables_1 := List.mem_of_getElem? (i := 352) (by decide +kernel)
theorem kw_353 : (Cond.selects "java/lang/IllegalArgumentException" ({ cls := "java/lang/Throwable", name := "fillInStackTrace", desc := "(I)Ljava/lang/Throwable;" } : MethodName) ({ cls := "java/lang/Throwable", name := "fillInStackTrace", desc := "(I)Ljava/lang/Throwable;" } : MethodName)) ∈ tables_1 := List.mem_of_getElem? (i := 353) (by decide +kernel)
theorem kw_354 : (Cond.lays "java/lang/IllegalArgumentException" "java/lang/Throwable" "cause" "Ljava/lang/Throwable;") ∈ tables_1 := List.mem_of_getElem? (i := 354) (by decide +kernel)
theorem kw_355 : (Cond.lays "java/lang/IllegalArgumentException" "java/lang/Throwable" "stackTrace" "[Ljava/lang/StackTraceElement;") ∈ tables_1 := List.mem_of_getElem? (i := 355) (by decide +kernel)
theorem kw_356 : (Cond.lays "java/lang/IllegalArgumentException" "java/lang/Throwable" "suppressedExceptions" "Ljava/util/List;") ∈ tables_1 := List.mem_of_getElem? (i := 356) (by decide +kernel)
theorem kw_357 : (Cond.lays "java/lang/IllegalArgumentException" "java/lang/Throwable" "detailMessage" "Ljava/lang/String;") ∈ tables_1 := List.mem_of_getElem? (i := 357) (by decide +kernel)
theorem kw_358 : (Cond.lays "java/lang/IllegalArgumentException" "java/lang/Throwable" "backtrace" "Ljava/lang/Object;") ∈ tables_1 := List.mem_of_getElem? (i := 358) (by decide +kernel)
theorem kw_359 : (Cond.stringRef "BubbleBox" (52 : Nat) "there is no such loop") ∈ tables_1 := List.mem_of_getElem? (i := 359) (by decide +kernel)
theorem kw_360 : (Cond.methodLink "BubbleBox" (54 : Nat) ({ cls := "java/lang/IllegalArgumentException", name := "<init>", desc := "(Ljava/lang/String;)V" } : MethodName)) ∈ tables_1 := List.mem_of_getElem? (i := 360) (by decide +kernel)
theorem kw_361 : (Cond.instanceMethod ({ cls := "java/lang/IllegalArgumentException", name := "<init>", desc := "(Ljava/lang/String;)V" } : MethodName)) ∈ tables_1 := List.mem_of_getElem? (i := 361) (by decide +kernel)
theorem kw_362 : (Cond.code ({ cls := "java/lang/IllegalArgumentException", name := "<init>", desc := "(Ljava/lang/String;)V" } : MethodName) prog_10_method_2_code (2 : Nat) (Option.none : Option FieldType)) ∈ tables_1 := List.mem_of_getElem? (i := 362) (by decide +kernel)
theorem kw_363 : (Cond.methodLink "java/lang/IllegalArgumentException" (7 : Nat) ({ cls := "java/lang/RuntimeException", name := "<init>", desc := "(Ljava/lang/String;)V" } : MethodName)) ∈ tables_1 := List.mem_of_getElem? (i := 363) (by decide +kernel)
theorem kw_364 : (Cond.lays "java/lang/IllegalArgumentException" "java/lang/Throwable" "depth" "I") ∈ tables_1 := List.mem_of_getElem? (i := 364) (by decide +kernel)
theorem kw_365 : (Cond.superclass "java/lang/IllegalArgumentException" "java/lang/RuntimeException") ∈ tables_1 := List.mem_of_getElem? (i := 365) (by decide +kernel)
theorem kw_366 : (Cond.stringRef "BubbleBox" (57 : Nat) "a loop is stuck at 0 or 1") ∈ tables_1 := List.mem_of_getElem? (i := 366) (by decide +kernel)
theorem kw_367 : (Cond.stringRef "BubbleBox" (65 : Nat) "there is a map") ∈ tables_1 := List.mem_of_getElem? (i := 367) (by decide +kernel)
theorem kw_368 : (Cond.methodLink "BubbleBoxLaw" (96 : Nat) ({ cls := "BubbleBoxLaw", name := "format", desc := "(LBubbleBox;[J)I" } : MethodName)) ∈ tables_1 := List.mem_of_getElem? (i := 368) (by decide +kernel)
theorem kw_369 : (Cond.static ({ cls := "BubbleBoxLaw", name := "format", desc := "(LBubbleBox;[J)I" } : MethodName)) ∈ tables_1 := List.mem_of_getElem? (i := 369) (by decide +kernel)
theorem kw_370 : (Cond.codeWith ({ cls := "BubbleBoxLaw", name := "format", desc := "(LBubbleBox;[J)I" } : MethodName) method_4_code (3 : Nat) (Option.some FieldType.int) [((0 : Nat), (15 : Nat), (18 : Nat), (15 : Nat))]) ∈ tables_1 := List.mem_of_getElem? (i := 370) (by decide +kernel)
theorem kw_371 : (Cond.methodLink "BubbleBoxLaw" (17 : Nat) ({ cls := "BubbleBox", name := "format", desc := "()Z" } : MethodName)) ∈ tables_1 := List.mem_of_getElem? (i := 371) (by decide +kernel)
theorem kw_372 : (Cond.instanceMethod ({ cls := "BubbleBox", name := "format", desc := "()Z" } : MethodName)) ∈ tables_1 := List.mem_of_getElem? (i := 372) (by decide +kernel)
theorem kw_373 : (Cond.selects "BubbleBox" ({ cls := "BubbleBox", name := "format", desc := "()Z" } : MethodName) ({ cls := "BubbleBox", name := "format", desc := "()Z" } : MethodName)) ∈ tables_1 := List.mem_of_getElem? (i := 373) (by decide +kernel)
theorem kw_374 : (Cond.code ({ cls := "BubbleBox", name := "format", desc := "()Z" } : MethodName) prog_1_method_6_code (1 : Nat) (Option.some FieldType.boolean)) ∈ tables_1 := List.mem_of_getElem? (i := 374) (by decide +kernel)
theorem kw_375 : (Cond.stringRef "BubbleBox" (76 : Nat) "the box is off") ∈ tables_1 := List.mem_of_getElem? (i := 375) (by decide +kernel)
theorem kw_376 : (Cond.methodLinkNest "BubbleBox" (78 : Nat) ({ cls := "BubbleBox$Chip", name := "goodLoops", desc := "()I" } : MethodName) "BubbleBox") ∈ tables_1 := List.mem_of_getElem? (i := 376) (by decide +kernel)
theorem kw_377 : (Cond.privateMethod ({ cls := "BubbleBox$Chip", name := "goodLoops", desc := "()I" } : MethodName)) ∈ tables_1 := List.mem_of_getElem? (i := 377) (by decide +kernel)
theorem kw_378 : (Cond.instanceMethod ({ cls := "BubbleBox$Chip", name := "goodLoops", desc := "()I" } : MethodName)) ∈ tables_1 := List.mem_of_getElem? (i := 378) (by decide +kernel)
theorem kw_379 : (Cond.code ({ cls := "BubbleBox$Chip", name := "goodLoops", desc := "()I" } : MethodName) prog_2_method_4_code (3 : Nat) (Option.some FieldType.int)) ∈ tables_1 := List.mem_of_getElem? (i := 379) (by decide +kernel)
theorem kw_380 : (Cond.constantLong "BubbleBox" (82 : Nat) (202 : Int64)) ∈ tables_1 := List.mem_of_getElem? (i := 380) (by decide +kernel)
theorem kw_381 : (Cond.methodLinkNest "BubbleBox" (84 : Nat) ({ cls := "BubbleBox$Chip", name := "clearPages", desc := "()V" } : MethodName) "BubbleBox") ∈ tables_1 := List.mem_of_getElem? (i := 381) (by decide +kernel)
theorem kw_382 : (Cond.privateMethod ({ cls := "BubbleBox$Chip", name := "clearPages", desc := "()V" } : MethodName)) ∈ tables_1 := List.mem_of_getElem? (i := 382) (by decide +kernel)
theorem kw_383 : (Cond.instanceMethod ({ cls := "BubbleBox$Chip", name := "clearPages", desc := "()V" } : MethodName)) ∈ tables_1 := List.mem_of_getElem? (i := 383) (by decide +kernel)
theorem kw_384 : (Cond.code ({ cls := "BubbleBox$Chip", name := "clearPages", desc := "()V" } : MethodName) prog_2_method_5_code (2 : Nat) (Option.none : Option FieldType)) ∈ tables_1 := List.mem_of_getElem? (i := 384) (by decide +kernel)
theorem kw_385 : (Cond.methodLink "BubbleBox" (90 : Nat) ({ cls := "BubbleBox", name := "writeAll", desc := "()I" } : MethodName)) ∈ tables_1 := List.mem_of_getElem? (i := 385) (by decide +kernel)
theorem kw_386 : (Cond.privateMethod ({ cls := "BubbleBox", name := "writeAll", desc := "()I" } : MethodName)) ∈ tables_1 := List.mem_of_getElem? (i := 386) (by decide +kernel)
theorem kw_387 : (Cond.instanceMethod ({ cls := "BubbleBox", name := "writeAll", desc := "()I" } : MethodName)) ∈ tables_1 := List.mem_of_getElem? (i := 387) (by decide +kernel)
theorem kw_388 : (Cond.code ({ cls := "BubbleBox", name := "writeAll", desc := "()I" } : MethodName) prog_1_method_33_code (4 : Nat) (Option.some FieldType.int)) ∈ tables_1 := List.mem_of_getElem? (i := 388) (by decide +kernel)
theorem kw_389 : (Cond.methodLink "BubbleBox" (239 : Nat) ({ cls := "BubbleBox", name := "save", desc := "(LBubbleBox$Entry;)V" } : MethodName)) ∈ tables_1 := List.mem_of_getElem? (i := 389) (by decide +kernel)
theorem kw_390 : (Cond.privateMethod ({ cls := "BubbleBox", name := "save", desc := "(LBubbleBox$Entry;)V" } : MethodName)) ∈ tables_1 := List.mem_of_getElem? (i := 390) (by decide +kernel)
theorem kw_391 : (Cond.instanceMethod ({ cls := "BubbleBox", name := "save", desc := "(LBubbleBox$Entry;)V" } : MethodName)) ∈ tables_1 := List.mem_of_getElem? (i := 391) (by decide +kernel)
theorem kw_392 : (Cond.code ({ cls := "BubbleBox", name := "save", desc := "(LBubbleBox$Entry;)V" } : MethodName) prog_1_method_28_code (2 : Nat) (Option.none : Option FieldType)) ∈ tables_1 := List.mem_of_getElem? (i := 392) (by decide +kernel)
theorem kw_393 : (Cond.methodLink "BubbleBox" (235 : Nat) ({ cls := "BubbleBox", name := "writePage", desc := "(IJ)V" } : MethodName)) ∈ tables_1 := List.mem_of_getElem? (i := 393) (by decide +kernel)
theorem kw_394 : (Cond.privateMethod ({ cls := "BubbleBox", name := "writePage", desc := "(IJ)V" } : MethodName)) ∈ tables_1 := List.mem_of_getElem? (i := 394) (by decide +kernel)
theorem kw_395 : (Cond.instanceMethod ({ cls := "BubbleBox", name := "writePage", desc := "(IJ)V" } : MethodName)) ∈ tables_1 := List.mem_of_getElem? (i := 395) (by decide +kernel)
theorem kw_396 : (Cond.code ({ cls := "BubbleBox", name := "writePage", desc := "(IJ)V" } : MethodName) prog_1_method_27_code (4 : Nat) (Option.none : Option FieldType)) ∈ tables_1 := List.mem_of_getElem? (i := 396) (by decide +kernel)
theorem kw_397 : (Cond.methodLink "BubbleBox" (266 : Nat) ({ cls := "BubbleBox", name := "writeOtherImage", desc := "()V" } : MethodName)) ∈ tables_1 := List.mem_of_getElem? (i := 397) (by decide +kernel)
theorem kw_398 : (Cond.privateMethod ({ cls := "BubbleBox", name := "writeOtherImage", desc := "()V" } : MethodName)) ∈ tables_1 := List.mem_of_getElem? (i := 398) (by decide +kernel)
theorem kw_399 : (Cond.instanceMethod ({ cls := "BubbleBox", name := "writeOtherImage", desc := "()V" } : MethodName)) ∈ tables_1 := List.mem_of_getElem? (i := 399) (by decide +kernel)
theorem kw_400 : (Cond.code ({ cls := "BubbleBox", name := "writeOtherImage", desc := "()V" } : MethodName) prog_1_method_34_code (6 : Nat) (Option.none : Option FieldType)) ∈ tables_1 := List.mem_of_getElem? (i := 400) (by decide +kernel)
theorem kw_401 : (Cond.methodLinkNest "BubbleBox" (272 : Nat) ({ cls := "BubbleBox$Directory", name := "putInto", desc := "(LBubbleBox$Image;I)V" } : MethodName) "BubbleBox") ∈ tables_1 := List.mem_of_getElem? (i := 401) (by decide +kernel)
theorem kw_402 : (Cond.privateMethod ({ cls := "BubbleBox$Directory", name := "putInto", desc := "(LBubbleBox$Image;I)V" } : MethodName)) ∈ tables_1 := List.mem_of_getElem? (i := 402) (by decide +kernel)
theorem kw_403 : (Cond.instanceMethod ({ cls := "BubbleBox$Directory", name := "putInto", desc := "(LBubbleBox$Image;I)V" } : MethodName)) ∈ tables_1 := List.mem_of_getElem? (i := 403) (by decide +kernel)
theorem kw_404 : (Cond.code ({ cls := "BubbleBox$Directory", name := "putInto", desc := "(LBubbleBox$Image;I)V" } : MethodName) prog_3_method_14_code (6 : Nat) (Option.none : Option FieldType)) ∈ tables_1 := List.mem_of_getElem? (i := 404) (by decide +kernel)
theorem kw_405 : (Cond.methodLinkNest "BubbleBox$Directory" (68 : Nat) ({ cls := "BubbleBox$Image", name := "clear", desc := "()V" } : MethodName) "BubbleBox") ∈ tables_1 := List.mem_of_getElem? (i := 405) (by decide +kernel)
theorem kw_406 : (Cond.privateMethod ({ cls := "BubbleBox$Image", name := "clear", desc := "()V" } : MethodName)) ∈ tables_1 := List.mem_of_getElem? (i := 406) (by decide +kernel)
theorem kw_407 : (Cond.instanceMethod ({ cls := "BubbleBox$Image", name := "clear", desc := "()V" } : MethodName)) ∈ tables_1 := List.mem_of_getElem? (i := 407) (by decide +kernel)
theorem kw_408 : (Cond.code ({ cls := "BubbleBox$Image", name := "clear", desc := "()V" } : MethodName) prog_5_method_2_code (2 : Nat) (Option.none : Option FieldType)) ∈ tables_1 := List.mem_of_getElem? (i := 408) (by decide +kernel)
theorem kw_409 : (Cond.methodLinkNest "BubbleBox$Directory" (73 : Nat) ({ cls := "BubbleBox$Image", name := "putNumber", desc := "(III)V" } : MethodName) "BubbleBox") ∈ tables_1 := List.mem_of_getElem? (i := 409) (by decide +kernel)
theorem kw_410 : (Cond.privateMethod ({ cls := "BubbleBox$Image", name := "putNumber", desc := "(III)V" } : MethodName)) ∈ tables_1 := List.mem_of_getElem? (i := 410) (by decide +kernel)
theorem kw_411 : (Cond.instanceMethod ({ cls := "BubbleBox$Image", name := "putNumber", desc := "(III)V" } : MethodName)) ∈ tables_1 := List.mem_of_getElem? (i := 411) (by decide +kernel)
theorem kw_412 : (Cond.code ({ cls := "BubbleBox$Image", name := "putNumber", desc := "(III)V" } : MethodName) prog_5_method_5_code (8 : Nat) (Option.none : Option FieldType)) ∈ tables_1 := List.mem_of_getElem? (i := 412) (by decide +kernel)
theorem kw_413 : (Cond.methodLinkNest "BubbleBox$Directory" (77 : Nat) ({ cls := "BubbleBox$Image", name := "dueSum", desc := "()I" } : MethodName) "BubbleBox") ∈ tables_1 := List.mem_of_getElem? (i := 413) (by decide +kernel)
theorem kw_414 : (Cond.methodLinkNest "BubbleBox" (269 : Nat) ({ cls := "BubbleBox$Directory", name := "holdOwned", desc := "()V" } : MethodName) "BubbleBox") ∈ tables_1 := List.mem_of_getElem? (i := 414) (by decide +kernel)
theorem kw_415 : (Cond.methodLink "BubbleBoxLaw" (104 : Nat) ({ cls := "BubbleBoxLaw", name := "create", desc := "(LBubbleBox;I[J)I" } : MethodName)) ∈ tables_1 := List.mem_of_getElem? (i := 415) (by decide +kernel)
theorem kw_416 : (Cond.static ({ cls := "BubbleBoxLaw", name := "create", desc := "(LBubbleBox;I[J)I" } : MethodName)) ∈ tables_1 := List.mem_of_getElem? (i := 416) (by decide +kernel)
theorem kw_417 : (Cond.codeWith ({ cls := "BubbleBoxLaw", name := "create", desc := "(LBubbleBox;I[J)I" } : MethodName) method_5_code (4 : Nat) (Option.some FieldType.int) [((0 : Nat), (9 : Nat), (12 : Nat), (15 : Nat)), ((0 : Nat), (9 : Nat), (15 : Nat), (13 : Nat)), ((0 : Nat), (9 : Nat), (18 : Nat), (25 : Nat))]) ∈ tables_1 := List.mem_of_getElem? (i := 417) (by decide +kernel)
theorem kw_418 : (Cond.classLink "BubbleBoxLaw" (25 : Nat) "java/lang/UnsupportedOperationException") ∈ tables_1 := List.mem_of_getElem? (i := 418) (by decide +kernel)
theorem kw_419 : (Cond.methodLink "BubbleBoxLaw" (21 : Nat) ({ cls := "BubbleBox", name := "create", desc := "(I)I" } : MethodName)) ∈ tables_1 := List.mem_of_getElem? (i := 419) (by decide +kernel)
theorem kw_420 : (Cond.instanceMethod ({ cls := "BubbleBox", name := "create", desc := "(I)I" } : MethodName)) ∈ tables_1 := List.mem_of_getElem? (i := 420) (by decide +kernel)
theorem kw_421 : (Cond.selects "BubbleBox" ({ cls := "BubbleBox", name := "create", desc := "(I)I" } : MethodName) ({ cls := "BubbleBox", name := "create", desc := "(I)I" } : MethodName)) ∈ tables_1 := List.mem_of_getElem? (i := 421) (by decide +kernel)
theorem kw_422 : (Cond.code ({ cls := "BubbleBox", name := "create", desc := "(I)I" } : MethodName) prog_1_method_8_code (3 : Nat) (Option.some FieldType.int)) ∈ tables_1 := List.mem_of_getElem? (i := 422) (by decide +kernel)
theorem kw_423 : (Cond.methodLink "BubbleBox" (107 : Nat) ({ cls := "BubbleBox", name := "needMounted", desc := "()V" } : MethodName)) ∈ tables_1 := List.mem_of_getElem? (i := 423) (by decide +kernel)
theorem kw_424 : (Cond.privateMethod ({ cls := "BubbleBox", name := "needMounted", desc := "()V" } : MethodName)) ∈ tables_1 := List.mem_of_getElem? (i := 424) (by decide +kernel)
theorem kw_425 : (Cond.instanceMethod ({ cls := "BubbleBox", name := "needMounted", desc := "()V" } : MethodName)) ∈ tables_1 := List.mem_of_getElem? (i := 425) (by decide +kernel)
theorem kw_426 : (Cond.code ({ cls := "BubbleBox", name := "needMounted", desc := "()V" } : MethodName) prog_1_method_22_code (1 : Nat) (Option.none : Option FieldType)) ∈ tables_1 := List.mem_of_getElem? (i := 426) (by decide +kernel)
theorem kw_427 : (Cond.stringRef "BubbleBox" (209 : Nat) "the box is not mounted") ∈ tables_1 := List.mem_of_getElem? (i := 427) (by decide +kernel)
theorem kw_428 : (Cond.methodLinkNest "BubbleBox" (110 : Nat) ({ cls := "BubbleBox$Directory", name := "numberOf", desc := "(I)I" } : MethodName) "BubbleBox") ∈ tables_1 := List.mem_of_getElem? (i := 428) (by decide +kernel)
theorem kw_429 : (Cond.privateMethod ({ cls := "BubbleBox$Directory", name := "numberOf", desc := "(I)I" } : MethodName)) ∈ tables_1 := List.mem_of_getElem? (i := 429) (by decide +kernel)
theorem kw_430 : (Cond.instanceMethod ({ cls := "BubbleBox$Directory", name := "numberOf", desc := "(I)I" } : MethodName)) ∈ tables_1 := List.mem_of_getElem? (i := 430) (by decide +kernel)
theorem kw_431 : (Cond.code ({ cls := "BubbleBox$Directory", name := "numberOf", desc := "(I)I" } : MethodName) prog_3_method_3_code (3 : Nat) (Option.some FieldType.int)) ∈ tables_1 := List.mem_of_getElem? (i := 431) (by decide +kernel)
theorem kw_432 : (Cond.stringRef "BubbleBox" (114 : Nat) "the name is 0 or a file's") ∈ tables_1 := List.mem_of_getElem? (i := 432) (by decide +kernel)
theorem kw_433 : (Cond.classLink "BubbleBox" (116 : Nat) "java/lang/UnsupportedOperationException") ∈ tables_1 := List.mem_of_getElem? (i := 433) (by decide +kernel)
theorem kw_434 : (Cond.instantiable "java/lang/UnsupportedOperationException" (6 : Nat)) ∈ tables_1 := List.mem_of_getElem? (i := 434) (by decide +kernel)
theorem kw_435 : (Cond.castable "java/lang/UnsupportedOperationException" "java/lang/UnsupportedOperationException") ∈ tables_1 := List.mem_of_getElem? (i := 435) (by decide +kernel)
theorem kw_436 : (Cond.selects "java/lang/UnsupportedOperationException" ({ cls := "java/lang/Throwable", name := "fillInStackTrace", desc := "(I)Ljava/lang/Throwable;" } : MethodName) ({ cls := "java/lang/Throwable", name := "fillInStackTrace", desc := "(I)Ljava/lang/Throwable;" } : MethodName)) ∈ tables_1 := List.mem_of_getElem? (i := 436) (by decide +kernel)
theorem kw_437 : (Cond.lays "java/lang/UnsupportedOperationException" "java/lang/Throwable" "cause" "Ljava/lang/Throwable;") ∈ tables_1 := List.mem_of_getElem? (i := 437) (by decide +kernel)
theorem kw_438 : (Cond.lays "java/lang/UnsupportedOperationException" "java/lang/Throwable" "stackTrace" "[Ljava/lang/StackTraceElement;") ∈ tables_1 := List.mem_of_getElem? (i := 438) (by decide +kernel)
theorem kw_439 : (Cond.lays "java/lang/UnsupportedOperationException" "java/lang/Throwable" "suppressedExceptions" "Ljava/util/List;") ∈ tables_1 := List.mem_of_getElem? (i := 439) (by decide +kernel)
theorem kw_440 : (Cond.lays "java/lang/UnsupportedOperationException" "java/lang/Throwable" "detailMessage" "Ljava/lang/String;") ∈ tables_1 := List.mem_of_getElem? (i := 440) (by decide +kernel)
theorem kw_441 : (Cond.lays "java/lang/UnsupportedOperationException" "java/lang/Throwable" "backtrace" "Ljava/lang/Object;") ∈ tables_1 := List.mem_of_getElem? (i := 441) (by decide +kernel)
theorem kw_442 : (Cond.stringRef "BubbleBox" (118 : Nat) "there are 8 files") ∈ tables_1 := List.mem_of_getElem? (i := 442) (by decide +kernel)
theorem kw_443 : (Cond.methodLink "BubbleBox" (120 : Nat) ({ cls := "java/lang/UnsupportedOperationException", name := "<init>", desc := "(Ljava/lang/String;)V" } : MethodName)) ∈ tables_1 := List.mem_of_getElem? (i := 443) (by decide +kernel)
theorem kw_444 : (Cond.instanceMethod ({ cls := "java/lang/UnsupportedOperationException", name := "<init>", desc := "(Ljava/lang/String;)V" } : MethodName)) ∈ tables_1 := List.mem_of_getElem? (i := 444) (by decide +kernel)
theorem kw_445 : (Cond.code ({ cls := "java/lang/UnsupportedOperationException", name := "<init>", desc := "(Ljava/lang/String;)V" } : MethodName) prog_16_method_2_code (2 : Nat) (Option.none : Option FieldType)) ∈ tables_1 := List.mem_of_getElem? (i := 445) (by decide +kernel)
theorem kw_446 : (Cond.methodLink "java/lang/UnsupportedOperationException" (7 : Nat) ({ cls := "java/lang/RuntimeException", name := "<init>", desc := "(Ljava/lang/String;)V" } : MethodName)) ∈ tables_1 := List.mem_of_getElem? (i := 446) (by decide +kernel)
theorem kw_447 : (Cond.lays "java/lang/UnsupportedOperationException" "java/lang/Throwable" "depth" "I") ∈ tables_1 := List.mem_of_getElem? (i := 447) (by decide +kernel)
theorem kw_448 : (Cond.superclass "java/lang/UnsupportedOperationException" "java/lang/RuntimeException") ∈ tables_1 := List.mem_of_getElem? (i := 448) (by decide +kernel)
theorem kw_449 : (Cond.methodLink "BubbleBoxLaw" (108 : Nat) ({ cls := "BubbleBoxLaw", name := "find", desc := "(LBubbleBox;I[J)I" } : MethodName)) ∈ tables_1 := List.mem_of_getElem? (i := 449) (by decide +kernel)
theorem kw_450 : (Cond.static ({ cls := "BubbleBoxLaw", name := "find", desc := "(LBubbleBox;I[J)I" } : MethodName)) ∈ tables_1 := List.mem_of_getElem? (i := 450) (by decide +kernel)
theorem kw_451 : (Cond.codeWith ({ cls := "BubbleBoxLaw", name := "find", desc := "(LBubbleBox;I[J)I" } : MethodName) method_6_code (4 : Nat) (Option.some FieldType.int) [((0 : Nat), (9 : Nat), (12 : Nat), (15 : Nat))]) ∈ tables_1 := List.mem_of_getElem? (i := 451) (by decide +kernel)
theorem kw_452 : (Cond.methodLink "BubbleBoxLaw" (27 : Nat) ({ cls := "BubbleBox", name := "find", desc := "(I)I" } : MethodName)) ∈ tables_1 := List.mem_of_getElem? (i := 452) (by decide +kernel)
theorem kw_453 : (Cond.instanceMethod ({ cls := "BubbleBox", name := "find", desc := "(I)I" } : MethodName)) ∈ tables_1 := List.mem_of_getElem? (i := 453) (by decide +kernel)
theorem kw_454 : (Cond.selects "BubbleBox" ({ cls := "BubbleBox", name := "find", desc := "(I)I" } : MethodName) ({ cls := "BubbleBox", name := "find", desc := "(I)I" } : MethodName)) ∈ tables_1 := List.mem_of_getElem? (i := 454) (by decide +kernel)
theorem kw_455 : (Cond.code ({ cls := "BubbleBox", name := "find", desc := "(I)I" } : MethodName) prog_1_method_9_code (2 : Nat) (Option.some FieldType.int)) ∈ tables_1 := List.mem_of_getElem? (i := 455) (by decide +kernel)
theorem kw_456 : (Cond.methodLink "BubbleBoxLaw" (111 : Nat) ({ cls := "BubbleBoxLaw", name := "length", desc := "(LBubbleBox;I[J)I" } : MethodName)) ∈ tables_1 := List.mem_of_getElem? (i := 456) (by decide +kernel)
theorem kw_457 : (Cond.static ({ cls := "BubbleBoxLaw", name := "length", desc := "(LBubbleBox;I[J)I" } : MethodName)) ∈ tables_1 := List.mem_of_getElem? (i := 457) (by decide +kernel)
theorem kw_458 : (Cond.codeWith ({ cls := "BubbleBoxLaw", name := "length", desc := "(LBubbleBox;I[J)I" } : MethodName) method_7_code (4 : Nat) (Option.some FieldType.int) [((0 : Nat), (9 : Nat), (12 : Nat), (15 : Nat)), ((0 : Nat), (9 : Nat), (15 : Nat), (13 : Nat))]) ∈ tables_1 := List.mem_of_getElem? (i := 458) (by decide +kernel)
theorem kw_459 : (Cond.methodLink "BubbleBoxLaw" (30 : Nat) ({ cls := "BubbleBox", name := "length", desc := "(I)I" } : MethodName)) ∈ tables_1 := List.mem_of_getElem? (i := 459) (by decide +kernel)
theorem kw_460 : (Cond.instanceMethod ({ cls := "BubbleBox", name := "length", desc := "(I)I" } : MethodName)) ∈ tables_1 := List.mem_of_getElem? (i := 460) (by decide +kernel)
theorem kw_461 : (Cond.selects "BubbleBox" ({ cls := "BubbleBox", name := "length", desc := "(I)I" } : MethodName) ({ cls := "BubbleBox", name := "length", desc := "(I)I" } : MethodName)) ∈ tables_1 := List.mem_of_getElem? (i := 461) (by decide +kernel)
theorem kw_462 : (Cond.code ({ cls := "BubbleBox", name := "length", desc := "(I)I" } : MethodName) prog_1_method_10_code (2 : Nat) (Option.some FieldType.int)) ∈ tables_1 := List.mem_of_getElem? (i := 462) (by decide +kernel)
theorem kw_463 : (Cond.methodLink "BubbleBox" (130 : Nat) ({ cls := "BubbleBox", name := "entryOf", desc := "(I)LBubbleBox$Entry;" } : MethodName)) ∈ tables_1 := List.mem_of_getElem? (i := 463) (by decide +kernel)
theorem kw_464 : (Cond.privateMethod ({ cls := "BubbleBox", name := "entryOf", desc := "(I)LBubbleBox$Entry;" } : MethodName)) ∈ tables_1 := List.mem_of_getElem? (i := 464) (by decide +kernel)
theorem kw_465 : (Cond.instanceMethod ({ cls := "BubbleBox", name := "entryOf", desc := "(I)LBubbleBox$Entry;" } : MethodName)) ∈ tables_1 := List.mem_of_getElem? (i := 465) (by decide +kernel)
theorem kw_466 : (Cond.code ({ cls := "BubbleBox", name := "entryOf", desc := "(I)LBubbleBox$Entry;" } : MethodName) prog_1_method_23_code (2 : Nat) (Option.some (FieldType.object "BubbleBox$Entry"))) ∈ tables_1 := List.mem_of_getElem? (i := 466) (by decide +kernel)
theorem kw_467 : (Cond.stringRef "BubbleBox" (211 : Nat) "there is no such file") ∈ tables_1 := List.mem_of_getElem? (i := 467) (by decide +kernel)
theorem kw_468 : (Cond.methodLink "BubbleBoxLaw" (114 : Nat) ({ cls := "BubbleBoxLaw", name := "append", desc := "(LBubbleBox;II[J)I" } : MethodName)) ∈ tables_1 := List.mem_of_getElem? (i := 468) (by decide +kernel)
theorem kw_469 : (Cond.static ({ cls := "BubbleBoxLaw", name := "append", desc := "(LBubbleBox;II[J)I" } : MethodName)) ∈ tables_1 := List.mem_of_getElem? (i := 469) (by decide +kernel)
theorem kw_470 : (Cond.codeWith ({ cls := "BubbleBoxLaw", name := "append", desc := "(LBubbleBox;II[J)I" } : MethodName) method_8_code (5 : Nat) (Option.some FieldType.int) [((0 : Nat), (10 : Nat), (13 : Nat), (15 : Nat)), ((0 : Nat), (10 : Nat), (17 : Nat), (13 : Nat)), ((0 : Nat), (10 : Nat), (21 : Nat), (25 : Nat))]) ∈ tables_1 := List.mem_of_getElem? (i := 470) (by decide +kernel)
theorem kw_471 : (Cond.methodLink "BubbleBoxLaw" (33 : Nat) ({ cls := "BubbleBox", name := "append", desc := "(II)I" } : MethodName)) ∈ tables_1 := List.mem_of_getElem? (i := 471) (by decide +kernel)
theorem kw_472 : (Cond.instanceMethod ({ cls := "BubbleBox", name := "append", desc := "(II)I" } : MethodName)) ∈ tables_1 := List.mem_of_getElem? (i := 472) (by decide +kernel)
theorem kw_473 : (Cond.selects "BubbleBox" ({ cls := "BubbleBox", name := "append", desc := "(II)I" } : MethodName) ({ cls := "BubbleBox", name := "append", desc := "(II)I" } : MethodName)) ∈ tables_1 := List.mem_of_getElem? (i := 473) (by decide +kernel)
theorem kw_474 : (Cond.code ({ cls := "BubbleBox", name := "append", desc := "(II)I" } : MethodName) prog_1_method_11_code (5 : Nat) (Option.some FieldType.int)) ∈ tables_1 := List.mem_of_getElem? (i := 474) (by decide +kernel)
theorem kw_475 : (Cond.methodLink "BubbleBox" (137 : Nat) ({ cls := "BubbleBox", name := "openNewPage", desc := "(LBubbleBox$Entry;)V" } : MethodName)) ∈ tables_1 := List.mem_of_getElem? (i := 475) (by decide +kernel)
theorem kw_476 : (Cond.privateMethod ({ cls := "BubbleBox", name := "openNewPage", desc := "(LBubbleBox$Entry;)V" } : MethodName)) ∈ tables_1 := List.mem_of_getElem? (i := 476) (by decide +kernel)
theorem kw_477 : (Cond.instanceMethod ({ cls := "BubbleBox", name := "openNewPage", desc := "(LBubbleBox$Entry;)V" } : MethodName)) ∈ tables_1 := List.mem_of_getElem? (i := 477) (by decide +kernel)
theorem kw_478 : (Cond.code ({ cls := "BubbleBox", name := "openNewPage", desc := "(LBubbleBox$Entry;)V" } : MethodName) prog_1_method_30_code (3 : Nat) (Option.none : Option FieldType)) ∈ tables_1 := List.mem_of_getElem? (i := 478) (by decide +kernel)
theorem kw_479 : (Cond.methodLink "BubbleBox" (249 : Nat) ({ cls := "BubbleBox", name := "neededFreePage", desc := "()I" } : MethodName)) ∈ tables_1 := List.mem_of_getElem? (i := 479) (by decide +kernel)
theorem kw_480 : (Cond.privateMethod ({ cls := "BubbleBox", name := "neededFreePage", desc := "()I" } : MethodName)) ∈ tables_1 := List.mem_of_getElem? (i := 480) (by decide +kernel)
theorem kw_481 : (Cond.instanceMethod ({ cls := "BubbleBox", name := "neededFreePage", desc := "()I" } : MethodName)) ∈ tables_1 := List.mem_of_getElem? (i := 481) (by decide +kernel)
theorem kw_482 : (Cond.code ({ cls := "BubbleBox", name := "neededFreePage", desc := "()I" } : MethodName) prog_1_method_32_code (2 : Nat) (Option.some FieldType.int)) ∈ tables_1 := List.mem_of_getElem? (i := 482) (by decide +kernel)
theorem kw_483 : (Cond.methodLinkNest "BubbleBox" (261 : Nat) ({ cls := "BubbleBox$Directory", name := "leastFree", desc := "()I" } : MethodName) "BubbleBox") ∈ tables_1 := List.mem_of_getElem? (i := 483) (by decide +kernel)
theorem kw_484 : (Cond.privateMethod ({ cls := "BubbleBox$Directory", name := "leastFree", desc := "()I" } : MethodName)) ∈ tables_1 := List.mem_of_getElem? (i := 484) (by decide +kernel)
theorem kw_485 : (Cond.instanceMethod ({ cls := "BubbleBox$Directory", name := "leastFree", desc := "()I" } : MethodName)) ∈ tables_1 := List.mem_of_getElem? (i := 485) (by decide +kernel)
theorem kw_486 : (Cond.code ({ cls := "BubbleBox$Directory", name := "leastFree", desc := "()I" } : MethodName) prog_3_method_5_code (2 : Nat) (Option.some FieldType.int)) ∈ tables_1 := List.mem_of_getElem? (i := 486) (by decide +kernel)
theorem kw_487 : (Cond.methodLink "BubbleBox$Directory" (36 : Nat) ({ cls := "BubbleBox$Directory", name := "isFree", desc := "(I)Z" } : MethodName)) ∈ tables_1 := List.mem_of_getElem? (i := 487) (by decide +kernel)
theorem kw_488 : (Cond.privateMethod ({ cls := "BubbleBox$Directory", name := "isFree", desc := "(I)Z" } : MethodName)) ∈ tables_1 := List.mem_of_getElem? (i := 488) (by decide +kernel)
theorem kw_489 : (Cond.instanceMethod ({ cls := "BubbleBox$Directory", name := "isFree", desc := "(I)Z" } : MethodName)) ∈ tables_1 := List.mem_of_getElem? (i := 489) (by decide +kernel)
theorem kw_490 : (Cond.code ({ cls := "BubbleBox$Directory", name := "isFree", desc := "(I)Z" } : MethodName) prog_3_method_4_code (2 : Nat) (Option.some FieldType.boolean)) ∈ tables_1 := List.mem_of_getElem? (i := 490) (by decide +kernel)
theorem kw_491 : (Cond.stringRef "BubbleBox" (264 : Nat) "no page is free") ∈ tables_1 := List.mem_of_getElem? (i := 491) (by decide +kernel)
theorem kw_492 : (Cond.methodLinkNest "BubbleBox" (252 : Nat) ({ cls := "BubbleBox$Directory", name := "addPage", desc := "(LBubbleBox$Entry;I)V" } : MethodName) "BubbleBox") ∈ tables_1 := List.mem_of_getElem? (i := 492) (by decide +kernel)
theorem kw_493 : (Cond.privateMethod ({ cls := "BubbleBox$Directory", name := "addPage", desc := "(LBubbleBox$Entry;I)V" } : MethodName)) ∈ tables_1 := List.mem_of_getElem? (i := 493) (by decide +kernel)
theorem kw_494 : (Cond.instanceMethod ({ cls := "BubbleBox$Directory", name := "addPage", desc := "(LBubbleBox$Entry;I)V" } : MethodName)) ∈ tables_1 := List.mem_of_getElem? (i := 494) (by decide +kernel)
theorem kw_495 : (Cond.code ({ cls := "BubbleBox$Directory", name := "addPage", desc := "(LBubbleBox$Entry;I)V" } : MethodName) prog_3_method_9_code (3 : Nat) (Option.none : Option FieldType)) ∈ tables_1 := List.mem_of_getElem? (i := 495) (by decide +kernel)
theorem kw_496 : (Cond.methodLink "BubbleBox$Directory" (54 : Nat) ({ cls := "BubbleBox$Directory", name := "putPageAt", desc := "(LBubbleBox$Entry;II)V" } : MethodName)) ∈ tables_1 := List.mem_of_getElem? (i := 496) (by decide +kernel)
theorem kw_497 : (Cond.privateMethod ({ cls := "BubbleBox$Directory", name := "putPageAt", desc := "(LBubbleBox$Entry;II)V" } : MethodName)) ∈ tables_1 := List.mem_of_getElem? (i := 497) (by decide +kernel)
theorem kw_498 : (Cond.instanceMethod ({ cls := "BubbleBox$Directory", name := "putPageAt", desc := "(LBubbleBox$Entry;II)V" } : MethodName)) ∈ tables_1 := List.mem_of_getElem? (i := 498) (by decide +kernel)
theorem kw_499 : (Cond.code ({ cls := "BubbleBox$Directory", name := "putPageAt", desc := "(LBubbleBox$Entry;II)V" } : MethodName) prog_3_method_8_code (4 : Nat) (Option.none : Option FieldType)) ∈ tables_1 := List.mem_of_getElem? (i := 499) (by decide +kernel)
theorem kw_500 : (Cond.methodLink "BubbleBox$Directory" (43 : Nat) ({ cls := "BubbleBox$Directory", name := "pageAt", desc := "(LBubbleBox$Entry;I)I" } : MethodName)) ∈ tables_1 := List.mem_of_getElem? (i := 500) (by decide +kernel)
theorem kw_501 : (Cond.privateMethod ({ cls := "BubbleBox$Directory", name := "pageAt", desc := "(LBubbleBox$Entry;I)I" } : MethodName)) ∈ tables_1 := List.mem_of_getElem? (i := 501) (by decide +kernel)
theorem kw_502 : (Cond.instanceMethod ({ cls := "BubbleBox$Directory", name := "pageAt", desc := "(LBubbleBox$Entry;I)I" } : MethodName)) ∈ tables_1 := List.mem_of_getElem? (i := 502) (by decide +kernel)
theorem kw_503 : (Cond.code ({ cls := "BubbleBox$Directory", name := "pageAt", desc := "(LBubbleBox$Entry;I)I" } : MethodName) prog_3_method_7_code (5 : Nat) (Option.some FieldType.int)) ∈ tables_1 := List.mem_of_getElem? (i := 503) (by decide +kernel)
theorem kw_504 : (Cond.methodLinkNest "BubbleBox" (246 : Nat) ({ cls := "BubbleBox$Entry", name := "openWindow", desc := "(IJ)V" } : MethodName) "BubbleBox") ∈ tables_1 := List.mem_of_getElem? (i := 504) (by decide +kernel)
theorem kw_505 : (Cond.methodLink "BubbleBox" (141 : Nat) ({ cls := "BubbleBox", name := "openLastPage", desc := "(LBubbleBox$Entry;)V" } : MethodName)) ∈ tables_1 := List.mem_of_getElem? (i := 505) (by decide +kernel)
theorem kw_506 : (Cond.privateMethod ({ cls := "BubbleBox", name := "openLastPage", desc := "(LBubbleBox$Entry;)V" } : MethodName)) ∈ tables_1 := List.mem_of_getElem? (i := 506) (by decide +kernel)
theorem kw_507 : (Cond.instanceMethod ({ cls := "BubbleBox", name := "openLastPage", desc := "(LBubbleBox$Entry;)V" } : MethodName)) ∈ tables_1 := List.mem_of_getElem? (i := 507) (by decide +kernel)
theorem kw_508 : (Cond.code ({ cls := "BubbleBox", name := "openLastPage", desc := "(LBubbleBox$Entry;)V" } : MethodName) prog_1_method_31_code (4 : Nat) (Option.none : Option FieldType)) ∈ tables_1 := List.mem_of_getElem? (i := 508) (by decide +kernel)
theorem kw_509 : (Cond.methodLink "BubbleBox" (175 : Nat) ({ cls := "BubbleBox", name := "pagesFor", desc := "(I)I" } : MethodName)) ∈ tables_1 := List.mem_of_getElem? (i := 509) (by decide +kernel)
theorem kw_510 : (Cond.methodLinkNest "BubbleBox" (153 : Nat) ({ cls := "BubbleBox$Directory", name := "pageAt", desc := "(LBubbleBox$Entry;I)I" } : MethodName) "BubbleBox") ∈ tables_1 := List.mem_of_getElem? (i := 510) (by decide +kernel)
theorem kw_511 : (Cond.methodLink "BubbleBox" (157 : Nat) ({ cls := "BubbleBox", name := "load", desc := "(LBubbleBox$Entry;I)V" } : MethodName)) ∈ tables_1 := List.mem_of_getElem? (i := 511) (by decide +kernel)
theorem kw_512 : (Cond.privateMethod ({ cls := "BubbleBox", name := "load", desc := "(LBubbleBox$Entry;I)V" } : MethodName)) ∈ tables_1 := List.mem_of_getElem? (i := 512) (by decide +kernel)
theorem kw_513 : (Cond.instanceMethod ({ cls := "BubbleBox", name := "load", desc := "(LBubbleBox$Entry;I)V" } : MethodName)) ∈ tables_1 := List.mem_of_getElem? (i := 513) (by decide +kernel)
theorem kw_514 : (Cond.code ({ cls := "BubbleBox", name := "load", desc := "(LBubbleBox$Entry;I)V" } : MethodName) prog_1_method_29_code (5 : Nat) (Option.none : Option FieldType)) ∈ tables_1 := List.mem_of_getElem? (i := 514) (by decide +kernel)
theorem kw_515 : (Cond.methodLinkNest "BubbleBox" (258 : Nat) ({ cls := "BubbleBox$Directory", name := "replaceLastPage", desc := "(LBubbleBox$Entry;I)V" } : MethodName) "BubbleBox") ∈ tables_1 := List.mem_of_getElem? (i := 515) (by decide +kernel)
theorem kw_516 : (Cond.privateMethod ({ cls := "BubbleBox$Directory", name := "replaceLastPage", desc := "(LBubbleBox$Entry;I)V" } : MethodName)) ∈ tables_1 := List.mem_of_getElem? (i := 516) (by decide +kernel)
theorem kw_517 : (Cond.instanceMethod ({ cls := "BubbleBox$Directory", name := "replaceLastPage", desc := "(LBubbleBox$Entry;I)V" } : MethodName)) ∈ tables_1 := List.mem_of_getElem? (i := 517) (by decide +kernel)
theorem kw_518 : (Cond.code ({ cls := "BubbleBox$Directory", name := "replaceLastPage", desc := "(LBubbleBox$Entry;I)V" } : MethodName) prog_3_method_10_code (4 : Nat) (Option.none : Option FieldType)) ∈ tables_1 := List.mem_of_getElem? (i := 518) (by decide +kernel)
theorem kw_519 : (Cond.methodLinkNest "BubbleBox" (144 : Nat) ({ cls := "BubbleBox$Entry", name := "putIntoWindow", desc := "(II)V" } : MethodName) "BubbleBox") ∈ tables_1 := List.mem_of_getElem? (i := 519) (by decide +kernel)
theorem kw_520 : (Cond.privateMethod ({ cls := "BubbleBox$Entry", name := "putIntoWindow", desc := "(II)V" } : MethodName)) ∈ tables_1 := List.mem_of_getElem? (i := 520) (by decide +kernel)
theorem kw_521 : (Cond.instanceMethod ({ cls := "BubbleBox$Entry", name := "putIntoWindow", desc := "(II)V" } : MethodName)) ∈ tables_1 := List.mem_of_getElem? (i := 521) (by decide +kernel)
theorem kw_522 : (Cond.code ({ cls := "BubbleBox$Entry", name := "putIntoWindow", desc := "(II)V" } : MethodName) prog_4_method_4_code (4 : Nat) (Option.none : Option FieldType)) ∈ tables_1 := List.mem_of_getElem? (i := 522) (by decide +kernel)
theorem kw_523 : (Cond.constantLong "BubbleBox$Entry" (36 : Nat) (255 : Int64)) ∈ tables_1 := List.mem_of_getElem? (i := 523) (by decide +kernel)
theorem kw_524 : (Cond.constantLong "BubbleBox$Entry" (38 : Nat) (-1 : Int64)) ∈ tables_1 := List.mem_of_getElem? (i := 524) (by decide +kernel)
theorem kw_525 : (Cond.methodLink "BubbleBoxLaw" (118 : Nat) ({ cls := "BubbleBoxLaw", name := "byteAt", desc := "(LBubbleBox;II[J)I" } : MethodName)) ∈ tables_1 := List.mem_of_getElem? (i := 525) (by decide +kernel)
theorem kw_526 : (Cond.static ({ cls := "BubbleBoxLaw", name := "byteAt", desc := "(LBubbleBox;II[J)I" } : MethodName)) ∈ tables_1 := List.mem_of_getElem? (i := 526) (by decide +kernel)
theorem kw_527 : (Cond.codeWith ({ cls := "BubbleBoxLaw", name := "byteAt", desc := "(LBubbleBox;II[J)I" } : MethodName) method_9_code (5 : Nat) (Option.some FieldType.int) [((0 : Nat), (10 : Nat), (13 : Nat), (15 : Nat)), ((0 : Nat), (10 : Nat), (17 : Nat), (13 : Nat)), ((0 : Nat), (10 : Nat), (21 : Nat), (40 : Nat))]) ∈ tables_1 := List.mem_of_getElem? (i := 527) (by decide +kernel)
theorem kw_528 : (Cond.classLink "BubbleBoxLaw" (40 : Nat) "java/lang/IndexOutOfBoundsException") ∈ tables_1 := List.mem_of_getElem? (i := 528) (by decide +kernel)
theorem kw_529 : (Cond.methodLink "BubbleBoxLaw" (37 : Nat) ({ cls := "BubbleBox", name := "byteAt", desc := "(II)I" } : MethodName)) ∈ tables_1 := List.mem_of_getElem? (i := 529) (by decide +kernel)
theorem kw_530 : (Cond.instanceMethod ({ cls := "BubbleBox", name := "byteAt", desc := "(II)I" } : MethodName)) ∈ tables_1 := List.mem_of_getElem? (i := 530) (by decide +kernel)
theorem kw_531 : (Cond.selects "BubbleBox" ({ cls := "BubbleBox", name := "byteAt", desc := "(II)I" } : MethodName) ({ cls := "BubbleBox", name := "byteAt", desc := "(II)I" } : MethodName)) ∈ tables_1 := List.mem_of_getElem? (i := 531) (by decide +kernel)
theorem kw_532 : (Cond.code ({ cls := "BubbleBox", name := "byteAt", desc := "(II)I" } : MethodName) prog_1_method_12_code (4 : Nat) (Option.some FieldType.int)) ∈ tables_1 := List.mem_of_getElem? (i := 532) (by decide +kernel)
theorem kw_533 : (Cond.classLink "BubbleBox" (148 : Nat) "java/lang/IndexOutOfBoundsException") ∈ tables_1 := List.mem_of_getElem? (i := 533) (by decide +kernel)
theorem kw_534 : (Cond.instantiable "java/lang/IndexOutOfBoundsException" (6 : Nat)) ∈ tables_1 := List.mem_of_getElem? (i := 534) (by decide +kernel)
theorem kw_535 : (Cond.castable "java/lang/IndexOutOfBoundsException" "java/lang/IndexOutOfBoundsException") ∈ tables_1 := List.mem_of_getElem? (i := 535) (by decide +kernel)
theorem kw_536 : (Cond.selects "java/lang/IndexOutOfBoundsException" ({ cls := "java/lang/Throwable", name := "fillInStackTrace", desc := "(I)Ljava/lang/Throwable;" } : MethodName) ({ cls := "java/lang/Throwable", name := "fillInStackTrace", desc := "(I)Ljava/lang/Throwable;" } : MethodName)) ∈ tables_1 := List.mem_of_getElem? (i := 536) (by decide +kernel)
theorem kw_537 : (Cond.lays "java/lang/IndexOutOfBoundsException" "java/lang/Throwable" "cause" "Ljava/lang/Throwable;") ∈ tables_1 := List.mem_of_getElem? (i := 537) (by decide +kernel)
theorem kw_538 : (Cond.lays "java/lang/IndexOutOfBoundsException" "java/lang/Throwable" "stackTrace" "[Ljava/lang/StackTraceElement;") ∈ tables_1 := List.mem_of_getElem? (i := 538) (by decide +kernel)
theorem kw_539 : (Cond.lays "java/lang/IndexOutOfBoundsException" "java/lang/Throwable" "suppressedExceptions" "Ljava/util/List;") ∈ tables_1 := List.mem_of_getElem? (i := 539) (by decide +kernel)
theorem kw_540 : (Cond.lays "java/lang/IndexOutOfBoundsException" "java/lang/Throwable" "detailMessage" "Ljava/lang/String;") ∈ tables_1 := List.mem_of_getElem? (i := 540) (by decide +kernel)
theorem kw_541 : (Cond.lays "java/lang/IndexOutOfBoundsException" "java/lang/Throwable" "backtrace" "Ljava/lang/Object;") ∈ tables_1 := List.mem_of_getElem? (i := 541) (by decide +kernel)
theorem kw_542 : (Cond.stringRef "BubbleBox" (150 : Nat) "there is no such byte") ∈ tables_1 := List.mem_of_getElem? (i := 542) (by decide +kernel)
theorem kw_543 : (Cond.methodLink "BubbleBox" (152 : Nat) ({ cls := "java/lang/IndexOutOfBoundsException", name := "<init>", desc := "(Ljava/lang/String;)V" } : MethodName)) ∈ tables_1 := List.mem_of_getElem? (i := 543) (by decide +kernel)
theorem kw_544 : (Cond.instanceMethod ({ cls := "java/lang/IndexOutOfBoundsException", name := "<init>", desc := "(Ljava/lang/String;)V" } : MethodName)) ∈ tables_1 := List.mem_of_getElem? (i := 544) (by decide +kernel)
theorem kw_545 : (Cond.code ({ cls := "java/lang/IndexOutOfBoundsException", name := "<init>", desc := "(Ljava/lang/String;)V" } : MethodName) prog_12_method_2_code (2 : Nat) (Option.none : Option FieldType)) ∈ tables_1 := List.mem_of_getElem? (i := 545) (by decide +kernel)
theorem kw_546 : (Cond.methodLink "java/lang/IndexOutOfBoundsException" (7 : Nat) ({ cls := "java/lang/RuntimeException", name := "<init>", desc := "(Ljava/lang/String;)V" } : MethodName)) ∈ tables_1 := List.mem_of_getElem? (i := 546) (by decide +kernel)
theorem kw_547 : (Cond.lays "java/lang/IndexOutOfBoundsException" "java/lang/Throwable" "depth" "I") ∈ tables_1 := List.mem_of_getElem? (i := 547) (by decide +kernel)
theorem kw_548 : (Cond.superclass "java/lang/IndexOutOfBoundsException" "java/lang/RuntimeException") ∈ tables_1 := List.mem_of_getElem? (i := 548) (by decide +kernel)
theorem kw_549 : (Cond.methodLinkNest "BubbleBox" (161 : Nat) ({ cls := "BubbleBox$Entry", name := "byteInWindow", desc := "(I)I" } : MethodName) "BubbleBox") ∈ tables_1 := List.mem_of_getElem? (i := 549) (by decide +kernel)
theorem kw_550 : (Cond.privateMethod ({ cls := "BubbleBox$Entry", name := "byteInWindow", desc := "(I)I" } : MethodName)) ∈ tables_1 := List.mem_of_getElem? (i := 550) (by decide +kernel)
theorem kw_551 : (Cond.instanceMethod ({ cls := "BubbleBox$Entry", name := "byteInWindow", desc := "(I)I" } : MethodName)) ∈ tables_1 := List.mem_of_getElem? (i := 551) (by decide +kernel)
theorem kw_552 : (Cond.code ({ cls := "BubbleBox$Entry", name := "byteInWindow", desc := "(I)I" } : MethodName) prog_4_method_5_code (2 : Nat) (Option.some FieldType.int)) ∈ tables_1 := List.mem_of_getElem? (i := 552) (by decide +kernel)
theorem kw_553 : (Cond.methodLink "BubbleBoxLaw" (121 : Nat) ({ cls := "BubbleBoxLaw", name := "truncate", desc := "(LBubbleBox;II[J)I" } : MethodName)) ∈ tables_1 := List.mem_of_getElem? (i := 553) (by decide +kernel)
theorem kw_554 : (Cond.static ({ cls := "BubbleBoxLaw", name := "truncate", desc := "(LBubbleBox;II[J)I" } : MethodName)) ∈ tables_1 := List.mem_of_getElem? (i := 554) (by decide +kernel)
theorem kw_555 : (Cond.codeWith ({ cls := "BubbleBoxLaw", name := "truncate", desc := "(LBubbleBox;II[J)I" } : MethodName) method_10_code (5 : Nat) (Option.some FieldType.int) [((0 : Nat), (10 : Nat), (13 : Nat), (15 : Nat)), ((0 : Nat), (10 : Nat), (17 : Nat), (13 : Nat))]) ∈ tables_1 := List.mem_of_getElem? (i := 555) (by decide +kernel)
theorem kw_556 : (Cond.methodLink "BubbleBoxLaw" (42 : Nat) ({ cls := "BubbleBox", name := "truncate", desc := "(II)I" } : MethodName)) ∈ tables_1 := List.mem_of_getElem? (i := 556) (by decide +kernel)
theorem kw_557 : (Cond.instanceMethod ({ cls := "BubbleBox", name := "truncate", desc := "(II)I" } : MethodName)) ∈ tables_1 := List.mem_of_getElem? (i := 557) (by decide +kernel)
theorem kw_558 : (Cond.selects "BubbleBox" ({ cls := "BubbleBox", name := "truncate", desc := "(II)I" } : MethodName) ({ cls := "BubbleBox", name := "truncate", desc := "(II)I" } : MethodName)) ∈ tables_1 := List.mem_of_getElem? (i := 558) (by decide +kernel)
theorem kw_559 : (Cond.code ({ cls := "BubbleBox", name := "truncate", desc := "(II)I" } : MethodName) prog_1_method_13_code (4 : Nat) (Option.some FieldType.int)) ∈ tables_1 := List.mem_of_getElem? (i := 559) (by decide +kernel)
theorem kw_560 : (Cond.stringRef "BubbleBox" (164 : Nat) "n is not 0 .. the length") ∈ tables_1 := List.mem_of_getElem? (i := 560) (by decide +kernel)
theorem kw_561 : (Cond.methodLinkNest "BubbleBox" (166 : Nat) ({ cls := "BubbleBox$Directory", name := "shorten", desc := "(LBubbleBox$Entry;I)I" } : MethodName) "BubbleBox") ∈ tables_1 := List.mem_of_getElem? (i := 561) (by decide +kernel)
theorem kw_562 : (Cond.privateMethod ({ cls := "BubbleBox$Directory", name := "shorten", desc := "(LBubbleBox$Entry;I)I" } : MethodName)) ∈ tables_1 := List.mem_of_getElem? (i := 562) (by decide +kernel)
theorem kw_563 : (Cond.instanceMethod ({ cls := "BubbleBox$Directory", name := "shorten", desc := "(LBubbleBox$Entry;I)I" } : MethodName)) ∈ tables_1 := List.mem_of_getElem? (i := 563) (by decide +kernel)
theorem kw_564 : (Cond.code ({ cls := "BubbleBox$Directory", name := "shorten", desc := "(LBubbleBox$Entry;I)I" } : MethodName) prog_3_method_11_code (6 : Nat) (Option.some FieldType.int)) ∈ tables_1 := List.mem_of_getElem? (i := 564) (by decide +kernel)
theorem kw_565 : (Cond.methodLink "BubbleBox$Directory" (58 : Nat) ({ cls := "BubbleBox$Directory", name := "giveUp", desc := "(LBubbleBox$Entry;II)V" } : MethodName)) ∈ tables_1 := List.mem_of_getElem? (i := 565) (by decide +kernel)
theorem kw_566 : (Cond.privateMethod ({ cls := "BubbleBox$Directory", name := "giveUp", desc := "(LBubbleBox$Entry;II)V" } : MethodName)) ∈ tables_1 := List.mem_of_getElem? (i := 566) (by decide +kernel)
theorem kw_567 : (Cond.instanceMethod ({ cls := "BubbleBox$Directory", name := "giveUp", desc := "(LBubbleBox$Entry;II)V" } : MethodName)) ∈ tables_1 := List.mem_of_getElem? (i := 567) (by decide +kernel)
theorem kw_568 : (Cond.code ({ cls := "BubbleBox$Directory", name := "giveUp", desc := "(LBubbleBox$Entry;II)V" } : MethodName) prog_3_method_12_code (7 : Nat) (Option.none : Option FieldType)) ∈ tables_1 := List.mem_of_getElem? (i := 568) (by decide +kernel)
theorem kw_569 : (Cond.methodLinkNest "BubbleBox$Directory" (64 : Nat) ({ cls := "BubbleBox$Entry", name := "openWindow", desc := "(IJ)V" } : MethodName) "BubbleBox") ∈ tables_1 := List.mem_of_getElem? (i := 569) (by decide +kernel)
theorem kw_570 : (Cond.methodLink "BubbleBoxLaw" (124 : Nat) ({ cls := "BubbleBoxLaw", name := "remove", desc := "(LBubbleBox;I[J)I" } : MethodName)) ∈ tables_1 := List.mem_of_getElem? (i := 570) (by decide +kernel)
theorem kw_571 : (Cond.static ({ cls := "BubbleBoxLaw", name := "remove", desc := "(LBubbleBox;I[J)I" } : MethodName)) ∈ tables_1 := List.mem_of_getElem? (i := 571) (by decide +kernel)
theorem kw_572 : (Cond.codeWith ({ cls := "BubbleBoxLaw", name := "remove", desc := "(LBubbleBox;I[J)I" } : MethodName) method_11_code (4 : Nat) (Option.some FieldType.int) [((0 : Nat), (9 : Nat), (12 : Nat), (15 : Nat)), ((0 : Nat), (9 : Nat), (15 : Nat), (13 : Nat))]) ∈ tables_1 := List.mem_of_getElem? (i := 572) (by decide +kernel)
theorem kw_573 : (Cond.methodLink "BubbleBoxLaw" (45 : Nat) ({ cls := "BubbleBox", name := "remove", desc := "(I)I" } : MethodName)) ∈ tables_1 := List.mem_of_getElem? (i := 573) (by decide +kernel)
theorem kw_574 : (Cond.instanceMethod ({ cls := "BubbleBox", name := "remove", desc := "(I)I" } : MethodName)) ∈ tables_1 := List.mem_of_getElem? (i := 574) (by decide +kernel)
theorem kw_575 : (Cond.selects "BubbleBox" ({ cls := "BubbleBox", name := "remove", desc := "(I)I" } : MethodName) ({ cls := "BubbleBox", name := "remove", desc := "(I)I" } : MethodName)) ∈ tables_1 := List.mem_of_getElem? (i := 575) (by decide +kernel)
theorem kw_576 : (Cond.code ({ cls := "BubbleBox", name := "remove", desc := "(I)I" } : MethodName) prog_1_method_14_code (4 : Nat) (Option.some FieldType.int)) ∈ tables_1 := List.mem_of_getElem? (i := 576) (by decide +kernel)
theorem kw_577 : (Cond.methodLinkNest "BubbleBox" (169 : Nat) ({ cls := "BubbleBox$Entry", name := "forget", desc := "()V" } : MethodName) "BubbleBox") ∈ tables_1 := List.mem_of_getElem? (i := 577) (by decide +kernel)
theorem kw_578 : (Cond.methodLink "BubbleBoxLaw" (127 : Nat) ({ cls := "BubbleBoxLaw", name := "sync", desc := "(LBubbleBox;[J)I" } : MethodName)) ∈ tables_1 := List.mem_of_getElem? (i := 578) (by decide +kernel)
theorem kw_579 : (Cond.static ({ cls := "BubbleBoxLaw", name := "sync", desc := "(LBubbleBox;[J)I" } : MethodName)) ∈ tables_1 := List.mem_of_getElem? (i := 579) (by decide +kernel)
theorem kw_580 : (Cond.codeWith ({ cls := "BubbleBoxLaw", name := "sync", desc := "(LBubbleBox;[J)I" } : MethodName) method_12_code (3 : Nat) (Option.some FieldType.int) [((0 : Nat), (8 : Nat), (11 : Nat), (15 : Nat))]) ∈ tables_1 := List.mem_of_getElem? (i := 580) (by decide +kernel)
theorem kw_581 : (Cond.methodLink "BubbleBoxLaw" (48 : Nat) ({ cls := "BubbleBox", name := "sync", desc := "()I" } : MethodName)) ∈ tables_1 := List.mem_of_getElem? (i := 581) (by decide +kernel)
theorem kw_582 : (Cond.instanceMethod ({ cls := "BubbleBox", name := "sync", desc := "()I" } : MethodName)) ∈ tables_1 := List.mem_of_getElem? (i := 582) (by decide +kernel)
theorem kw_583 : (Cond.selects "BubbleBox" ({ cls := "BubbleBox", name := "sync", desc := "()I" } : MethodName) ({ cls := "BubbleBox", name := "sync", desc := "()I" } : MethodName)) ∈ tables_1 := List.mem_of_getElem? (i := 583) (by decide +kernel)
theorem kw_584 : (Cond.code ({ cls := "BubbleBox", name := "sync", desc := "()I" } : MethodName) prog_1_method_15_code (1 : Nat) (Option.some FieldType.int)) ∈ tables_1 := List.mem_of_getElem? (i := 584) (by decide +kernel)
theorem kw_585 : (Cond.methodLink "BubbleBoxLaw" (130 : Nat) ({ cls := "BubbleBoxLaw", name := "free", desc := "(LBubbleBox;[J)I" } : MethodName)) ∈ tables_1 := List.mem_of_getElem? (i := 585) (by decide +kernel)
theorem kw_586 : (Cond.static ({ cls := "BubbleBoxLaw", name := "free", desc := "(LBubbleBox;[J)I" } : MethodName)) ∈ tables_1 := List.mem_of_getElem? (i := 586) (by decide +kernel)
theorem kw_587 : (Cond.codeWith ({ cls := "BubbleBoxLaw", name := "free", desc := "(LBubbleBox;[J)I" } : MethodName) method_13_code (3 : Nat) (Option.some FieldType.int) [((0 : Nat), (8 : Nat), (11 : Nat), (15 : Nat))]) ∈ tables_1 := List.mem_of_getElem? (i := 587) (by decide +kernel)
theorem kw_588 : (Cond.methodLink "BubbleBoxLaw" (52 : Nat) ({ cls := "BubbleBox", name := "free", desc := "()I" } : MethodName)) ∈ tables_1 := List.mem_of_getElem? (i := 588) (by decide +kernel)
theorem kw_589 : (Cond.instanceMethod ({ cls := "BubbleBox", name := "free", desc := "()I" } : MethodName)) ∈ tables_1 := List.mem_of_getElem? (i := 589) (by decide +kernel)
theorem kw_590 : (Cond.selects "BubbleBox" ({ cls := "BubbleBox", name := "free", desc := "()I" } : MethodName) ({ cls := "BubbleBox", name := "free", desc := "()I" } : MethodName)) ∈ tables_1 := List.mem_of_getElem? (i := 590) (by decide +kernel)
theorem kw_591 : (Cond.code ({ cls := "BubbleBox", name := "free", desc := "()I" } : MethodName) prog_1_method_16_code (1 : Nat) (Option.some FieldType.int)) ∈ tables_1 := List.mem_of_getElem? (i := 591) (by decide +kernel)
theorem kw_592 : (Cond.methodLinkNest "BubbleBox" (172 : Nat) ({ cls := "BubbleBox$Directory", name := "countFree", desc := "()I" } : MethodName) "BubbleBox") ∈ tables_1 := List.mem_of_getElem? (i := 592) (by decide +kernel)
theorem kw_593 : (Cond.privateMethod ({ cls := "BubbleBox$Directory", name := "countFree", desc := "()I" } : MethodName)) ∈ tables_1 := List.mem_of_getElem? (i := 593) (by decide +kernel)
theorem kw_594 : (Cond.instanceMethod ({ cls := "BubbleBox$Directory", name := "countFree", desc := "()I" } : MethodName)) ∈ tables_1 := List.mem_of_getElem? (i := 594) (by decide +kernel)
theorem kw_595 : (Cond.code ({ cls := "BubbleBox$Directory", name := "countFree", desc := "()I" } : MethodName) prog_3_method_6_code (3 : Nat) (Option.some FieldType.int)) ∈ tables_1 := List.mem_of_getElem? (i := 595) (by decide +kernel)
theorem kw_596 : (Cond.methodLink "BubbleBoxLaw" (133 : Nat) ({ cls := "BubbleBoxLaw", name := "pageOf", desc := "(LBubbleBox;II[J)I" } : MethodName)) ∈ tables_1 := List.mem_of_getElem? (i := 596) (by decide +kernel)
theorem kw_597 : (Cond.static ({ cls := "BubbleBoxLaw", name := "pageOf", desc := "(LBubbleBox;II[J)I" } : MethodName)) ∈ tables_1 := List.mem_of_getElem? (i := 597) (by decide +kernel)
theorem kw_598 : (Cond.codeWith ({ cls := "BubbleBoxLaw", name := "pageOf", desc := "(LBubbleBox;II[J)I" } : MethodName) method_14_code (5 : Nat) (Option.some FieldType.int) [((0 : Nat), (10 : Nat), (13 : Nat), (15 : Nat)), ((0 : Nat), (10 : Nat), (17 : Nat), (13 : Nat))]) ∈ tables_1 := List.mem_of_getElem? (i := 598) (by decide +kernel)
theorem kw_599 : (Cond.methodLink "BubbleBoxLaw" (55 : Nat) ({ cls := "BubbleBox", name := "pageOf", desc := "(II)I" } : MethodName)) ∈ tables_1 := List.mem_of_getElem? (i := 599) (by decide +kernel)
theorem kw_600 : (Cond.instanceMethod ({ cls := "BubbleBox", name := "pageOf", desc := "(II)I" } : MethodName)) ∈ tables_1 := List.mem_of_getElem? (i := 600) (by decide +kernel)
theorem kw_601 : (Cond.selects "BubbleBox" ({ cls := "BubbleBox", name := "pageOf", desc := "(II)I" } : MethodName) ({ cls := "BubbleBox", name := "pageOf", desc := "(II)I" } : MethodName)) ∈ tables_1 := List.mem_of_getElem? (i := 601) (by decide +kernel)
theorem kw_602 : (Cond.code ({ cls := "BubbleBox", name := "pageOf", desc := "(II)I" } : MethodName) prog_1_method_17_code (4 : Nat) (Option.some FieldType.int)) ∈ tables_1 := List.mem_of_getElem? (i := 602) (by decide +kernel)
theorem kw_603 : (Cond.methodLink "BubbleBoxLaw" (138 : Nat) ({ cls := "BubbleBoxLaw", name := "queue", desc := "(LBubbleBox;IZJ[J)I" } : MethodName)) ∈ tables_1 := List.mem_of_getElem? (i := 603) (by decide +kernel)
theorem kw_604 : (Cond.static ({ cls := "BubbleBoxLaw", name := "queue", desc := "(LBubbleBox;IZJ[J)I" } : MethodName)) ∈ tables_1 := List.mem_of_getElem? (i := 604) (by decide +kernel)
theorem kw_605 : (Cond.codeWith ({ cls := "BubbleBoxLaw", name := "queue", desc := "(LBubbleBox;IZJ[J)I" } : MethodName) method_15_code (7 : Nat) (Option.some FieldType.int) [((0 : Nat), (12 : Nat), (15 : Nat), (15 : Nat)), ((0 : Nat), (12 : Nat), (19 : Nat), (13 : Nat)), ((0 : Nat), (12 : Nat), (23 : Nat), (25 : Nat))]) ∈ tables_1 := List.mem_of_getElem? (i := 605) (by decide +kernel)
theorem kw_606 : (Cond.methodLink "BubbleBoxLaw" (58 : Nat) ({ cls := "BubbleBox", name := "queue", desc := "(IZJ)I" } : MethodName)) ∈ tables_1 := List.mem_of_getElem? (i := 606) (by decide +kernel)
theorem kw_607 : (Cond.instanceMethod ({ cls := "BubbleBox", name := "queue", desc := "(IZJ)I" } : MethodName)) ∈ tables_1 := List.mem_of_getElem? (i := 607) (by decide +kernel)
theorem kw_608 : (Cond.selects "BubbleBox" ({ cls := "BubbleBox", name := "queue", desc := "(IZJ)I" } : MethodName) ({ cls := "BubbleBox", name := "queue", desc := "(IZJ)I" } : MethodName)) ∈ tables_1 := List.mem_of_getElem? (i := 608) (by decide +kernel)
theorem kw_609 : (Cond.code ({ cls := "BubbleBox", name := "queue", desc := "(IZJ)I" } : MethodName) prog_1_method_18_code (5 : Nat) (Option.some FieldType.int)) ∈ tables_1 := List.mem_of_getElem? (i := 609) (by decide +kernel)
theorem kw_610 : (Cond.stringRef "BubbleBox" (178 : Nat) "there is no such page") ∈ tables_1 := List.mem_of_getElem? (i := 610) (by decide +kernel)
theorem kw_611 : (Cond.stringRef "BubbleBox" (183 : Nat) "there are 16 requests") ∈ tables_1 := List.mem_of_getElem? (i := 611) (by decide +kernel)
theorem kw_612 : (Cond.methodLinkNest "BubbleBox" (185 : Nat) ({ cls := "BubbleBox$Requests", name := "ask", desc := "(IZJ)I" } : MethodName) "BubbleBox") ∈ tables_1 := List.mem_of_getElem? (i := 612) (by decide +kernel)
theorem kw_613 : (Cond.privateMethod ({ cls := "BubbleBox$Requests", name := "ask", desc := "(IZJ)I" } : MethodName)) ∈ tables_1 := List.mem_of_getElem? (i := 613) (by decide +kernel)
theorem kw_614 : (Cond.instanceMethod ({ cls := "BubbleBox$Requests", name := "ask", desc := "(IZJ)I" } : MethodName)) ∈ tables_1 := List.mem_of_getElem? (i := 614) (by decide +kernel)
theorem kw_615 : (Cond.code ({ cls := "BubbleBox$Requests", name := "ask", desc := "(IZJ)I" } : MethodName) prog_6_method_3_code (6 : Nat) (Option.some FieldType.int)) ∈ tables_1 := List.mem_of_getElem? (i := 615) (by decide +kernel)
theorem kw_616 : (Cond.methodLink "BubbleBoxLaw" (142 : Nat) ({ cls := "BubbleBoxLaw", name := "serve", desc := "(LBubbleBox;[J)I" } : MethodName)) ∈ tables_1 := List.mem_of_getElem? (i := 616) (by decide +kernel)
theorem kw_617 : (Cond.static ({ cls := "BubbleBoxLaw", name := "serve", desc := "(LBubbleBox;[J)I" } : MethodName)) ∈ tables_1 := List.mem_of_getElem? (i := 617) (by decide +kernel)
theorem kw_618 : (Cond.codeWith ({ cls := "BubbleBoxLaw", name := "serve", desc := "(LBubbleBox;[J)I" } : MethodName) method_16_code (3 : Nat) (Option.some FieldType.int) [((0 : Nat), (8 : Nat), (11 : Nat), (15 : Nat))]) ∈ tables_1 := List.mem_of_getElem? (i := 618) (by decide +kernel)
theorem kw_619 : (Cond.methodLink "BubbleBoxLaw" (62 : Nat) ({ cls := "BubbleBox", name := "serve", desc := "()I" } : MethodName)) ∈ tables_1 := List.mem_of_getElem? (i := 619) (by decide +kernel)
theorem kw_620 : (Cond.instanceMethod ({ cls := "BubbleBox", name := "serve", desc := "()I" } : MethodName)) ∈ tables_1 := List.mem_of_getElem? (i := 620) (by decide +kernel)
theorem kw_621 : (Cond.selects "BubbleBox" ({ cls := "BubbleBox", name := "serve", desc := "()I" } : MethodName) ({ cls := "BubbleBox", name := "serve", desc := "()I" } : MethodName)) ∈ tables_1 := List.mem_of_getElem? (i := 621) (by decide +kernel)
theorem kw_622 : (Cond.code ({ cls := "BubbleBox", name := "serve", desc := "()I" } : MethodName) prog_1_method_19_code (5 : Nat) (Option.some FieldType.int)) ∈ tables_1 := List.mem_of_getElem? (i := 622) (by decide +kernel)
theorem kw_623 : (Cond.methodLinkNest "BubbleBox" (189 : Nat) ({ cls := "BubbleBox$Requests", name := "begin", desc := "()V" } : MethodName) "BubbleBox") ∈ tables_1 := List.mem_of_getElem? (i := 623) (by decide +kernel)
theorem kw_624 : (Cond.privateMethod ({ cls := "BubbleBox$Requests", name := "begin", desc := "()V" } : MethodName)) ∈ tables_1 := List.mem_of_getElem? (i := 624) (by decide +kernel)
theorem kw_625 : (Cond.instanceMethod ({ cls := "BubbleBox$Requests", name := "begin", desc := "()V" } : MethodName)) ∈ tables_1 := List.mem_of_getElem? (i := 625) (by decide +kernel)
theorem kw_626 : (Cond.code ({ cls := "BubbleBox$Requests", name := "begin", desc := "()V" } : MethodName) prog_6_method_4_code (2 : Nat) (Option.none : Option FieldType)) ∈ tables_1 := List.mem_of_getElem? (i := 626) (by decide +kernel)
theorem kw_627 : (Cond.methodLinkNest "BubbleBox" (195 : Nat) ({ cls := "BubbleBox$Requests", name := "takeNearest", desc := "(LBubbleBox$Chip;)I" } : MethodName) "BubbleBox") ∈ tables_1 := List.mem_of_getElem? (i := 627) (by decide +kernel)
theorem kw_628 : (Cond.privateMethod ({ cls := "BubbleBox$Requests", name := "takeNearest", desc := "(LBubbleBox$Chip;)I" } : MethodName)) ∈ tables_1 := List.mem_of_getElem? (i := 628) (by decide +kernel)
theorem kw_629 : (Cond.instanceMethod ({ cls := "BubbleBox$Requests", name := "takeNearest", desc := "(LBubbleBox$Chip;)I" } : MethodName)) ∈ tables_1 := List.mem_of_getElem? (i := 629) (by decide +kernel)
theorem kw_630 : (Cond.code ({ cls := "BubbleBox$Requests", name := "takeNearest", desc := "(LBubbleBox$Chip;)I" } : MethodName) prog_6_method_5_code (6 : Nat) (Option.some FieldType.int)) ∈ tables_1 := List.mem_of_getElem? (i := 630) (by decide +kernel)
theorem kw_631 : (Cond.methodLinkNest "BubbleBox$Requests" (36 : Nat) ({ cls := "BubbleBox$Chip", name := "stepsTo", desc := "(I)I" } : MethodName) "BubbleBox") ∈ tables_1 := List.mem_of_getElem? (i := 631) (by decide +kernel)
theorem kw_632 : (Cond.methodLink "BubbleBox" (199 : Nat) ({ cls := "BubbleBox", name := "transferAsked", desc := "(I)V" } : MethodName)) ∈ tables_1 := List.mem_of_getElem? (i := 632) (by decide +kernel)
theorem kw_633 : (Cond.privateMethod ({ cls := "BubbleBox", name := "transferAsked", desc := "(I)V" } : MethodName)) ∈ tables_1 := List.mem_of_getElem? (i := 633) (by decide +kernel)
theorem kw_634 : (Cond.instanceMethod ({ cls := "BubbleBox", name := "transferAsked", desc := "(I)V" } : MethodName)) ∈ tables_1 := List.mem_of_getElem? (i := 634) (by decide +kernel)
theorem kw_635 : (Cond.code ({ cls := "BubbleBox", name := "transferAsked", desc := "(I)V" } : MethodName) prog_1_method_37_code (3 : Nat) (Option.none : Option FieldType)) ∈ tables_1 := List.mem_of_getElem? (i := 635) (by decide +kernel)
theorem kw_636 : (Cond.methodLinkNest "BubbleBox" (288 : Nat) ({ cls := "BubbleBox$Directory", name := "isFree", desc := "(I)Z" } : MethodName) "BubbleBox") ∈ tables_1 := List.mem_of_getElem? (i := 636) (by decide +kernel)
theorem kw_637 : (Cond.methodLink "BubbleBoxLaw" (145 : Nat) ({ cls := "BubbleBoxLaw", name := "served", desc := "(LBubbleBox;I[J)I" } : MethodName)) ∈ tables_1 := List.mem_of_getElem? (i := 637) (by decide +kernel)
theorem kw_638 : (Cond.static ({ cls := "BubbleBoxLaw", name := "served", desc := "(LBubbleBox;I[J)I" } : MethodName)) ∈ tables_1 := List.mem_of_getElem? (i := 638) (by decide +kernel)
theorem kw_639 : (Cond.codeWith ({ cls := "BubbleBoxLaw", name := "served", desc := "(LBubbleBox;I[J)I" } : MethodName) method_17_code (4 : Nat) (Option.some FieldType.int) [((0 : Nat), (8 : Nat), (11 : Nat), (15 : Nat)), ((0 : Nat), (8 : Nat), (14 : Nat), (40 : Nat))]) ∈ tables_1 := List.mem_of_getElem? (i := 639) (by decide +kernel)
theorem kw_640 : (Cond.methodLink "BubbleBoxLaw" (65 : Nat) ({ cls := "BubbleBox", name := "served", desc := "(I)J" } : MethodName)) ∈ tables_1 := List.mem_of_getElem? (i := 640) (by decide +kernel)
theorem kw_641 : (Cond.instanceMethod ({ cls := "BubbleBox", name := "served", desc := "(I)J" } : MethodName)) ∈ tables_1 := List.mem_of_getElem? (i := 641) (by decide +kernel)
theorem kw_642 : (Cond.selects "BubbleBox" ({ cls := "BubbleBox", name := "served", desc := "(I)J" } : MethodName) ({ cls := "BubbleBox", name := "served", desc := "(I)J" } : MethodName)) ∈ tables_1 := List.mem_of_getElem? (i := 642) (by decide +kernel)
theorem kw_643 : (Cond.code ({ cls := "BubbleBox", name := "served", desc := "(I)J" } : MethodName) prog_1_method_20_code (2 : Nat) (Option.some FieldType.long)) ∈ tables_1 := List.mem_of_getElem? (i := 643) (by decide +kernel)
theorem kw_644 : (Cond.stringRef "BubbleBox" (203 : Nat) "the latest serve() had no such request") ∈ tables_1 := List.mem_of_getElem? (i := 644) (by decide +kernel)
theorem kw_645 : (Cond.classLink "BubbleBoxLaw" (70 : Nat) "BubbleBoxModel") ∈ tables_1 := List.mem_of_getElem? (i := 645) (by decide +kernel)
theorem kw_646 : (Cond.instantiable "BubbleBoxModel" (27 : Nat)) ∈ tables_1 := List.mem_of_getElem? (i := 646) (by decide +kernel)
theorem kw_647 : (Cond.methodLink "BubbleBoxLaw" (72 : Nat) ({ cls := "BubbleBoxModel", name := "<init>", desc := "()V" } : MethodName)) ∈ tables_1 := List.mem_of_getElem? (i := 647) (by decide +kernel)
theorem kw_648 : (Cond.instanceMethod ({ cls := "BubbleBoxModel", name := "<init>", desc := "()V" } : MethodName)) ∈ tables_1 := List.mem_of_getElem? (i := 648) (by decide +kernel)
theorem kw_649 : (Cond.code ({ cls := "BubbleBoxModel", name := "<init>", desc := "()V" } : MethodName) prog_8_method_1_code (1 : Nat) (Option.none : Option FieldType)) ∈ tables_1 := List.mem_of_getElem? (i := 649) (by decide +kernel)
theorem kw_650 : (Cond.methodLink "BubbleBoxModel" (1 : Nat) ({ cls := "java/lang/Object", name := "<init>", desc := "()V" } : MethodName)) ∈ tables_1 := List.mem_of_getElem? (i := 650) (by decide +kernel)
theorem kw_651 : (Cond.methodLink "BubbleBoxModel" (68 : Nat) ({ cls := "BubbleBoxModel", name := "forget", desc := "()V" } : MethodName)) ∈ tables_1 := List.mem_of_getElem? (i := 651) (by decide +kernel)
theorem kw_652 : (Cond.privateMethod ({ cls := "BubbleBoxModel", name := "forget", desc := "()V" } : MethodName)) ∈ tables_1 := List.mem_of_getElem? (i := 652) (by decide +kernel)
theorem kw_653 : (Cond.instanceMethod ({ cls := "BubbleBoxModel", name := "forget", desc := "()V" } : MethodName)) ∈ tables_1 := List.mem_of_getElem? (i := 653) (by decide +kernel)
theorem kw_654 : (Cond.code ({ cls := "BubbleBoxModel", name := "forget", desc := "()V" } : MethodName) prog_8_method_12_code (2 : Nat) (Option.none : Option FieldType)) ∈ tables_1 := List.mem_of_getElem? (i := 654) (by decide +kernel)
theorem kw_655 : (Cond.methodLink "BubbleBoxModel" (99 : Nat) ({ cls := "BubbleBoxModel", name := "drop", desc := "(I)V" } : MethodName)) ∈ tables_1 := List.mem_of_getElem? (i := 655) (by decide +kernel)
theorem kw_656 : (Cond.privateMethod ({ cls := "BubbleBoxModel", name := "drop", desc := "(I)V" } : MethodName)) ∈ tables_1 := List.mem_of_getElem? (i := 656) (by decide +kernel)
theorem kw_657 : (Cond.instanceMethod ({ cls := "BubbleBoxModel", name := "drop", desc := "(I)V" } : MethodName)) ∈ tables_1 := List.mem_of_getElem? (i := 657) (by decide +kernel)
theorem kw_658 : (Cond.code ({ cls := "BubbleBoxModel", name := "drop", desc := "(I)V" } : MethodName) prog_8_method_13_code (2 : Nat) (Option.none : Option FieldType)) ∈ tables_1 := List.mem_of_getElem? (i := 658) (by decide +kernel)
theorem kw_659 : (Cond.fieldLink "BubbleBoxModel" (71 : Nat) "BubbleBoxModel" "code" "I") ∈ tables_1 := List.mem_of_getElem? (i := 659) (by decide +kernel)
theorem kw_660 : (Cond.fieldLink "BubbleBoxModel" (7 : Nat) "BubbleBoxModel" "bad" "[Z") ∈ tables_1 := List.mem_of_getElem? (i := 660) (by decide +kernel)
theorem kw_661 : (Cond.fieldLink "BubbleBoxModel" (74 : Nat) "BubbleBoxModel" "mapped" "Z") ∈ tables_1 := List.mem_of_getElem? (i := 661) (by decide +kernel)
theorem kw_662 : (Cond.fieldLink "BubbleBoxModel" (13 : Nat) "BubbleBoxModel" "data" "[J") ∈ tables_1 := List.mem_of_getElem? (i := 662) (by decide +kernel)
theorem kw_663 : (Cond.fieldLink "BubbleBoxModel" (84 : Nat) "BubbleBoxModel" "position" "I") ∈ tables_1 := List.mem_of_getElem? (i := 663) (by decide +kernel)
theorem kw_664 : (Cond.fieldLink "BubbleBoxModel" (80 : Nat) "BubbleBoxModel" "steps" "J") ∈ tables_1 := List.mem_of_getElem? (i := 664) (by decide +kernel)
theorem kw_665 : (Cond.fieldLink "BubbleBoxModel" (17 : Nat) "BubbleBoxModel" "left" "I") ∈ tables_1 := List.mem_of_getElem? (i := 665) (by decide +kernel)
theorem kw_666 : (Cond.fieldLink "BubbleBoxModel" (21 : Nat) "BubbleBoxModel" "on" "Z") ∈ tables_1 := List.mem_of_getElem? (i := 666) (by decide +kernel)
theorem kw_667 : (Cond.fieldLink "BubbleBoxModel" (77 : Nat) "BubbleBoxModel" "mounted" "Z") ∈ tables_1 := List.mem_of_getElem? (i := 667) (by decide +kernel)
theorem kw_668 : (Cond.fieldLink "BubbleBoxModel" (25 : Nat) "BubbleBoxModel" "name" "[I") ∈ tables_1 := List.mem_of_getElem? (i := 668) (by decide +kernel)
theorem kw_669 : (Cond.fieldLink "BubbleBoxModel" (29 : Nat) "BubbleBoxModel" "length" "[I") ∈ tables_1 := List.mem_of_getElem? (i := 669) (by decide +kernel)
theorem kw_670 : (Cond.fieldLink "BubbleBoxModel" (32 : Nat) "BubbleBoxModel" "chain" "[I") ∈ tables_1 := List.mem_of_getElem? (i := 670) (by decide +kernel)
theorem kw_671 : (Cond.fieldLink "BubbleBoxModel" (35 : Nat) "BubbleBoxModel" "windowPage" "[I") ∈ tables_1 := List.mem_of_getElem? (i := 671) (by decide +kernel)
theorem kw_672 : (Cond.fieldLink "BubbleBoxModel" (38 : Nat) "BubbleBoxModel" "windowBits" "[J") ∈ tables_1 := List.mem_of_getElem? (i := 672) (by decide +kernel)
theorem kw_673 : (Cond.fieldLink "BubbleBoxModel" (41 : Nat) "BubbleBoxModel" "changed" "[Z") ∈ tables_1 := List.mem_of_getElem? (i := 673) (by decide +kernel)
theorem kw_674 : (Cond.fieldLink "BubbleBoxModel" (110 : Nat) "BubbleBoxModel" "current" "I") ∈ tables_1 := List.mem_of_getElem? (i := 674) (by decide +kernel)
theorem kw_675 : (Cond.fieldLink "BubbleBoxModel" (113 : Nat) "BubbleBoxModel" "turn" "I") ∈ tables_1 := List.mem_of_getElem? (i := 675) (by decide +kernel)
theorem kw_676 : (Cond.fieldLink "BubbleBoxModel" (44 : Nat) "BubbleBoxModel" "held" "[Z") ∈ tables_1 := List.mem_of_getElem? (i := 676) (by decide +kernel)
theorem kw_677 : (Cond.fieldLink "BubbleBoxModel" (47 : Nat) "BubbleBoxModel" "image" "[I") ∈ tables_1 := List.mem_of_getElem? (i := 677) (by decide +kernel)
theorem kw_678 : (Cond.fieldLink "BubbleBoxModel" (50 : Nat) "BubbleBoxModel" "behind" "[I") ∈ tables_1 := List.mem_of_getElem? (i := 678) (by decide +kernel)
theorem kw_679 : (Cond.fieldLink "BubbleBoxModel" (102 : Nat) "BubbleBoxModel" "requests" "I") ∈ tables_1 := List.mem_of_getElem? (i := 679) (by decide +kernel)
theorem kw_680 : (Cond.fieldLink "BubbleBoxModel" (53 : Nat) "BubbleBoxModel" "askedPage" "[I") ∈ tables_1 := List.mem_of_getElem? (i := 680) (by decide +kernel)
theorem kw_681 : (Cond.fieldLink "BubbleBoxModel" (56 : Nat) "BubbleBoxModel" "asksWrite" "[Z") ∈ tables_1 := List.mem_of_getElem? (i := 681) (by decide +kernel)
theorem kw_682 : (Cond.fieldLink "BubbleBoxModel" (59 : Nat) "BubbleBoxModel" "askedBits" "[J") ∈ tables_1 := List.mem_of_getElem? (i := 682) (by decide +kernel)
theorem kw_683 : (Cond.fieldLink "BubbleBoxModel" (62 : Nat) "BubbleBoxModel" "done" "[Z") ∈ tables_1 := List.mem_of_getElem? (i := 683) (by decide +kernel)
theorem kw_684 : (Cond.fieldLink "BubbleBoxModel" (105 : Nat) "BubbleBoxModel" "answers" "I") ∈ tables_1 := List.mem_of_getElem? (i := 684) (by decide +kernel)
theorem kw_685 : (Cond.fieldLink "BubbleBoxModel" (65 : Nat) "BubbleBoxModel" "answer" "[J") ∈ tables_1 := List.mem_of_getElem? (i := 685) (by decide +kernel)
theorem kw_686 : (Cond.lays "BubbleBoxModel" "BubbleBoxModel" "code" "I") ∈ tables_1 := List.mem_of_getElem? (i := 686) (by decide +kernel)
theorem kw_687 : (Cond.soleField "BubbleBoxModel" "code") ∈ tables_1 := List.mem_of_getElem? (i := 687) (by decide +kernel)
theorem kw_688 : (Cond.laysFinal "BubbleBoxModel" "BubbleBoxModel" "bad" "[Z") ∈ tables_1 := List.mem_of_getElem? (i := 688) (by decide +kernel)
theorem kw_689 : (Cond.soleField "BubbleBoxModel" "bad") ∈ tables_1 := List.mem_of_getElem? (i := 689) (by decide +kernel)
theorem kw_690 : (Cond.lays "BubbleBoxModel" "BubbleBoxModel" "mapped" "Z") ∈ tables_1 := List.mem_of_getElem? (i := 690) (by decide +kernel)
theorem kw_691 : (Cond.soleField "BubbleBoxModel" "mapped") ∈ tables_1 := List.mem_of_getElem? (i := 691) (by decide +kernel)
theorem kw_692 : (Cond.laysFinal "BubbleBoxModel" "BubbleBoxModel" "data" "[J") ∈ tables_1 := List.mem_of_getElem? (i := 692) (by decide +kernel)
theorem kw_693 : (Cond.soleField "BubbleBoxModel" "data") ∈ tables_1 := List.mem_of_getElem? (i := 693) (by decide +kernel)
theorem kw_694 : (Cond.lays "BubbleBoxModel" "BubbleBoxModel" "position" "I") ∈ tables_1 := List.mem_of_getElem? (i := 694) (by decide +kernel)
theorem kw_695 : (Cond.soleField "BubbleBoxModel" "position") ∈ tables_1 := List.mem_of_getElem? (i := 695) (by decide +kernel)
theorem kw_696 : (Cond.lays "BubbleBoxModel" "BubbleBoxModel" "steps" "J") ∈ tables_1 := List.mem_of_getElem? (i := 696) (by decide +kernel)
theorem kw_697 : (Cond.soleField "BubbleBoxModel" "steps") ∈ tables_1 := List.mem_of_getElem? (i := 697) (by decide +kernel)
theorem kw_698 : (Cond.lays "BubbleBoxModel" "BubbleBoxModel" "left" "I") ∈ tables_1 := List.mem_of_getElem? (i := 698) (by decide +kernel)
theorem kw_699 : (Cond.soleField "BubbleBoxModel" "left") ∈ tables_1 := List.mem_of_getElem? (i := 699) (by decide +kernel)
theorem kw_700 : (Cond.lays "BubbleBoxModel" "BubbleBoxModel" "on" "Z") ∈ tables_1 := List.mem_of_getElem? (i := 700) (by decide +kernel)
theorem kw_701 : (Cond.soleField "BubbleBoxModel" "on") ∈ tables_1 := List.mem_of_getElem? (i := 701) (by decide +kernel)
theorem kw_702 : (Cond.lays "BubbleBoxModel" "BubbleBoxModel" "mounted" "Z") ∈ tables_1 := List.mem_of_getElem? (i := 702) (by decide +kernel)
theorem kw_703 : (Cond.soleField "BubbleBoxModel" "mounted") ∈ tables_1 := List.mem_of_getElem? (i := 703) (by decide +kernel)
theorem kw_704 : (Cond.laysFinal "BubbleBoxModel" "BubbleBoxModel" "name" "[I") ∈ tables_1 := List.mem_of_getElem? (i := 704) (by decide +kernel)
theorem kw_705 : (Cond.soleField "BubbleBoxModel" "name") ∈ tables_1 := List.mem_of_getElem? (i := 705) (by decide +kernel)
theorem kw_706 : (Cond.laysFinal "BubbleBoxModel" "BubbleBoxModel" "length" "[I") ∈ tables_1 := List.mem_of_getElem? (i := 706) (by decide +kernel)
theorem kw_707 : (Cond.soleField "BubbleBoxModel" "length") ∈ tables_1 := List.mem_of_getElem? (i := 707) (by decide +kernel)
theorem kw_708 : (Cond.laysFinal "BubbleBoxModel" "BubbleBoxModel" "chain" "[I") ∈ tables_1 := List.mem_of_getElem? (i := 708) (by decide +kernel)
theorem kw_709 : (Cond.soleField "BubbleBoxModel" "chain") ∈ tables_1 := List.mem_of_getElem? (i := 709) (by decide +kernel)
theorem kw_710 : (Cond.laysFinal "BubbleBoxModel" "BubbleBoxModel" "windowPage" "[I") ∈ tables_1 := List.mem_of_getElem? (i := 710) (by decide +kernel)
theorem kw_711 : (Cond.soleField "BubbleBoxModel" "windowPage") ∈ tables_1 := List.mem_of_getElem? (i := 711) (by decide +kernel)
theorem kw_712 : (Cond.laysFinal "BubbleBoxModel" "BubbleBoxModel" "windowBits" "[J") ∈ tables_1 := List.mem_of_getElem? (i := 712) (by decide +kernel)
theorem kw_713 : (Cond.soleField "BubbleBoxModel" "windowBits") ∈ tables_1 := List.mem_of_getElem? (i := 713) (by decide +kernel)
theorem kw_714 : (Cond.laysFinal "BubbleBoxModel" "BubbleBoxModel" "changed" "[Z") ∈ tables_1 := List.mem_of_getElem? (i := 714) (by decide +kernel)
theorem kw_715 : (Cond.soleField "BubbleBoxModel" "changed") ∈ tables_1 := List.mem_of_getElem? (i := 715) (by decide +kernel)
theorem kw_716 : (Cond.lays "BubbleBoxModel" "BubbleBoxModel" "current" "I") ∈ tables_1 := List.mem_of_getElem? (i := 716) (by decide +kernel)
theorem kw_717 : (Cond.soleField "BubbleBoxModel" "current") ∈ tables_1 := List.mem_of_getElem? (i := 717) (by decide +kernel)
theorem kw_718 : (Cond.lays "BubbleBoxModel" "BubbleBoxModel" "turn" "I") ∈ tables_1 := List.mem_of_getElem? (i := 718) (by decide +kernel)
theorem kw_719 : (Cond.soleField "BubbleBoxModel" "turn") ∈ tables_1 := List.mem_of_getElem? (i := 719) (by decide +kernel)
theorem kw_720 : (Cond.laysFinal "BubbleBoxModel" "BubbleBoxModel" "held" "[Z") ∈ tables_1 := List.mem_of_getElem? (i := 720) (by decide +kernel)
theorem kw_721 : (Cond.soleField "BubbleBoxModel" "held") ∈ tables_1 := List.mem_of_getElem? (i := 721) (by decide +kernel)
theorem kw_722 : (Cond.laysFinal "BubbleBoxModel" "BubbleBoxModel" "image" "[I") ∈ tables_1 := List.mem_of_getElem? (i := 722) (by decide +kernel)
theorem kw_723 : (Cond.soleField "BubbleBoxModel" "image") ∈ tables_1 := List.mem_of_getElem? (i := 723) (by decide +kernel)
theorem kw_724 : (Cond.laysFinal "BubbleBoxModel" "BubbleBoxModel" "behind" "[I") ∈ tables_1 := List.mem_of_getElem? (i := 724) (by decide +kernel)
theorem kw_725 : (Cond.soleField "BubbleBoxModel" "behind") ∈ tables_1 := List.mem_of_getElem? (i := 725) (by decide +kernel)
theorem kw_726 : (Cond.lays "BubbleBoxModel" "BubbleBoxModel" "requests" "I") ∈ tables_1 := List.mem_of_getElem? (i := 726) (by decide +kernel)
theorem kw_727 : (Cond.soleField "BubbleBoxModel" "requests") ∈ tables_1 := List.mem_of_getElem? (i := 727) (by decide +kernel)
theorem kw_728 : (Cond.laysFinal "BubbleBoxModel" "BubbleBoxModel" "askedPage" "[I") ∈ tables_1 := List.mem_of_getElem? (i := 728) (by decide +kernel)
theorem kw_729 : (Cond.soleField "BubbleBoxModel" "askedPage") ∈ tables_1 := List.mem_of_getElem? (i := 729) (by decide +kernel)
theorem kw_730 : (Cond.laysFinal "BubbleBoxModel" "BubbleBoxModel" "asksWrite" "[Z") ∈ tables_1 := List.mem_of_getElem? (i := 730) (by decide +kernel)
theorem kw_731 : (Cond.soleField "BubbleBoxModel" "asksWrite") ∈ tables_1 := List.mem_of_getElem? (i := 731) (by decide +kernel)
theorem kw_732 : (Cond.laysFinal "BubbleBoxModel" "BubbleBoxModel" "askedBits" "[J") ∈ tables_1 := List.mem_of_getElem? (i := 732) (by decide +kernel)
theorem kw_733 : (Cond.soleField "BubbleBoxModel" "askedBits") ∈ tables_1 := List.mem_of_getElem? (i := 733) (by decide +kernel)
theorem kw_734 : (Cond.laysFinal "BubbleBoxModel" "BubbleBoxModel" "done" "[Z") ∈ tables_1 := List.mem_of_getElem? (i := 734) (by decide +kernel)
theorem kw_735 : (Cond.soleField "BubbleBoxModel" "done") ∈ tables_1 := List.mem_of_getElem? (i := 735) (by decide +kernel)
theorem kw_736 : (Cond.lays "BubbleBoxModel" "BubbleBoxModel" "answers" "I") ∈ tables_1 := List.mem_of_getElem? (i := 736) (by decide +kernel)
theorem kw_737 : (Cond.soleField "BubbleBoxModel" "answers") ∈ tables_1 := List.mem_of_getElem? (i := 737) (by decide +kernel)
theorem kw_738 : (Cond.laysFinal "BubbleBoxModel" "BubbleBoxModel" "answer" "[J") ∈ tables_1 := List.mem_of_getElem? (i := 738) (by decide +kernel)
theorem kw_739 : (Cond.soleField "BubbleBoxModel" "answer") ∈ tables_1 := List.mem_of_getElem? (i := 739) (by decide +kernel)
theorem kw_740 : (Cond.superclass "BubbleBoxModel" "java/lang/Object") ∈ tables_1 := List.mem_of_getElem? (i := 740) (by decide +kernel)
theorem kw_741 : (Cond.methodLink "BubbleBoxLaw" (79 : Nat) ({ cls := "BubbleBoxModel", name := "thrown", desc := "()I" } : MethodName)) ∈ tables_1 := List.mem_of_getElem? (i := 741) (by decide +kernel)
theorem kw_742 : (Cond.instanceMethod ({ cls := "BubbleBoxModel", name := "thrown", desc := "()I" } : MethodName)) ∈ tables_1 := List.mem_of_getElem? (i := 742) (by decide +kernel)
theorem kw_743 : (Cond.selects "BubbleBoxModel" ({ cls := "BubbleBoxModel", name := "thrown", desc := "()I" } : MethodName) ({ cls := "BubbleBoxModel", name := "thrown", desc := "()I" } : MethodName)) ∈ tables_1 := List.mem_of_getElem? (i := 743) (by decide +kernel)
theorem kw_744 : (Cond.code ({ cls := "BubbleBoxModel", name := "thrown", desc := "()I" } : MethodName) prog_8_method_2_code (1 : Nat) (Option.some FieldType.int)) ∈ tables_1 := List.mem_of_getElem? (i := 744) (by decide +kernel)
theorem kw_745 : (Cond.methodLink "BubbleBoxLaw" (78 : Nat) ({ cls := "BubbleBoxModel", name := "stuck", desc := "(II)V" } : MethodName)) ∈ tables_1 := List.mem_of_getElem? (i := 745) (by decide +kernel)
theorem kw_746 : (Cond.instanceMethod ({ cls := "BubbleBoxModel", name := "stuck", desc := "(II)V" } : MethodName)) ∈ tables_1 := List.mem_of_getElem? (i := 746) (by decide +kernel)
theorem kw_747 : (Cond.selects "BubbleBoxModel" ({ cls := "BubbleBoxModel", name := "stuck", desc := "(II)V" } : MethodName) ({ cls := "BubbleBoxModel", name := "stuck", desc := "(II)V" } : MethodName)) ∈ tables_1 := List.mem_of_getElem? (i := 747) (by decide +kernel)
theorem kw_748 : (Cond.code ({ cls := "BubbleBoxModel", name := "stuck", desc := "(II)V" } : MethodName) prog_8_method_3_code (3 : Nat) (Option.none : Option FieldType)) ∈ tables_1 := List.mem_of_getElem? (i := 748) (by decide +kernel)
theorem kw_749 : (Cond.methodLink "BubbleBoxLaw" (86 : Nat) ({ cls := "BubbleBoxModel", name := "power", desc := "(I)V" } : MethodName)) ∈ tables_1 := List.mem_of_getElem? (i := 749) (by decide +kernel)
theorem kw_750 : (Cond.instanceMethod ({ cls := "BubbleBoxModel", name := "power", desc := "(I)V" } : MethodName)) ∈ tables_1 := List.mem_of_getElem? (i := 750) (by decide +kernel)
theorem kw_751 : (Cond.selects "BubbleBoxModel" ({ cls := "BubbleBoxModel", name := "power", desc := "(I)V" } : MethodName) ({ cls := "BubbleBoxModel", name := "power", desc := "(I)V" } : MethodName)) ∈ tables_1 := List.mem_of_getElem? (i := 751) (by decide +kernel)
theorem kw_752 : (Cond.code ({ cls := "BubbleBoxModel", name := "power", desc := "(I)V" } : MethodName) prog_8_method_4_code (2 : Nat) (Option.none : Option FieldType)) ∈ tables_1 := List.mem_of_getElem? (i := 752) (by decide +kernel)
theorem kw_753 : (Cond.methodLink "BubbleBoxLaw" (90 : Nat) ({ cls := "BubbleBoxModel", name := "state", desc := "()I" } : MethodName)) ∈ tables_1 := List.mem_of_getElem? (i := 753) (by decide +kernel)
theorem kw_754 : (Cond.instanceMethod ({ cls := "BubbleBoxModel", name := "state", desc := "()I" } : MethodName)) ∈ tables_1 := List.mem_of_getElem? (i := 754) (by decide +kernel)
theorem kw_755 : (Cond.selects "BubbleBoxModel" ({ cls := "BubbleBoxModel", name := "state", desc := "()I" } : MethodName) ({ cls := "BubbleBoxModel", name := "state", desc := "()I" } : MethodName)) ∈ tables_1 := List.mem_of_getElem? (i := 755) (by decide +kernel)
theorem kw_756 : (Cond.code ({ cls := "BubbleBoxModel", name := "state", desc := "()I" } : MethodName) prog_8_method_5_code (1 : Nat) (Option.some FieldType.int)) ∈ tables_1 := List.mem_of_getElem? (i := 756) (by decide +kernel)
theorem kw_757 : (Cond.methodLink "BubbleBoxLaw" (95 : Nat) ({ cls := "BubbleBoxModel", name := "steps", desc := "()J" } : MethodName)) ∈ tables_1 := List.mem_of_getElem? (i := 757) (by decide +kernel)
theorem kw_758 : (Cond.instanceMethod ({ cls := "BubbleBoxModel", name := "steps", desc := "()J" } : MethodName)) ∈ tables_1 := List.mem_of_getElem? (i := 758) (by decide +kernel)
theorem kw_759 : (Cond.selects "BubbleBoxModel" ({ cls := "BubbleBoxModel", name := "steps", desc := "()J" } : MethodName) ({ cls := "BubbleBoxModel", name := "steps", desc := "()J" } : MethodName)) ∈ tables_1 := List.mem_of_getElem? (i := 759) (by decide +kernel)
theorem kw_760 : (Cond.code ({ cls := "BubbleBoxModel", name := "steps", desc := "()J" } : MethodName) prog_8_method_6_code (1 : Nat) (Option.some FieldType.long)) ∈ tables_1 := List.mem_of_getElem? (i := 760) (by decide +kernel)
theorem kw_761 : (Cond.methodLink "BubbleBoxLaw" (99 : Nat) ({ cls := "BubbleBoxModel", name := "format", desc := "()Z" } : MethodName)) ∈ tables_1 := List.mem_of_getElem? (i := 761) (by decide +kernel)
theorem kw_762 : (Cond.instanceMethod ({ cls := "BubbleBoxModel", name := "format", desc := "()Z" } : MethodName)) ∈ tables_1 := List.mem_of_getElem? (i := 762) (by decide +kernel)
theorem kw_763 : (Cond.selects "BubbleBoxModel" ({ cls := "BubbleBoxModel", name := "format", desc := "()Z" } : MethodName) ({ cls := "BubbleBoxModel", name := "format", desc := "()Z" } : MethodName)) ∈ tables_1 := List.mem_of_getElem? (i := 763) (by decide +kernel)
theorem kw_764 : (Cond.code ({ cls := "BubbleBoxModel", name := "format", desc := "()Z" } : MethodName) prog_8_method_14_code (3 : Nat) (Option.some FieldType.boolean)) ∈ tables_1 := List.mem_of_getElem? (i := 764) (by decide +kernel)
theorem kw_765 : (Cond.constantLong "BubbleBoxModel" (108 : Nat) (202 : Int64)) ∈ tables_1 := List.mem_of_getElem? (i := 765) (by decide +kernel)
theorem kw_766 : (Cond.methodLink "BubbleBoxModel" (116 : Nat) ({ cls := "BubbleBoxModel", name := "saveAll", desc := "()V" } : MethodName)) ∈ tables_1 := List.mem_of_getElem? (i := 766) (by decide +kernel)
theorem kw_767 : (Cond.privateMethod ({ cls := "BubbleBoxModel", name := "saveAll", desc := "()V" } : MethodName)) ∈ tables_1 := List.mem_of_getElem? (i := 767) (by decide +kernel)
theorem kw_768 : (Cond.instanceMethod ({ cls := "BubbleBoxModel", name := "saveAll", desc := "()V" } : MethodName)) ∈ tables_1 := List.mem_of_getElem? (i := 768) (by decide +kernel)
theorem kw_769 : (Cond.code ({ cls := "BubbleBoxModel", name := "saveAll", desc := "()V" } : MethodName) prog_8_method_20_code (8 : Nat) (Option.none : Option FieldType)) ∈ tables_1 := List.mem_of_getElem? (i := 769) (by decide +kernel)
theorem kw_770 : (Cond.methodLink "BubbleBoxModel" (133 : Nat) ({ cls := "BubbleBoxModel", name := "save", desc := "(I)V" } : MethodName)) ∈ tables_1 := List.mem_of_getElem? (i := 770) (by decide +kernel)
theorem kw_771 : (Cond.privateMethod ({ cls := "BubbleBoxModel", name := "save", desc := "(I)V" } : MethodName)) ∈ tables_1 := List.mem_of_getElem? (i := 771) (by decide +kernel)
theorem kw_772 : (Cond.instanceMethod ({ cls := "BubbleBoxModel", name := "save", desc := "(I)V" } : MethodName)) ∈ tables_1 := List.mem_of_getElem? (i := 772) (by decide +kernel)
theorem kw_773 : (Cond.code ({ cls := "BubbleBoxModel", name := "save", desc := "(I)V" } : MethodName) prog_8_method_32_code (2 : Nat) (Option.none : Option FieldType)) ∈ tables_1 := List.mem_of_getElem? (i := 773) (by decide +kernel)
theorem kw_774 : (Cond.methodLink "BubbleBoxModel" (139 : Nat) ({ cls := "BubbleBoxModel", name := "write", desc := "(IJ)V" } : MethodName)) ∈ tables_1 := List.mem_of_getElem? (i := 774) (by decide +kernel)
theorem kw_775 : (Cond.privateMethod ({ cls := "BubbleBoxModel", name := "write", desc := "(IJ)V" } : MethodName)) ∈ tables_1 := List.mem_of_getElem? (i := 775) (by decide +kernel)
theorem kw_776 : (Cond.instanceMethod ({ cls := "BubbleBoxModel", name := "write", desc := "(IJ)V" } : MethodName)) ∈ tables_1 := List.mem_of_getElem? (i := 776) (by decide +kernel)
theorem kw_777 : (Cond.code ({ cls := "BubbleBoxModel", name := "write", desc := "(IJ)V" } : MethodName) prog_8_method_10_code (4 : Nat) (Option.none : Option FieldType)) ∈ tables_1 := List.mem_of_getElem? (i := 777) (by decide +kernel)
theorem kw_778 : (Cond.methodLink "BubbleBoxModel" (95 : Nat) ({ cls := "BubbleBoxModel", name := "goes", desc := "(I)Z" } : MethodName)) ∈ tables_1 := List.mem_of_getElem? (i := 778) (by decide +kernel)
theorem kw_779 : (Cond.privateMethod ({ cls := "BubbleBoxModel", name := "goes", desc := "(I)Z" } : MethodName)) ∈ tables_1 := List.mem_of_getElem? (i := 779) (by decide +kernel)
theorem kw_780 : (Cond.instanceMethod ({ cls := "BubbleBoxModel", name := "goes", desc := "(I)Z" } : MethodName)) ∈ tables_1 := List.mem_of_getElem? (i := 780) (by decide +kernel)
theorem kw_781 : (Cond.code ({ cls := "BubbleBoxModel", name := "goes", desc := "(I)Z" } : MethodName) prog_8_method_9_code (2 : Nat) (Option.some FieldType.boolean)) ∈ tables_1 := List.mem_of_getElem? (i := 781) (by decide +kernel)
theorem kw_782 : (Cond.methodLink "BubbleBoxModel" (91 : Nat) ({ cls := "BubbleBoxModel", name := "turnTo", desc := "(I)V" } : MethodName)) ∈ tables_1 := List.mem_of_getElem? (i := 782) (by decide +kernel)
theorem kw_783 : (Cond.privateMethod ({ cls := "BubbleBoxModel", name := "turnTo", desc := "(I)V" } : MethodName)) ∈ tables_1 := List.mem_of_getElem? (i := 783) (by decide +kernel)
theorem kw_784 : (Cond.instanceMethod ({ cls := "BubbleBoxModel", name := "turnTo", desc := "(I)V" } : MethodName)) ∈ tables_1 := List.mem_of_getElem? (i := 784) (by decide +kernel)
theorem kw_785 : (Cond.code ({ cls := "BubbleBoxModel", name := "turnTo", desc := "(I)V" } : MethodName) prog_8_method_8_code (2 : Nat) (Option.none : Option FieldType)) ∈ tables_1 := List.mem_of_getElem? (i := 785) (by decide +kernel)
theorem kw_786 : (Cond.methodLink "BubbleBoxModel" (87 : Nat) ({ cls := "BubbleBoxModel", name := "stepsTo", desc := "(I)I" } : MethodName)) ∈ tables_1 := List.mem_of_getElem? (i := 786) (by decide +kernel)
theorem kw_787 : (Cond.privateMethod ({ cls := "BubbleBoxModel", name := "stepsTo", desc := "(I)I" } : MethodName)) ∈ tables_1 := List.mem_of_getElem? (i := 787) (by decide +kernel)
theorem kw_788 : (Cond.instanceMethod ({ cls := "BubbleBoxModel", name := "stepsTo", desc := "(I)I" } : MethodName)) ∈ tables_1 := List.mem_of_getElem? (i := 788) (by decide +kernel)
theorem kw_789 : (Cond.code ({ cls := "BubbleBoxModel", name := "stepsTo", desc := "(I)I" } : MethodName) prog_8_method_7_code (2 : Nat) (Option.some FieldType.int)) ∈ tables_1 := List.mem_of_getElem? (i := 789) (by decide +kernel)
theorem kw_790 : (Cond.methodLink "BubbleBoxModel" (136 : Nat) ({ cls := "BubbleBoxModel", name := "makeImage", desc := "(I)V" } : MethodName)) ∈ tables_1 := List.mem_of_getElem? (i := 790) (by decide +kernel)
theorem kw_791 : (Cond.privateMethod ({ cls := "BubbleBoxModel", name := "makeImage", desc := "(I)V" } : MethodName)) ∈ tables_1 := List.mem_of_getElem? (i := 791) (by decide +kernel)
theorem kw_792 : (Cond.instanceMethod ({ cls := "BubbleBoxModel", name := "makeImage", desc := "(I)V" } : MethodName)) ∈ tables_1 := List.mem_of_getElem? (i := 792) (by decide +kernel)
theorem kw_793 : (Cond.code ({ cls := "BubbleBoxModel", name := "makeImage", desc := "(I)V" } : MethodName) prog_8_method_19_code (4 : Nat) (Option.none : Option FieldType)) ∈ tables_1 := List.mem_of_getElem? (i := 793) (by decide +kernel)
theorem kw_794 : (Cond.methodLink "BubbleBoxModel" (122 : Nat) ({ cls := "BubbleBoxModel", name := "pages", desc := "(I)I" } : MethodName)) ∈ tables_1 := List.mem_of_getElem? (i := 794) (by decide +kernel)
theorem kw_795 : (Cond.privateMethod ({ cls := "BubbleBoxModel", name := "pages", desc := "(I)I" } : MethodName)) ∈ tables_1 := List.mem_of_getElem? (i := 795) (by decide +kernel)
theorem kw_796 : (Cond.instanceMethod ({ cls := "BubbleBoxModel", name := "pages", desc := "(I)I" } : MethodName)) ∈ tables_1 := List.mem_of_getElem? (i := 796) (by decide +kernel)
theorem kw_797 : (Cond.code ({ cls := "BubbleBoxModel", name := "pages", desc := "(I)I" } : MethodName) prog_8_method_18_code (2 : Nat) (Option.some FieldType.int)) ∈ tables_1 := List.mem_of_getElem? (i := 797) (by decide +kernel)
theorem kw_798 : (Cond.methodLink "BubbleBoxModel" (125 : Nat) ({ cls := "BubbleBoxModel", name := "putBytes", desc := "(IJI)V" } : MethodName)) ∈ tables_1 := List.mem_of_getElem? (i := 798) (by decide +kernel)
theorem kw_799 : (Cond.privateMethod ({ cls := "BubbleBoxModel", name := "putBytes", desc := "(IJI)V" } : MethodName)) ∈ tables_1 := List.mem_of_getElem? (i := 799) (by decide +kernel)
theorem kw_800 : (Cond.instanceMethod ({ cls := "BubbleBoxModel", name := "putBytes", desc := "(IJI)V" } : MethodName)) ∈ tables_1 := List.mem_of_getElem? (i := 800) (by decide +kernel)
theorem kw_801 : (Cond.code ({ cls := "BubbleBoxModel", name := "putBytes", desc := "(IJI)V" } : MethodName) prog_8_method_15_code (6 : Nat) (Option.none : Option FieldType)) ∈ tables_1 := List.mem_of_getElem? (i := 801) (by decide +kernel)
theorem kw_802 : (Cond.constantLong "BubbleBoxModel" (119 : Nat) (255 : Int64)) ∈ tables_1 := List.mem_of_getElem? (i := 802) (by decide +kernel)
theorem kw_803 : (Cond.methodLink "BubbleBoxModel" (129 : Nat) ({ cls := "BubbleBoxModel", name := "sumOfImage", desc := "()I" } : MethodName)) ∈ tables_1 := List.mem_of_getElem? (i := 803) (by decide +kernel)
theorem kw_804 : (Cond.privateMethod ({ cls := "BubbleBoxModel", name := "sumOfImage", desc := "()I" } : MethodName)) ∈ tables_1 := List.mem_of_getElem? (i := 804) (by decide +kernel)
theorem kw_805 : (Cond.instanceMethod ({ cls := "BubbleBoxModel", name := "sumOfImage", desc := "()I" } : MethodName)) ∈ tables_1 := List.mem_of_getElem? (i := 805) (by decide +kernel)
theorem kw_806 : (Cond.code ({ cls := "BubbleBoxModel", name := "sumOfImage", desc := "()I" } : MethodName) prog_8_method_17_code (3 : Nat) (Option.some FieldType.int)) ∈ tables_1 := List.mem_of_getElem? (i := 806) (by decide +kernel)
theorem kw_807 : (Cond.constant "BubbleBoxModel" (121 : Nat) (65536 : Int32)) ∈ tables_1 := List.mem_of_getElem? (i := 807) (by decide +kernel)
theorem kw_808 : (Cond.methodLink "BubbleBoxModel" (143 : Nat) ({ cls := "BubbleBoxModel", name := "hold", desc := "()V" } : MethodName)) ∈ tables_1 := List.mem_of_getElem? (i := 808) (by decide +kernel)
theorem kw_809 : (Cond.privateMethod ({ cls := "BubbleBoxModel", name := "hold", desc := "()V" } : MethodName)) ∈ tables_1 := List.mem_of_getElem? (i := 809) (by decide +kernel)
theorem kw_810 : (Cond.instanceMethod ({ cls := "BubbleBoxModel", name := "hold", desc := "()V" } : MethodName)) ∈ tables_1 := List.mem_of_getElem? (i := 810) (by decide +kernel)
theorem kw_811 : (Cond.code ({ cls := "BubbleBoxModel", name := "hold", desc := "()V" } : MethodName) prog_8_method_21_code (2 : Nat) (Option.none : Option FieldType)) ∈ tables_1 := List.mem_of_getElem? (i := 811) (by decide +kernel)
theorem kw_812 : (Cond.methodLink "BubbleBoxModel" (146 : Nat) ({ cls := "BubbleBoxModel", name := "isUsed", desc := "(I)Z" } : MethodName)) ∈ tables_1 := List.mem_of_getElem? (i := 812) (by decide +kernel)
theorem kw_813 : (Cond.privateMethod ({ cls := "BubbleBoxModel", name := "isUsed", desc := "(I)Z" } : MethodName)) ∈ tables_1 := List.mem_of_getElem? (i := 813) (by decide +kernel)
theorem kw_814 : (Cond.instanceMethod ({ cls := "BubbleBoxModel", name := "isUsed", desc := "(I)Z" } : MethodName)) ∈ tables_1 := List.mem_of_getElem? (i := 814) (by decide +kernel)
theorem kw_815 : (Cond.code ({ cls := "BubbleBoxModel", name := "isUsed", desc := "(I)Z" } : MethodName) prog_8_method_22_code (5 : Nat) (Option.some FieldType.boolean)) ∈ tables_1 := List.mem_of_getElem? (i := 815) (by decide +kernel)
theorem kw_816 : (Cond.methodLink "BubbleBoxLaw" (103 : Nat) ({ cls := "BubbleBoxModel", name := "mount", desc := "()Z" } : MethodName)) ∈ tables_1 := List.mem_of_getElem? (i := 816) (by decide +kernel)
theorem kw_817 : (Cond.instanceMethod ({ cls := "BubbleBoxModel", name := "mount", desc := "()Z" } : MethodName)) ∈ tables_1 := List.mem_of_getElem? (i := 817) (by decide +kernel)
theorem kw_818 : (Cond.selects "BubbleBoxModel" ({ cls := "BubbleBoxModel", name := "mount", desc := "()Z" } : MethodName) ({ cls := "BubbleBoxModel", name := "mount", desc := "()Z" } : MethodName)) ∈ tables_1 := List.mem_of_getElem? (i := 818) (by decide +kernel)
theorem kw_819 : (Cond.code ({ cls := "BubbleBoxModel", name := "mount", desc := "()Z" } : MethodName) prog_8_method_25_code (8 : Nat) (Option.some FieldType.boolean)) ∈ tables_1 := List.mem_of_getElem? (i := 819) (by decide +kernel)
theorem kw_820 : (Cond.methodLink "BubbleBoxModel" (153 : Nat) ({ cls := "BubbleBoxModel", name := "loadImage", desc := "(I)V" } : MethodName)) ∈ tables_1 := List.mem_of_getElem? (i := 820) (by decide +kernel)
theorem kw_821 : (Cond.privateMethod ({ cls := "BubbleBoxModel", name := "loadImage", desc := "(I)V" } : MethodName)) ∈ tables_1 := List.mem_of_getElem? (i := 821) (by decide +kernel)
theorem kw_822 : (Cond.instanceMethod ({ cls := "BubbleBoxModel", name := "loadImage", desc := "(I)V" } : MethodName)) ∈ tables_1 := List.mem_of_getElem? (i := 822) (by decide +kernel)
theorem kw_823 : (Cond.code ({ cls := "BubbleBoxModel", name := "loadImage", desc := "(I)V" } : MethodName) prog_8_method_23_code (3 : Nat) (Option.none : Option FieldType)) ∈ tables_1 := List.mem_of_getElem? (i := 823) (by decide +kernel)
theorem kw_824 : (Cond.methodLink "BubbleBoxModel" (156 : Nat) ({ cls := "BubbleBoxModel", name := "isValid", desc := "()Z" } : MethodName)) ∈ tables_1 := List.mem_of_getElem? (i := 824) (by decide +kernel)
theorem kw_825 : (Cond.privateMethod ({ cls := "BubbleBoxModel", name := "isValid", desc := "()Z" } : MethodName)) ∈ tables_1 := List.mem_of_getElem? (i := 825) (by decide +kernel)
theorem kw_826 : (Cond.instanceMethod ({ cls := "BubbleBoxModel", name := "isValid", desc := "()Z" } : MethodName)) ∈ tables_1 := List.mem_of_getElem? (i := 826) (by decide +kernel)
theorem kw_827 : (Cond.code ({ cls := "BubbleBoxModel", name := "isValid", desc := "()Z" } : MethodName) prog_8_method_24_code (1 : Nat) (Option.some FieldType.boolean)) ∈ tables_1 := List.mem_of_getElem? (i := 827) (by decide +kernel)
theorem kw_828 : (Cond.methodLink "BubbleBoxModel" (149 : Nat) ({ cls := "BubbleBoxModel", name := "getBytes", desc := "(II)I" } : MethodName)) ∈ tables_1 := List.mem_of_getElem? (i := 828) (by decide +kernel)
theorem kw_829 : (Cond.privateMethod ({ cls := "BubbleBoxModel", name := "getBytes", desc := "(II)I" } : MethodName)) ∈ tables_1 := List.mem_of_getElem? (i := 829) (by decide +kernel)
theorem kw_830 : (Cond.instanceMethod ({ cls := "BubbleBoxModel", name := "getBytes", desc := "(II)I" } : MethodName)) ∈ tables_1 := List.mem_of_getElem? (i := 830) (by decide +kernel)
theorem kw_831 : (Cond.code ({ cls := "BubbleBoxModel", name := "getBytes", desc := "(II)I" } : MethodName) prog_8_method_16_code (5 : Nat) (Option.some FieldType.int)) ∈ tables_1 := List.mem_of_getElem? (i := 831) (by decide +kernel)
theorem kw_832 : (Cond.methodLink "BubbleBoxLaw" (107 : Nat) ({ cls := "BubbleBoxModel", name := "create", desc := "(I)I" } : MethodName)) ∈ tables_1 := List.mem_of_getElem? (i := 832) (by decide +kernel)
theorem kw_833 : (Cond.instanceMethod ({ cls := "BubbleBoxModel", name := "create", desc := "(I)I" } : MethodName)) ∈ tables_1 := List.mem_of_getElem? (i := 833) (by decide +kernel)
theorem kw_834 : (Cond.selects "BubbleBoxModel" ({ cls := "BubbleBoxModel", name := "create", desc := "(I)I" } : MethodName) ({ cls := "BubbleBoxModel", name := "create", desc := "(I)I" } : MethodName)) ∈ tables_1 := List.mem_of_getElem? (i := 834) (by decide +kernel)
theorem kw_835 : (Cond.code ({ cls := "BubbleBoxModel", name := "create", desc := "(I)I" } : MethodName) prog_8_method_29_code (3 : Nat) (Option.some FieldType.int)) ∈ tables_1 := List.mem_of_getElem? (i := 835) (by decide +kernel)
theorem kw_836 : (Cond.methodLink "BubbleBoxModel" (160 : Nat) ({ cls := "BubbleBoxModel", name := "isReady", desc := "()Z" } : MethodName)) ∈ tables_1 := List.mem_of_getElem? (i := 836) (by decide +kernel)
theorem kw_837 : (Cond.privateMethod ({ cls := "BubbleBoxModel", name := "isReady", desc := "()Z" } : MethodName)) ∈ tables_1 := List.mem_of_getElem? (i := 837) (by decide +kernel)
theorem kw_838 : (Cond.instanceMethod ({ cls := "BubbleBoxModel", name := "isReady", desc := "()Z" } : MethodName)) ∈ tables_1 := List.mem_of_getElem? (i := 838) (by decide +kernel)
theorem kw_839 : (Cond.code ({ cls := "BubbleBoxModel", name := "isReady", desc := "()Z" } : MethodName) prog_8_method_26_code (1 : Nat) (Option.some FieldType.boolean)) ∈ tables_1 := List.mem_of_getElem? (i := 839) (by decide +kernel)
theorem kw_840 : (Cond.methodLink "BubbleBoxModel" (163 : Nat) ({ cls := "BubbleBoxModel", name := "numberOf", desc := "(I)I" } : MethodName)) ∈ tables_1 := List.mem_of_getElem? (i := 840) (by decide +kernel)
theorem kw_841 : (Cond.privateMethod ({ cls := "BubbleBoxModel", name := "numberOf", desc := "(I)I" } : MethodName)) ∈ tables_1 := List.mem_of_getElem? (i := 841) (by decide +kernel)
theorem kw_842 : (Cond.instanceMethod ({ cls := "BubbleBoxModel", name := "numberOf", desc := "(I)I" } : MethodName)) ∈ tables_1 := List.mem_of_getElem? (i := 842) (by decide +kernel)
theorem kw_843 : (Cond.code ({ cls := "BubbleBoxModel", name := "numberOf", desc := "(I)I" } : MethodName) prog_8_method_28_code (4 : Nat) (Option.some FieldType.int)) ∈ tables_1 := List.mem_of_getElem? (i := 843) (by decide +kernel)
theorem kw_844 : (Cond.methodLink "BubbleBoxLaw" (110 : Nat) ({ cls := "BubbleBoxModel", name := "find", desc := "(I)I" } : MethodName)) ∈ tables_1 := List.mem_of_getElem? (i := 844) (by decide +kernel)
theorem kw_845 : (Cond.instanceMethod ({ cls := "BubbleBoxModel", name := "find", desc := "(I)I" } : MethodName)) ∈ tables_1 := List.mem_of_getElem? (i := 845) (by decide +kernel)
theorem kw_846 : (Cond.selects "BubbleBoxModel" ({ cls := "BubbleBoxModel", name := "find", desc := "(I)I" } : MethodName) ({ cls := "BubbleBoxModel", name := "find", desc := "(I)I" } : MethodName)) ∈ tables_1 := List.mem_of_getElem? (i := 846) (by decide +kernel)
theorem kw_847 : (Cond.code ({ cls := "BubbleBoxModel", name := "find", desc := "(I)I" } : MethodName) prog_8_method_30_code (2 : Nat) (Option.some FieldType.int)) ∈ tables_1 := List.mem_of_getElem? (i := 847) (by decide +kernel)
theorem kw_848 : (Cond.methodLink "BubbleBoxLaw" (113 : Nat) ({ cls := "BubbleBoxModel", name := "length", desc := "(I)I" } : MethodName)) ∈ tables_1 := List.mem_of_getElem? (i := 848) (by decide +kernel)
theorem kw_849 : (Cond.instanceMethod ({ cls := "BubbleBoxModel", name := "length", desc := "(I)I" } : MethodName)) ∈ tables_1 := List.mem_of_getElem? (i := 849) (by decide +kernel)
theorem kw_850 : (Cond.selects "BubbleBoxModel" ({ cls := "BubbleBoxModel", name := "length", desc := "(I)I" } : MethodName) ({ cls := "BubbleBoxModel", name := "length", desc := "(I)I" } : MethodName)) ∈ tables_1 := List.mem_of_getElem? (i := 850) (by decide +kernel)
theorem kw_851 : (Cond.code ({ cls := "BubbleBoxModel", name := "length", desc := "(I)I" } : MethodName) prog_8_method_31_code (2 : Nat) (Option.some FieldType.int)) ∈ tables_1 := List.mem_of_getElem? (i := 851) (by decide +kernel)
theorem kw_852 : (Cond.methodLink "BubbleBoxModel" (166 : Nat) ({ cls := "BubbleBoxModel", name := "isFile", desc := "(I)Z" } : MethodName)) ∈ tables_1 := List.mem_of_getElem? (i := 852) (by decide +kernel)
theorem kw_853 : (Cond.privateMethod ({ cls := "BubbleBoxModel", name := "isFile", desc := "(I)Z" } : MethodName)) ∈ tables_1 := List.mem_of_getElem? (i := 853) (by decide +kernel)
theorem kw_854 : (Cond.instanceMethod ({ cls := "BubbleBoxModel", name := "isFile", desc := "(I)Z" } : MethodName)) ∈ tables_1 := List.mem_of_getElem? (i := 854) (by decide +kernel)
theorem kw_855 : (Cond.code ({ cls := "BubbleBoxModel", name := "isFile", desc := "(I)Z" } : MethodName) prog_8_method_27_code (2 : Nat) (Option.some FieldType.boolean)) ∈ tables_1 := List.mem_of_getElem? (i := 855) (by decide +kernel)
theorem kw_856 : (Cond.methodLink "BubbleBoxLaw" (117 : Nat) ({ cls := "BubbleBoxModel", name := "append", desc := "(II)I" } : MethodName)) ∈ tables_1 := List.mem_of_getElem? (i := 856) (by decide +kernel)
theorem kw_857 : (Cond.instanceMethod ({ cls := "BubbleBoxModel", name := "append", desc := "(II)I" } : MethodName)) ∈ tables_1 := List.mem_of_getElem? (i := 857) (by decide +kernel)
theorem kw_858 : (Cond.selects "BubbleBoxModel" ({ cls := "BubbleBoxModel", name := "append", desc := "(II)I" } : MethodName) ({ cls := "BubbleBoxModel", name := "append", desc := "(II)I" } : MethodName)) ∈ tables_1 := List.mem_of_getElem? (i := 858) (by decide +kernel)
theorem kw_859 : (Cond.code ({ cls := "BubbleBoxModel", name := "append", desc := "(II)I" } : MethodName) prog_8_method_36_code (8 : Nat) (Option.some FieldType.int)) ∈ tables_1 := List.mem_of_getElem? (i := 859) (by decide +kernel)
theorem kw_860 : (Cond.methodLink "BubbleBoxModel" (176 : Nat) ({ cls := "BubbleBoxModel", name := "leastFree", desc := "()I" } : MethodName)) ∈ tables_1 := List.mem_of_getElem? (i := 860) (by decide +kernel)
theorem kw_861 : (Cond.privateMethod ({ cls := "BubbleBoxModel", name := "leastFree", desc := "()I" } : MethodName)) ∈ tables_1 := List.mem_of_getElem? (i := 861) (by decide +kernel)
theorem kw_862 : (Cond.instanceMethod ({ cls := "BubbleBoxModel", name := "leastFree", desc := "()I" } : MethodName)) ∈ tables_1 := List.mem_of_getElem? (i := 862) (by decide +kernel)
theorem kw_863 : (Cond.code ({ cls := "BubbleBoxModel", name := "leastFree", desc := "()I" } : MethodName) prog_8_method_35_code (2 : Nat) (Option.some FieldType.int)) ∈ tables_1 := List.mem_of_getElem? (i := 863) (by decide +kernel)
theorem kw_864 : (Cond.methodLink "BubbleBoxModel" (173 : Nat) ({ cls := "BubbleBoxModel", name := "isFree", desc := "(I)Z" } : MethodName)) ∈ tables_1 := List.mem_of_getElem? (i := 864) (by decide +kernel)
theorem kw_865 : (Cond.privateMethod ({ cls := "BubbleBoxModel", name := "isFree", desc := "(I)Z" } : MethodName)) ∈ tables_1 := List.mem_of_getElem? (i := 865) (by decide +kernel)
theorem kw_866 : (Cond.instanceMethod ({ cls := "BubbleBoxModel", name := "isFree", desc := "(I)Z" } : MethodName)) ∈ tables_1 := List.mem_of_getElem? (i := 866) (by decide +kernel)
theorem kw_867 : (Cond.code ({ cls := "BubbleBoxModel", name := "isFree", desc := "(I)Z" } : MethodName) prog_8_method_34_code (2 : Nat) (Option.some FieldType.boolean)) ∈ tables_1 := List.mem_of_getElem? (i := 867) (by decide +kernel)
theorem kw_868 : (Cond.methodLink "BubbleBoxModel" (179 : Nat) ({ cls := "BubbleBoxModel", name := "load", desc := "(II)V" } : MethodName)) ∈ tables_1 := List.mem_of_getElem? (i := 868) (by decide +kernel)
theorem kw_869 : (Cond.privateMethod ({ cls := "BubbleBoxModel", name := "load", desc := "(II)V" } : MethodName)) ∈ tables_1 := List.mem_of_getElem? (i := 869) (by decide +kernel)
theorem kw_870 : (Cond.instanceMethod ({ cls := "BubbleBoxModel", name := "load", desc := "(II)V" } : MethodName)) ∈ tables_1 := List.mem_of_getElem? (i := 870) (by decide +kernel)
theorem kw_871 : (Cond.code ({ cls := "BubbleBoxModel", name := "load", desc := "(II)V" } : MethodName) prog_8_method_33_code (3 : Nat) (Option.none : Option FieldType)) ∈ tables_1 := List.mem_of_getElem? (i := 871) (by decide +kernel)
theorem kw_872 : (Cond.methodLink "BubbleBoxModel" (169 : Nat) ({ cls := "BubbleBoxModel", name := "read", desc := "(I)J" } : MethodName)) ∈ tables_1 := List.mem_of_getElem? (i := 872) (by decide +kernel)
theorem kw_873 : (Cond.privateMethod ({ cls := "BubbleBoxModel", name := "read", desc := "(I)J" } : MethodName)) ∈ tables_1 := List.mem_of_getElem? (i := 873) (by decide +kernel)
theorem kw_874 : (Cond.instanceMethod ({ cls := "BubbleBoxModel", name := "read", desc := "(I)J" } : MethodName)) ∈ tables_1 := List.mem_of_getElem? (i := 874) (by decide +kernel)
theorem kw_875 : (Cond.code ({ cls := "BubbleBoxModel", name := "read", desc := "(I)J" } : MethodName) prog_8_method_11_code (2 : Nat) (Option.some FieldType.long)) ∈ tables_1 := List.mem_of_getElem? (i := 875) (by decide +kernel)
theorem kw_876 : (Cond.constantLong "BubbleBoxModel" (183 : Nat) (-1 : Int64)) ∈ tables_1 := List.mem_of_getElem? (i := 876) (by decide +kernel)
theorem kw_877 : (Cond.methodLink "BubbleBoxLaw" (120 : Nat) ({ cls := "BubbleBoxModel", name := "byteAt", desc := "(II)I" } : MethodName)) ∈ tables_1 := List.mem_of_getElem? (i := 877) (by decide +kernel)
theorem kw_878 : (Cond.instanceMethod ({ cls := "BubbleBoxModel", name := "byteAt", desc := "(II)I" } : MethodName)) ∈ tables_1 := List.mem_of_getElem? (i := 878) (by decide +kernel)
theorem kw_879 : (Cond.selects "BubbleBoxModel" ({ cls := "BubbleBoxModel", name := "byteAt", desc := "(II)I" } : MethodName) ({ cls := "BubbleBoxModel", name := "byteAt", desc := "(II)I" } : MethodName)) ∈ tables_1 := List.mem_of_getElem? (i := 879) (by decide +kernel)
theorem kw_880 : (Cond.code ({ cls := "BubbleBoxModel", name := "byteAt", desc := "(II)I" } : MethodName) prog_8_method_37_code (3 : Nat) (Option.some FieldType.int)) ∈ tables_1 := List.mem_of_getElem? (i := 880) (by decide +kernel)
theorem kw_881 : (Cond.methodLink "BubbleBoxLaw" (123 : Nat) ({ cls := "BubbleBoxModel", name := "truncate", desc := "(II)I" } : MethodName)) ∈ tables_1 := List.mem_of_getElem? (i := 881) (by decide +kernel)
theorem kw_882 : (Cond.instanceMethod ({ cls := "BubbleBoxModel", name := "truncate", desc := "(II)I" } : MethodName)) ∈ tables_1 := List.mem_of_getElem? (i := 882) (by decide +kernel)
theorem kw_883 : (Cond.selects "BubbleBoxModel" ({ cls := "BubbleBoxModel", name := "truncate", desc := "(II)I" } : MethodName) ({ cls := "BubbleBoxModel", name := "truncate", desc := "(II)I" } : MethodName)) ∈ tables_1 := List.mem_of_getElem? (i := 883) (by decide +kernel)
theorem kw_884 : (Cond.code ({ cls := "BubbleBoxModel", name := "truncate", desc := "(II)I" } : MethodName) prog_8_method_39_code (3 : Nat) (Option.some FieldType.int)) ∈ tables_1 := List.mem_of_getElem? (i := 884) (by decide +kernel)
theorem kw_885 : (Cond.methodLink "BubbleBoxModel" (185 : Nat) ({ cls := "BubbleBoxModel", name := "shorten", desc := "(II)I" } : MethodName)) ∈ tables_1 := List.mem_of_getElem? (i := 885) (by decide +kernel)
theorem kw_886 : (Cond.privateMethod ({ cls := "BubbleBoxModel", name := "shorten", desc := "(II)I" } : MethodName)) ∈ tables_1 := List.mem_of_getElem? (i := 886) (by decide +kernel)
theorem kw_887 : (Cond.instanceMethod ({ cls := "BubbleBoxModel", name := "shorten", desc := "(II)I" } : MethodName)) ∈ tables_1 := List.mem_of_getElem? (i := 887) (by decide +kernel)
theorem kw_888 : (Cond.code ({ cls := "BubbleBoxModel", name := "shorten", desc := "(II)I" } : MethodName) prog_8_method_38_code (6 : Nat) (Option.some FieldType.int)) ∈ tables_1 := List.mem_of_getElem? (i := 888) (by decide +kernel)
theorem kw_889 : (Cond.methodLink "BubbleBoxLaw" (126 : Nat) ({ cls := "BubbleBoxModel", name := "remove", desc := "(I)I" } : MethodName)) ∈ tables_1 := List.mem_of_getElem? (i := 889) (by decide +kernel)
theorem kw_890 : (Cond.instanceMethod ({ cls := "BubbleBoxModel", name := "remove", desc := "(I)I" } : MethodName)) ∈ tables_1 := List.mem_of_getElem? (i := 890) (by decide +kernel)
theorem kw_891 : (Cond.selects "BubbleBoxModel" ({ cls := "BubbleBoxModel", name := "remove", desc := "(I)I" } : MethodName) ({ cls := "BubbleBoxModel", name := "remove", desc := "(I)I" } : MethodName)) ∈ tables_1 := List.mem_of_getElem? (i := 891) (by decide +kernel)
theorem kw_892 : (Cond.code ({ cls := "BubbleBoxModel", name := "remove", desc := "(I)I" } : MethodName) prog_8_method_40_code (3 : Nat) (Option.some FieldType.int)) ∈ tables_1 := List.mem_of_getElem? (i := 892) (by decide +kernel)
theorem kw_893 : (Cond.methodLink "BubbleBoxLaw" (129 : Nat) ({ cls := "BubbleBoxModel", name := "sync", desc := "()I" } : MethodName)) ∈ tables_1 := List.mem_of_getElem? (i := 893) (by decide +kernel)
theorem kw_894 : (Cond.instanceMethod ({ cls := "BubbleBoxModel", name := "sync", desc := "()I" } : MethodName)) ∈ tables_1 := List.mem_of_getElem? (i := 894) (by decide +kernel)
theorem kw_895 : (Cond.selects "BubbleBoxModel" ({ cls := "BubbleBoxModel", name := "sync", desc := "()I" } : MethodName) ({ cls := "BubbleBoxModel", name := "sync", desc := "()I" } : MethodName)) ∈ tables_1 := List.mem_of_getElem? (i := 895) (by decide +kernel)
theorem kw_896 : (Cond.code ({ cls := "BubbleBoxModel", name := "sync", desc := "()I" } : MethodName) prog_8_method_41_code (3 : Nat) (Option.some FieldType.int)) ∈ tables_1 := List.mem_of_getElem? (i := 896) (by decide +kernel)
theorem kw_897 : (Cond.methodLink "BubbleBoxLaw" (132 : Nat) ({ cls := "BubbleBoxModel", name := "free", desc := "()I" } : MethodName)) ∈ tables_1 := List.mem_of_getElem? (i := 897) (by decide +kernel)
theorem kw_898 : (Cond.instanceMethod ({ cls := "BubbleBoxModel", name := "free", desc := "()I" } : MethodName)) ∈ tables_1 := List.mem_of_getElem? (i := 898) (by decide +kernel)
theorem kw_899 : (Cond.selects "BubbleBoxModel" ({ cls := "BubbleBoxModel", name := "free", desc := "()I" } : MethodName) ({ cls := "BubbleBoxModel", name := "free", desc := "()I" } : MethodName)) ∈ tables_1 := List.mem_of_getElem? (i := 899) (by decide +kernel)
theorem kw_900 : (Cond.code ({ cls := "BubbleBoxModel", name := "free", desc := "()I" } : MethodName) prog_8_method_42_code (3 : Nat) (Option.some FieldType.int)) ∈ tables_1 := List.mem_of_getElem? (i := 900) (by decide +kernel)
theorem kw_901 : (Cond.methodLink "BubbleBoxLaw" (135 : Nat) ({ cls := "BubbleBoxModel", name := "pageOf", desc := "(II)I" } : MethodName)) ∈ tables_1 := List.mem_of_getElem? (i := 901) (by decide +kernel)
theorem kw_902 : (Cond.instanceMethod ({ cls := "BubbleBoxModel", name := "pageOf", desc := "(II)I" } : MethodName)) ∈ tables_1 := List.mem_of_getElem? (i := 902) (by decide +kernel)
theorem kw_903 : (Cond.selects "BubbleBoxModel" ({ cls := "BubbleBoxModel", name := "pageOf", desc := "(II)I" } : MethodName) ({ cls := "BubbleBoxModel", name := "pageOf", desc := "(II)I" } : MethodName)) ∈ tables_1 := List.mem_of_getElem? (i := 903) (by decide +kernel)
theorem kw_904 : (Cond.code ({ cls := "BubbleBoxModel", name := "pageOf", desc := "(II)I" } : MethodName) prog_8_method_43_code (3 : Nat) (Option.some FieldType.int)) ∈ tables_1 := List.mem_of_getElem? (i := 904) (by decide +kernel)
theorem kw_905 : (Cond.methodLink "BubbleBoxLaw" (141 : Nat) ({ cls := "BubbleBoxModel", name := "queue", desc := "(IZJ)I" } : MethodName)) ∈ tables_1 := List.mem_of_getElem? (i := 905) (by decide +kernel)
theorem kw_906 : (Cond.instanceMethod ({ cls := "BubbleBoxModel", name := "queue", desc := "(IZJ)I" } : MethodName)) ∈ tables_1 := List.mem_of_getElem? (i := 906) (by decide +kernel)
theorem kw_907 : (Cond.selects "BubbleBoxModel" ({ cls := "BubbleBoxModel", name := "queue", desc := "(IZJ)I" } : MethodName) ({ cls := "BubbleBoxModel", name := "queue", desc := "(IZJ)I" } : MethodName)) ∈ tables_1 := List.mem_of_getElem? (i := 907) (by decide +kernel)
theorem kw_908 : (Cond.code ({ cls := "BubbleBoxModel", name := "queue", desc := "(IZJ)I" } : MethodName) prog_8_method_44_code (5 : Nat) (Option.some FieldType.int)) ∈ tables_1 := List.mem_of_getElem? (i := 908) (by decide +kernel)
theorem kw_909 : (Cond.methodLink "BubbleBoxLaw" (144 : Nat) ({ cls := "BubbleBoxModel", name := "serve", desc := "()I" } : MethodName)) ∈ tables_1 := List.mem_of_getElem? (i := 909) (by decide +kernel)
theorem kw_910 : (Cond.instanceMethod ({ cls := "BubbleBoxModel", name := "serve", desc := "()I" } : MethodName)) ∈ tables_1 := List.mem_of_getElem? (i := 910) (by decide +kernel)
theorem kw_911 : (Cond.selects "BubbleBoxModel" ({ cls := "BubbleBoxModel", name := "serve", desc := "()I" } : MethodName) ({ cls := "BubbleBoxModel", name := "serve", desc := "()I" } : MethodName)) ∈ tables_1 := List.mem_of_getElem? (i := 911) (by decide +kernel)
theorem kw_912 : (Cond.code ({ cls := "BubbleBoxModel", name := "serve", desc := "()I" } : MethodName) prog_8_method_45_code (6 : Nat) (Option.some FieldType.int)) ∈ tables_1 := List.mem_of_getElem? (i := 912) (by decide +kernel)
theorem kw_913 : (Cond.methodLink "BubbleBoxLaw" (147 : Nat) ({ cls := "BubbleBoxModel", name := "served", desc := "(I)J" } : MethodName)) ∈ tables_1 := List.mem_of_getElem? (i := 913) (by decide +kernel)
theorem kw_914 : (Cond.instanceMethod ({ cls := "BubbleBoxModel", name := "served", desc := "(I)J" } : MethodName)) ∈ tables_1 := List.mem_of_getElem? (i := 914) (by decide +kernel)
theorem kw_915 : (Cond.selects "BubbleBoxModel" ({ cls := "BubbleBoxModel", name := "served", desc := "(I)J" } : MethodName) ({ cls := "BubbleBoxModel", name := "served", desc := "(I)J" } : MethodName)) ∈ tables_1 := List.mem_of_getElem? (i := 915) (by decide +kernel)
theorem kw_916 : (Cond.code ({ cls := "BubbleBoxModel", name := "served", desc := "(I)J" } : MethodName) prog_8_method_46_code (2 : Nat) (Option.some FieldType.long)) ∈ tables_1 := List.mem_of_getElem? (i := 916) (by decide +kernel)
theorem kw_917 : (Cond.constantLong "BubbleBoxLaw" (136 : Nat) (4294967295 : Int64)) ∈ tables_1 := List.mem_of_getElem? (i := 917) (by decide +kernel)
theorem kw_918 : (Cond.sameMethod "java/lang/Throwable" "java/lang/Throwable" "fillInStackTrace" "(I)Ljava/lang/Throwable;") ∈ tables_1 := List.mem_of_getElem? (i := 918) (by decide +kernel)
