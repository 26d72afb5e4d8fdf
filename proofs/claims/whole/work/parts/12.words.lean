def y_Arrays_fill : MethodName := ⟨"java/util/Arrays", "fill", "([II)V"⟩
abbrev ws_Arrays_fill : List Cond := Cond.code y_Arrays_fill prog_23_method_103_code 4 none :: gt
def y_Bytes_add : MethodName := ⟨"FreeWavelets$Bytes", "add", "(I)V"⟩
abbrev ws_Bytes_add : List Cond := Cond.code y_Bytes_add prog_2_method_5_code 2 none :: gt
def y_Bytes_get : MethodName := ⟨"FreeWavelets$Bytes", "get", "(I)I"⟩
abbrev ws_Bytes_get : List Cond := Cond.code y_Bytes_get prog_2_method_3_code 2 (some .int) :: gt
def y_Bytes_has : MethodName := ⟨"FreeWavelets$Bytes", "has", "(I)Z"⟩
abbrev ws_Bytes_has : List Cond := Cond.code y_Bytes_has prog_2_method_2_code 2 (some .boolean) :: gt
def y_Bytes_set : MethodName := ⟨"FreeWavelets$Bytes", "set", "(II)V"⟩
abbrev ws_Bytes_set : List Cond := Cond.code y_Bytes_set prog_2_method_4_code 3 none :: gt
def y_Eye_pick : MethodName := ⟨"FreeWavelets$Eye", "pick", "(I)I"⟩
abbrev ws_Eye_pick : List Cond := Cond.code y_Eye_pick prog_3_method_3_code 2 (some .int) :: gt
def y_Eye_start : MethodName := ⟨"FreeWavelets$Eye", "start", "(I)V"⟩
abbrev ws_Eye_start : List Cond := Cond.code y_Eye_start prog_3_method_2_code 2 none :: gt
def y_FW_bitsOf : MethodName := ⟨"FreeWavelets", "bitsOf", "(I)I"⟩
abbrev ws_FW_bitsOf : List Cond := Cond.code y_FW_bitsOf prog_1_method_23_code 2 (some .int) :: gt
def y_FW_clear : MethodName := ⟨"FreeWavelets", "clear", "()V"⟩
abbrev ws_FW_clear : List Cond := Cond.code y_FW_clear prog_1_method_16_code 1 none :: gt
def y_FW_columnOf : MethodName := ⟨"FreeWavelets", "columnOf", "(I)I"⟩
abbrev ws_FW_columnOf : List Cond := Cond.code y_FW_columnOf prog_1_method_21_code 1 (some .int) :: gt
def y_FW_headBits : MethodName := ⟨"FreeWavelets", "headBits", "()I"⟩
abbrev ws_FW_headBits : List Cond := Cond.code y_FW_headBits prog_1_method_17_code 1 (some .int) :: gt
def y_FW_nearestSide : MethodName := ⟨"FreeWavelets", "nearestSide", "(I)I"⟩
abbrev ws_FW_nearestSide : List Cond := Cond.code y_FW_nearestSide prog_1_method_19_code 1 (some .int) :: gt
def y_FW_rowOf : MethodName := ⟨"FreeWavelets", "rowOf", "(I)I"⟩
abbrev ws_FW_rowOf : List Cond := Cond.code y_FW_rowOf prog_1_method_22_code 1 (some .int) :: gt
def y_FW_sampleOf : MethodName := ⟨"FreeWavelets", "sampleOf", "(II)I"⟩
abbrev ws_FW_sampleOf : List Cond := Cond.code y_FW_sampleOf prog_1_method_20_code 2 (some .int) :: gt
def y_FW_told : MethodName := ⟨"FreeWavelets", "told", "(I)I"⟩
abbrev ws_FW_told : List Cond := Cond.code y_FW_told prog_1_method_15_code 2 (some .int) :: gt
def y_FW_toldOfSeen : MethodName := ⟨"FreeWavelets", "toldOfSeen", "(I)I"⟩
abbrev ws_FW_toldOfSeen : List Cond := Cond.code y_FW_toldOfSeen prog_1_method_18_code 2 (some .int) :: gt
def y_Head_read : MethodName := ⟨"FreeWavelets$Head", "read", "(LFreeWavelets$Tape;LFreeWavelets$Picture;)Z"⟩
abbrev ws_Head_read : List Cond := Cond.code y_Head_read prog_4_method_3_code 5 (some .boolean) :: gt
def y_Head_readRun : MethodName := ⟨"FreeWavelets$Head", "readRun", "(LFreeWavelets$Tape;)I"⟩
abbrev ws_Head_readRun : List Cond := Cond.code y_Head_readRun prog_4_method_6_code 4 (some .int) :: gt
def y_Head_readRuns : MethodName := ⟨"FreeWavelets$Head", "readRuns", "(LFreeWavelets$Tape;LFreeWavelets$Shape;)Z"⟩
abbrev ws_Head_readRuns : List Cond := Cond.code y_Head_readRuns prog_4_method_5_code 6 (some .boolean) :: gt
def y_Head_write : MethodName := ⟨"FreeWavelets$Head", "write", "(LFreeWavelets$Tape;LFreeWavelets$Picture;)V"⟩
abbrev ws_Head_write : List Cond := Cond.code y_Head_write prog_4_method_2_code 7 none :: gt
def y_Head_writeRun : MethodName := ⟨"FreeWavelets$Head", "writeRun", "(LFreeWavelets$Tape;I)V"⟩
abbrev ws_Head_writeRun : List Cond := Cond.code y_Head_writeRun prog_4_method_4_code 3 none :: gt
def y_Lifting_back : MethodName := ⟨"FreeWavelets$Lifting", "back", "()V"⟩
abbrev ws_Lifting_back : List Cond := Cond.code y_Lifting_back prog_5_method_3_code 2 none :: gt
def y_Lifting_change : MethodName := ⟨"FreeWavelets$Lifting", "change", "(IIIII)I"⟩
abbrev ws_Lifting_change : List Cond := Cond.code y_Lifting_change prog_5_method_5_code 11 (some .int) :: gt
def y_Lifting_forth : MethodName := ⟨"FreeWavelets$Lifting", "forth", "()V"⟩
abbrev ws_Lifting_forth : List Cond := Cond.code y_Lifting_forth prog_5_method_2_code 2 none :: gt
def y_Lifting_sweep : MethodName := ⟨"FreeWavelets$Lifting", "sweep", "(IZII)V"⟩
abbrev ws_Lifting_sweep : List Cond := Cond.code y_Lifting_sweep prog_5_method_4_code 11 none :: gt
def y_Md_alter : MethodName := ⟨"FreeWaveletsModel", "alter", "(II)I"⟩
abbrev ws_Md_alter : List Cond := Cond.code y_Md_alter prog_12_method_33_code 4 (some .int) :: gt
def y_Md_around : MethodName := ⟨"FreeWaveletsModel", "around", "([I[IIIZ)I"⟩
abbrev ws_Md_around : List Cond := Cond.code y_Md_around prog_12_method_8_code 9 (some .int) :: gt
def y_Md_at : MethodName := ⟨"FreeWaveletsModel", "at", "(II)I"⟩
abbrev ws_Md_at : List Cond := Cond.code y_Md_at prog_12_method_38_code 3 (some .int) :: gt
def y_Md_begin : MethodName := ⟨"FreeWaveletsModel", "begin", "(II)V"⟩
abbrev ws_Md_begin : List Cond := Cond.code y_Md_begin prog_12_method_23_code 4 none :: gt
def y_Md_beside : MethodName := ⟨"FreeWaveletsModel", "beside", "(II)I"⟩
abbrev ws_Md_beside : List Cond := Cond.code y_Md_beside prog_12_method_6_code 4 (some .int) :: gt
def y_Md_bit : MethodName := ⟨"FreeWaveletsModel", "bit", "(I)I"⟩
abbrev ws_Md_bit : List Cond := Cond.code y_Md_bit prog_12_method_15_code 3 (some .int) :: gt
def y_Md_byteAt : MethodName := ⟨"FreeWaveletsModel", "byteAt", "(I)I"⟩
abbrev ws_Md_byteAt : List Cond := Cond.code y_Md_byteAt prog_12_method_28_code 2 (some .int) :: gt
def y_Md_clear : MethodName := ⟨"FreeWaveletsModel", "clear", "()V"⟩
abbrev ws_Md_clear : List Cond := Cond.code y_Md_clear prog_12_method_43_code 2 none :: gt
def y_Md_decode : MethodName := ⟨"FreeWaveletsModel", "decode", "(I)I"⟩
abbrev ws_Md_decode : List Cond := Cond.code y_Md_decode prog_12_method_37_code 4 (some .int) :: gt
def y_Md_encode : MethodName := ⟨"FreeWaveletsModel", "encode", "(I)I"⟩
abbrev ws_Md_encode : List Cond := Cond.code y_Md_encode prog_12_method_26_code 4 (some .int) :: gt
def y_Md_error : MethodName := ⟨"FreeWaveletsModel", "error", "(II)J"⟩
abbrev ws_Md_error : List Cond := Cond.code y_Md_error prog_12_method_30_code 9 (some .long) :: gt
def y_Md_feed : MethodName := ⟨"FreeWaveletsModel", "feed", "(I)I"⟩
abbrev ws_Md_feed : List Cond := Cond.code y_Md_feed prog_12_method_31_code 2 (some .int) :: gt
def y_Md_goSample : MethodName := ⟨"FreeWaveletsModel", "goSample", "(I[IIZ)Z"⟩
abbrev ws_Md_goSample : List Cond := Cond.code y_Md_goSample prog_12_method_22_code 6 (some .boolean) :: gt
def y_Md_goSquare : MethodName := ⟨"FreeWaveletsModel", "goSquare", "([Z[III)Z"⟩
abbrev ws_Md_goSquare : List Cond := Cond.code y_Md_goSquare prog_12_method_21_code 12 (some .boolean) :: gt
def y_Md_goThrough : MethodName := ⟨"FreeWaveletsModel", "goThrough", "([Z[II)V"⟩
abbrev ws_Md_goThrough : List Cond := Cond.code y_Md_goThrough prog_12_method_24_code 7 none :: gt
def y_Md_greatest : MethodName := ⟨"FreeWaveletsModel", "greatest", "([Z[IIII)I"⟩
abbrev ws_Md_greatest : List Cond := Cond.code y_Md_greatest prog_12_method_20_code 8 (some .int) :: gt
def y_Md_headBits : MethodName := ⟨"FreeWaveletsModel", "headBits", "()I"⟩
abbrev ws_Md_headBits : List Cond := Cond.code y_Md_headBits prog_12_method_41_code 1 (some .int) :: gt
def y_Md_hear : MethodName := ⟨"FreeWaveletsModel", "hear", "(I)I"⟩
abbrev ws_Md_hear : List Cond := Cond.code y_Md_hear prog_12_method_34_code 5 (some .int) :: gt
def y_Md_hearHead : MethodName := ⟨"FreeWaveletsModel", "hearHead", "()Z"⟩
abbrev ws_Md_hearHead : List Cond := Cond.code y_Md_hearHead prog_12_method_36_code 8 (some .boolean) :: gt
def y_Md_hearRun : MethodName := ⟨"FreeWaveletsModel", "hearRun", "()I"⟩
abbrev ws_Md_hearRun : List Cond := Cond.code y_Md_hearRun prog_12_method_35_code 4 (some .int) :: gt
def y_Md_isCut : MethodName := ⟨"FreeWaveletsModel", "isCut", "(I)Z"⟩
abbrev ws_Md_isCut : List Cond := Cond.code y_Md_isCut prog_12_method_25_code 1 (some .boolean) :: gt
def y_Md_isSample : MethodName := ⟨"FreeWaveletsModel", "isSample", "(II)Z"⟩
abbrev ws_Md_isSample : List Cond := Cond.code y_Md_isSample prog_12_method_3_code 3 (some .boolean) :: gt
def y_Md_level : MethodName := ⟨"FreeWaveletsModel", "level", "(I)I"⟩
abbrev ws_Md_level : List Cond := Cond.code y_Md_level prog_12_method_18_code 1 (some .int) :: gt
def y_Md_lift : MethodName := ⟨"FreeWaveletsModel", "lift", "([I[IIZZZ)V"⟩
abbrev ws_Md_lift : List Cond := Cond.code y_Md_lift prog_12_method_9_code 12 none :: gt
def y_Md_liftBack : MethodName := ⟨"FreeWaveletsModel", "liftBack", "([I[I)V"⟩
abbrev ws_Md_liftBack : List Cond := Cond.code y_Md_liftBack prog_12_method_11_code 4 none :: gt
def y_Md_makeWaves : MethodName := ⟨"FreeWaveletsModel", "makeWaves", "()I"⟩
abbrev ws_Md_makeWaves : List Cond := Cond.code y_Md_makeWaves prog_12_method_10_code 4 (some .int) :: gt
def y_Md_many : MethodName := ⟨"FreeWaveletsModel", "many", "([Z)I"⟩
abbrev ws_Md_many : List Cond := Cond.code y_Md_many prog_12_method_40_code 3 (some .int) :: gt
def y_Md_mask : MethodName := ⟨"FreeWaveletsModel", "mask", "(IIIZ)I"⟩
abbrev ws_Md_mask : List Cond := Cond.code y_Md_mask prog_12_method_4_code 7 (some .int) :: gt
def y_Md_number : MethodName := ⟨"FreeWaveletsModel", "number", "([Z[I)I"⟩
abbrev ws_Md_number : List Cond := Cond.code y_Md_number prog_12_method_7_code 9 (some .int) :: gt
def y_Md_part : MethodName := ⟨"FreeWaveletsModel", "part", "(II)I"⟩
abbrev ws_Md_part : List Cond := Cond.code y_Md_part prog_12_method_39_code 7 (some .int) :: gt
def y_Md_pass : MethodName := ⟨"FreeWaveletsModel", "pass", "(II)I"⟩
abbrev ws_Md_pass : List Cond := Cond.code y_Md_pass prog_12_method_32_code 5 (some .int) :: gt
def y_Md_planesNow : MethodName := ⟨"FreeWaveletsModel", "planesNow", "()I"⟩
abbrev ws_Md_planesNow : List Cond := Cond.code y_Md_planesNow prog_12_method_14_code 3 (some .int) :: gt
def y_Md_put : MethodName := ⟨"FreeWaveletsModel", "put", "(IIII)I"⟩
abbrev ws_Md_put : List Cond := Cond.code y_Md_put prog_12_method_5_code 7 (some .int) :: gt
def y_Md_sample : MethodName := ⟨"FreeWaveletsModel", "sample", "(II)I"⟩
abbrev ws_Md_sample : List Cond := Cond.code y_Md_sample prog_12_method_19_code 4 (some .int) :: gt
def y_Md_size : MethodName := ⟨"FreeWaveletsModel", "size", "(I)I"⟩
abbrev ws_Md_size : List Cond := Cond.code y_Md_size prog_12_method_13_code 1 (some .int) :: gt
def y_Md_streamBytes : MethodName := ⟨"FreeWaveletsModel", "streamBytes", "()I"⟩
abbrev ws_Md_streamBytes : List Cond := Cond.code y_Md_streamBytes prog_12_method_27_code 1 (some .int) :: gt
def y_Md_tell : MethodName := ⟨"FreeWaveletsModel", "tell", "(II)Z"⟩
abbrev ws_Md_tell : List Cond := Cond.code y_Md_tell prog_12_method_16_code 5 (some .boolean) :: gt
def y_Md_tellHead : MethodName := ⟨"FreeWaveletsModel", "tellHead", "()V"⟩
abbrev ws_Md_tellHead : List Cond := Cond.code y_Md_tellHead prog_12_method_17_code 7 none :: gt
def y_Md_thrown : MethodName := ⟨"FreeWaveletsModel", "thrown", "()I"⟩
abbrev ws_Md_thrown : List Cond := Cond.code y_Md_thrown prog_12_method_2_code 1 (some .int) :: gt
def y_Md_told : MethodName := ⟨"FreeWaveletsModel", "told", "(I)I"⟩
abbrev ws_Md_told : List Cond := Cond.code y_Md_told prog_12_method_42_code 3 (some .int) :: gt
def y_Md_wave : MethodName := ⟨"FreeWaveletsModel", "wave", "(II)I"⟩
abbrev ws_Md_wave : List Cond := Cond.code y_Md_wave prog_12_method_12_code 4 (some .int) :: gt
def y_Md_zeros : MethodName := ⟨"FreeWaveletsModel", "zeros", "(I)I"⟩
abbrev ws_Md_zeros : List Cond := Cond.code y_Md_zeros prog_12_method_29_code 2 (some .int) :: gt
def y_Pen_pick : MethodName := ⟨"FreeWavelets$Pen", "pick", "(I)I"⟩
abbrev ws_Pen_pick : List Cond := Cond.code y_Pen_pick prog_6_method_3_code 3 (some .int) :: gt
def y_Pen_start : MethodName := ⟨"FreeWavelets$Pen", "start", "(I)V"⟩
abbrev ws_Pen_start : List Cond := Cond.code y_Pen_start prog_6_method_2_code 2 none :: gt
def y_Picture_begin : MethodName := ⟨"FreeWavelets$Picture", "begin", "(III)V"⟩
abbrev ws_Picture_begin : List Cond := Cond.code y_Picture_begin prog_7_method_5_code 4 none :: gt
def y_Picture_coverRun : MethodName := ⟨"FreeWavelets$Picture", "coverRun", "(IIIZ)I"⟩
abbrev ws_Picture_coverRun : List Cond := Cond.code y_Picture_coverRun prog_7_method_2_code 9 (some .int) :: gt
def y_Picture_distance : MethodName := ⟨"FreeWavelets$Picture", "distance", "([II)J"⟩
abbrev ws_Picture_distance : List Cond := Cond.code y_Picture_distance prog_7_method_7_code 8 (some .long) :: gt
def y_Picture_fillRun : MethodName := ⟨"FreeWavelets$Picture", "fillRun", "(IIII)I"⟩
abbrev ws_Picture_fillRun : List Cond := Cond.code y_Picture_fillRun prog_7_method_3_code 9 (some .int) :: gt
def y_Picture_renew : MethodName := ⟨"FreeWavelets$Picture", "renew", "()V"⟩
abbrev ws_Picture_renew : List Cond := Cond.code y_Picture_renew prog_7_method_4_code 3 none :: gt
def y_Picture_restore : MethodName := ⟨"FreeWavelets$Picture", "restore", "([I)V"⟩
abbrev ws_Picture_restore : List Cond := Cond.code y_Picture_restore prog_7_method_6_code 3 none :: gt
def y_Picture_wipe : MethodName := ⟨"FreeWavelets$Picture", "wipe", "()V"⟩
abbrev ws_Picture_wipe : List Cond := Cond.code y_Picture_wipe prog_7_method_8_code 1 none :: gt
def y_Shape_findParts : MethodName := ⟨"FreeWavelets$Shape", "findParts", "()V"⟩
abbrev ws_Shape_findParts : List Cond := Cond.code y_Shape_findParts prog_8_method_5_code 4 none :: gt
def y_Shape_has : MethodName := ⟨"FreeWavelets$Shape", "has", "(II)Z"⟩
abbrev ws_Shape_has : List Cond := Cond.code y_Shape_has prog_8_method_3_code 3 (some .boolean) :: gt
def y_Shape_join : MethodName := ⟨"FreeWavelets$Shape", "join", "(II)I"⟩
abbrev ws_Shape_join : List Cond := Cond.code y_Shape_join prog_8_method_7_code 3 (some .int) :: gt
def y_Shape_partHere : MethodName := ⟨"FreeWavelets$Shape", "partHere", "(II)I"⟩
abbrev ws_Shape_partHere : List Cond := Cond.code y_Shape_partHere prog_8_method_4_code 3 (some .int) :: gt
def y_Shape_resize : MethodName := ⟨"FreeWavelets$Shape", "resize", "(II)V"⟩
abbrev ws_Shape_resize : List Cond := Cond.code y_Shape_resize prog_8_method_2_code 4 none :: gt
def y_Shape_spread : MethodName := ⟨"FreeWavelets$Shape", "spread", "(I)V"⟩
abbrev ws_Shape_spread : List Cond := Cond.code y_Shape_spread prog_8_method_6_code 7 none :: gt
def y_Tape_hear : MethodName := ⟨"FreeWavelets$Tape", "hear", "(I)I"⟩
abbrev ws_Tape_hear : List Cond := Cond.code y_Tape_hear prog_9_method_6_code 5 (some .int) :: gt
def y_Tape_next : MethodName := ⟨"FreeWavelets$Tape", "next", "(I)I"⟩
abbrev ws_Tape_next : List Cond := Cond.code y_Tape_next prog_9_method_3_code 3 (some .int) :: gt
def y_Tape_pick : MethodName := ⟨"FreeWavelets$Tape", "pick", "(I)I"⟩
abbrev ws_Tape_pick : List Cond := Cond.code y_Tape_pick prog_9_method_4_code 2 (some .int) :: gt
def y_Tape_say : MethodName := ⟨"FreeWavelets$Tape", "say", "(II)V"⟩
abbrev ws_Tape_say : List Cond := Cond.code y_Tape_say prog_9_method_5_code 4 none :: gt
def y_Tape_start : MethodName := ⟨"FreeWavelets$Tape", "start", "(I)V"⟩
abbrev ws_Tape_start : List Cond := Cond.code y_Tape_start prog_9_method_2_code 2 none :: gt
def y_Walk_forget : MethodName := ⟨"FreeWavelets$Walk", "forget", "()V"⟩
abbrev ws_Walk_forget : List Cond := Cond.code y_Walk_forget prog_10_method_3_code 2 none :: gt
def y_Walk_go : MethodName := ⟨"FreeWavelets$Walk", "go", "()V"⟩
abbrev ws_Walk_go : List Cond := Cond.code y_Walk_go prog_10_method_2_code 2 none :: gt
def y_Walk_goThrough : MethodName := ⟨"FreeWavelets$Walk", "goThrough", "(III)V"⟩
abbrev ws_Walk_goThrough : List Cond := Cond.code y_Walk_goThrough prog_10_method_7_code 7 none :: gt
def y_Walk_greatestBelow : MethodName := ⟨"FreeWavelets$Walk", "greatestBelow", "(III)I"⟩
abbrev ws_Walk_greatestBelow : List Cond := Cond.code y_Walk_greatestBelow prog_10_method_5_code 7 (some .int) :: gt
def y_Walk_learn : MethodName := ⟨"FreeWavelets$Walk", "learn", "(IZ)V"⟩
abbrev ws_Walk_learn : List Cond := Cond.code y_Walk_learn prog_10_method_9_code 6 none :: gt
def y_Walk_measure : MethodName := ⟨"FreeWavelets$Walk", "measure", "()V"⟩
abbrev ws_Walk_measure : List Cond := Cond.code y_Walk_measure prog_10_method_4_code 5 none :: gt
def y_Walk_opens : MethodName := ⟨"FreeWavelets$Walk", "opens", "(II)Z"⟩
abbrev ws_Walk_opens : List Cond := Cond.code y_Walk_opens prog_10_method_8_code 4 (some .boolean) :: gt
def y_Walk_squareOf : MethodName := ⟨"FreeWavelets$Walk", "squareOf", "(III)I"⟩
abbrev ws_Walk_squareOf : List Cond := Cond.code y_Walk_squareOf prog_10_method_6_code 3 (some .int) :: gt
theorem k_0 : Cond.selects "FreeWavelets$Shape" ⟨"FreeWavelets$Shape", "spread", "(I)V"⟩ ⟨"FreeWavelets$Shape", "spread", "(I)V"⟩ ∈ gt := mem_gt (List.mem_of_getElem? (i := 0) (by decide +kernel)) rfl
theorem k_1 : Cond.selects "FreeWavelets$Shape" ⟨"FreeWavelets$Shape", "join", "(II)I"⟩ ⟨"FreeWavelets$Shape", "join", "(II)I"⟩ ∈ gt := mem_gt (List.mem_of_getElem? (i := 1) (by decide +kernel)) rfl
theorem k_2 : Cond.selects "FreeWavelets$Lifting" ⟨"FreeWavelets$Lifting", "sweep", "(IZII)V"⟩ ⟨"FreeWavelets$Lifting", "sweep", "(IZII)V"⟩ ∈ gt := mem_gt (List.mem_of_getElem? (i := 2) (by decide +kernel)) rfl
theorem k_3 : Cond.selects "FreeWavelets$Lifting" ⟨"FreeWavelets$Lifting", "change", "(IIIII)I"⟩ ⟨"FreeWavelets$Lifting", "change", "(IIIII)I"⟩ ∈ gt := mem_gt (List.mem_of_getElem? (i := 3) (by decide +kernel)) rfl
theorem k_4 : Cond.selects "FreeWavelets" ⟨"FreeWavelets", "headBits", "()I"⟩ ⟨"FreeWavelets", "headBits", "()I"⟩ ∈ gt := mem_gt (List.mem_of_getElem? (i := 4) (by decide +kernel)) rfl
theorem k_5 : Cond.selects "FreeWavelets" ⟨"FreeWavelets", "toldOfSeen", "(I)I"⟩ ⟨"FreeWavelets", "toldOfSeen", "(I)I"⟩ ∈ gt := mem_gt (List.mem_of_getElem? (i := 5) (by decide +kernel)) rfl
theorem k_7 : Cond.selects "FreeWavelets$Walk" ⟨"FreeWavelets$Walk", "measure", "()V"⟩ ⟨"FreeWavelets$Walk", "measure", "()V"⟩ ∈ gt := mem_gt (List.mem_of_getElem? (i := 7) (by decide +kernel)) rfl
theorem k_8 : Cond.selects "FreeWavelets$Walk" ⟨"FreeWavelets$Walk", "greatestBelow", "(III)I"⟩ ⟨"FreeWavelets$Walk", "greatestBelow", "(III)I"⟩ ∈ gt := mem_gt (List.mem_of_getElem? (i := 8) (by decide +kernel)) rfl
theorem k_9 : Cond.selects "FreeWavelets$Walk" ⟨"FreeWavelets$Walk", "goThrough", "(III)V"⟩ ⟨"FreeWavelets$Walk", "goThrough", "(III)V"⟩ ∈ gt := mem_gt (List.mem_of_getElem? (i := 9) (by decide +kernel)) rfl
theorem k_10 : Cond.selects "FreeWavelets$Walk" ⟨"FreeWavelets$Walk", "opens", "(II)Z"⟩ ⟨"FreeWavelets$Walk", "opens", "(II)Z"⟩ ∈ gt := mem_gt (List.mem_of_getElem? (i := 10) (by decide +kernel)) rfl
theorem k_11 : Cond.selects "FreeWavelets$Walk" ⟨"FreeWavelets$Walk", "learn", "(IZ)V"⟩ ⟨"FreeWavelets$Walk", "learn", "(IZ)V"⟩ ∈ gt := mem_gt (List.mem_of_getElem? (i := 11) (by decide +kernel)) rfl
theorem k_12 : Cond.selects "FreeWaveletsModel" ⟨"FreeWaveletsModel", "isSample", "(II)Z"⟩ ⟨"FreeWaveletsModel", "isSample", "(II)Z"⟩ ∈ gt := mem_gt (List.mem_of_getElem? (i := 12) (by decide +kernel)) rfl
theorem k_13 : Cond.selects "FreeWaveletsModel" ⟨"FreeWaveletsModel", "makeWaves", "()I"⟩ ⟨"FreeWaveletsModel", "makeWaves", "()I"⟩ ∈ gt := mem_gt (List.mem_of_getElem? (i := 13) (by decide +kernel)) rfl
theorem k_14 : Cond.selects "FreeWaveletsModel" ⟨"FreeWaveletsModel", "number", "([Z[I)I"⟩ ⟨"FreeWaveletsModel", "number", "([Z[I)I"⟩ ∈ gt := mem_gt (List.mem_of_getElem? (i := 14) (by decide +kernel)) rfl
theorem k_15 : Cond.selects "FreeWaveletsModel" ⟨"FreeWaveletsModel", "begin", "(II)V"⟩ ⟨"FreeWaveletsModel", "begin", "(II)V"⟩ ∈ gt := mem_gt (List.mem_of_getElem? (i := 15) (by decide +kernel)) rfl
theorem k_16 : Cond.selects "FreeWaveletsModel" ⟨"FreeWaveletsModel", "tellHead", "()V"⟩ ⟨"FreeWaveletsModel", "tellHead", "()V"⟩ ∈ gt := mem_gt (List.mem_of_getElem? (i := 16) (by decide +kernel)) rfl
theorem k_17 : Cond.selects "FreeWaveletsModel" ⟨"FreeWaveletsModel", "tell", "(II)Z"⟩ ⟨"FreeWaveletsModel", "tell", "(II)Z"⟩ ∈ gt := mem_gt (List.mem_of_getElem? (i := 17) (by decide +kernel)) rfl
theorem k_18 : Cond.selects "FreeWaveletsModel" ⟨"FreeWaveletsModel", "bit", "(I)I"⟩ ⟨"FreeWaveletsModel", "bit", "(I)I"⟩ ∈ gt := mem_gt (List.mem_of_getElem? (i := 18) (by decide +kernel)) rfl
theorem k_19 : Cond.selects "FreeWaveletsModel" ⟨"FreeWaveletsModel", "planesNow", "()I"⟩ ⟨"FreeWaveletsModel", "planesNow", "()I"⟩ ∈ gt := mem_gt (List.mem_of_getElem? (i := 19) (by decide +kernel)) rfl
theorem k_20 : Cond.selects "FreeWaveletsModel" ⟨"FreeWaveletsModel", "goThrough", "([Z[II)V"⟩ ⟨"FreeWaveletsModel", "goThrough", "([Z[II)V"⟩ ∈ gt := mem_gt (List.mem_of_getElem? (i := 20) (by decide +kernel)) rfl
theorem k_21 : Cond.selects "FreeWaveletsModel" ⟨"FreeWaveletsModel", "goSquare", "([Z[III)Z"⟩ ⟨"FreeWaveletsModel", "goSquare", "([Z[III)Z"⟩ ∈ gt := mem_gt (List.mem_of_getElem? (i := 21) (by decide +kernel)) rfl
theorem k_22 : Cond.selects "FreeWaveletsModel" ⟨"FreeWaveletsModel", "goSample", "(I[IIZ)Z"⟩ ⟨"FreeWaveletsModel", "goSample", "(I[IIZ)Z"⟩ ∈ gt := mem_gt (List.mem_of_getElem? (i := 22) (by decide +kernel)) rfl
theorem k_23 : Cond.selects "FreeWaveletsModel" ⟨"FreeWaveletsModel", "streamBytes", "()I"⟩ ⟨"FreeWaveletsModel", "streamBytes", "()I"⟩ ∈ gt := mem_gt (List.mem_of_getElem? (i := 23) (by decide +kernel)) rfl
theorem k_24 : Cond.selects "FreeWaveletsModel" ⟨"FreeWaveletsModel", "hearHead", "()Z"⟩ ⟨"FreeWaveletsModel", "hearHead", "()Z"⟩ ∈ gt := mem_gt (List.mem_of_getElem? (i := 24) (by decide +kernel)) rfl
theorem k_25 : Cond.selects "FreeWaveletsModel" ⟨"FreeWaveletsModel", "hear", "(I)I"⟩ ⟨"FreeWaveletsModel", "hear", "(I)I"⟩ ∈ gt := mem_gt (List.mem_of_getElem? (i := 25) (by decide +kernel)) rfl
theorem k_26 : Cond.selects "FreeWaveletsModel" ⟨"FreeWaveletsModel", "hearRun", "()I"⟩ ⟨"FreeWaveletsModel", "hearRun", "()I"⟩ ∈ gt := mem_gt (List.mem_of_getElem? (i := 26) (by decide +kernel)) rfl
theorem k_27 : Cond.selects "FreeWaveletsModel" ⟨"FreeWaveletsModel", "headBits", "()I"⟩ ⟨"FreeWaveletsModel", "headBits", "()I"⟩ ∈ gt := mem_gt (List.mem_of_getElem? (i := 27) (by decide +kernel)) rfl
theorem k_29 : Cond.initialized "FreeWavelets" ∈ gt := mem_gt (List.mem_of_getElem? (i := 29) (by decide +kernel)) rfl
theorem k_30 : Cond.initialized "FreeWavelets$Picture" ∈ gt := mem_gt (List.mem_of_getElem? (i := 30) (by decide +kernel)) rfl
theorem k_31 : Cond.initialized "FreeWavelets$Shape" ∈ gt := mem_gt (List.mem_of_getElem? (i := 31) (by decide +kernel)) rfl
theorem k_32 : Cond.initialized "FreeWavelets$Lifting" ∈ gt := mem_gt (List.mem_of_getElem? (i := 32) (by decide +kernel)) rfl
theorem k_33 : Cond.initialized "FreeWavelets$Bytes" ∈ gt := mem_gt (List.mem_of_getElem? (i := 33) (by decide +kernel)) rfl
theorem k_34 : Cond.initialized "FreeWavelets$Tape" ∈ gt := mem_gt (List.mem_of_getElem? (i := 34) (by decide +kernel)) rfl
theorem k_35 : Cond.initialized "FreeWavelets$Pen" ∈ gt := mem_gt (List.mem_of_getElem? (i := 35) (by decide +kernel)) rfl
theorem k_36 : Cond.initialized "FreeWavelets$Eye" ∈ gt := mem_gt (List.mem_of_getElem? (i := 36) (by decide +kernel)) rfl
theorem k_37 : Cond.initialized "FreeWavelets$Walk" ∈ gt := mem_gt (List.mem_of_getElem? (i := 37) (by decide +kernel)) rfl
theorem k_38 : Cond.initialized "java/lang/Math" ∈ gt := mem_gt (List.mem_of_getElem? (i := 38) (by decide +kernel)) rfl
theorem k_39 : Cond.initialized "java/util/Arrays" ∈ gt := mem_gt (List.mem_of_getElem? (i := 39) (by decide +kernel)) rfl
theorem k_40 : Cond.initialized "FreeWaveletsModel" ∈ gt := mem_gt (List.mem_of_getElem? (i := 40) (by decide +kernel)) rfl
theorem k_46 : Cond.initialized "java/lang/System" ∈ gt := mem_gt (List.mem_of_getElem? (i := 46) (by decide +kernel)) rfl
theorem k_47 : Cond.initialized "FreeWavelets$Head" ∈ gt := mem_gt (List.mem_of_getElem? (i := 47) (by decide +kernel)) rfl
theorem k_70 : Cond.fieldLink "FreeWavelets$Shape" 9 "FreeWavelets$Shape" "inside" "[Z" ∈ gt := mem_gt (List.mem_of_getElem? (i := 70) (by decide +kernel)) rfl
theorem k_71 : Cond.fieldLink "FreeWavelets$Picture" 47 "FreeWavelets$Shape" "inside" "[Z" ∈ gt := mem_gt (List.mem_of_getElem? (i := 71) (by decide +kernel)) rfl
theorem k_72 : Cond.fieldLink "FreeWavelets$Head" 33 "FreeWavelets$Shape" "inside" "[Z" ∈ gt := mem_gt (List.mem_of_getElem? (i := 72) (by decide +kernel)) rfl
theorem k_73 : Cond.fieldLink "FreeWavelets$Walk" 62 "FreeWavelets$Shape" "inside" "[Z" ∈ gt := mem_gt (List.mem_of_getElem? (i := 73) (by decide +kernel)) rfl
theorem k_75 : Cond.fieldLink "FreeWavelets$Shape" 15 "FreeWavelets$Shape" "partOf" "[I" ∈ gt := mem_gt (List.mem_of_getElem? (i := 75) (by decide +kernel)) rfl
theorem k_76 : Cond.fieldLink "FreeWavelets$Picture" 93 "FreeWavelets$Shape" "partOf" "[I" ∈ gt := mem_gt (List.mem_of_getElem? (i := 76) (by decide +kernel)) rfl
theorem k_77 : Cond.fieldLink "FreeWavelets$Shape" 19 "FreeWavelets$Shape" "sizeOf" "[I" ∈ gt := mem_gt (List.mem_of_getElem? (i := 77) (by decide +kernel)) rfl
theorem k_79 : Cond.fieldLink "FreeWavelets$Shape" 22 "FreeWavelets$Shape" "firstOf" "[I" ∈ gt := mem_gt (List.mem_of_getElem? (i := 79) (by decide +kernel)) rfl
theorem k_81 : Cond.fieldLink "FreeWavelets$Shape" 28 "FreeWavelets$Shape" "width" "I" ∈ gt := mem_gt (List.mem_of_getElem? (i := 81) (by decide +kernel)) rfl
theorem k_82 : Cond.fieldLink "FreeWavelets$Picture" 34 "FreeWavelets$Shape" "width" "I" ∈ gt := mem_gt (List.mem_of_getElem? (i := 82) (by decide +kernel)) rfl
theorem k_83 : Cond.fieldLink "FreeWavelets$Head" 15 "FreeWavelets$Shape" "width" "I" ∈ gt := mem_gt (List.mem_of_getElem? (i := 83) (by decide +kernel)) rfl
theorem k_84 : Cond.fieldLink "FreeWavelets$Lifting" 29 "FreeWavelets$Shape" "width" "I" ∈ gt := mem_gt (List.mem_of_getElem? (i := 84) (by decide +kernel)) rfl
theorem k_85 : Cond.fieldLink "FreeWavelets" 228 "FreeWavelets$Shape" "width" "I" ∈ gt := mem_gt (List.mem_of_getElem? (i := 85) (by decide +kernel)) rfl
theorem k_86 : Cond.fieldLink "FreeWavelets$Shape" 32 "FreeWavelets$Shape" "height" "I" ∈ gt := mem_gt (List.mem_of_getElem? (i := 86) (by decide +kernel)) rfl
theorem k_87 : Cond.fieldLink "FreeWavelets$Head" 27 "FreeWavelets$Shape" "height" "I" ∈ gt := mem_gt (List.mem_of_getElem? (i := 87) (by decide +kernel)) rfl
theorem k_88 : Cond.fieldLink "FreeWavelets$Lifting" 23 "FreeWavelets$Shape" "height" "I" ∈ gt := mem_gt (List.mem_of_getElem? (i := 88) (by decide +kernel)) rfl
theorem k_89 : Cond.fieldLink "FreeWavelets$Picture" 96 "FreeWavelets$Shape" "height" "I" ∈ gt := mem_gt (List.mem_of_getElem? (i := 89) (by decide +kernel)) rfl
theorem k_90 : Cond.fieldLink "FreeWavelets" 231 "FreeWavelets$Shape" "height" "I" ∈ gt := mem_gt (List.mem_of_getElem? (i := 90) (by decide +kernel)) rfl
theorem k_91 : Cond.fieldLink "FreeWavelets$Shape" 52 "FreeWavelets$Shape" "parts" "I" ∈ gt := mem_gt (List.mem_of_getElem? (i := 91) (by decide +kernel)) rfl
theorem k_92 : Cond.fieldLink "FreeWavelets" 155 "FreeWavelets$Shape" "parts" "I" ∈ gt := mem_gt (List.mem_of_getElem? (i := 92) (by decide +kernel)) rfl
theorem k_93 : Cond.fieldLink "FreeWavelets$Shape" 55 "FreeWavelets$Shape" "count" "I" ∈ gt := mem_gt (List.mem_of_getElem? (i := 93) (by decide +kernel)) rfl
theorem k_94 : Cond.fieldLink "FreeWavelets" 234 "FreeWavelets$Shape" "count" "I" ∈ gt := mem_gt (List.mem_of_getElem? (i := 94) (by decide +kernel)) rfl
theorem k_95 : Cond.fieldLink "FreeWavelets$Shape" 25 "FreeWavelets$Shape" "queue" "[I" ∈ gt := mem_gt (List.mem_of_getElem? (i := 95) (by decide +kernel)) rfl
theorem k_123 : Cond.fieldLink "FreeWavelets$Lifting" 9 "FreeWavelets$Lifting" "shape" "LFreeWavelets$Shape;" ∈ gt := mem_gt (List.mem_of_getElem? (i := 123) (by decide +kernel)) rfl
theorem k_124 : Cond.fieldLink "FreeWavelets$Lifting" 15 "FreeWavelets$Lifting" "values" "[I" ∈ gt := mem_gt (List.mem_of_getElem? (i := 124) (by decide +kernel)) rfl
theorem k_130 : Cond.fieldLink "FreeWavelets$Picture" 12 "FreeWavelets$Picture" "shape" "LFreeWavelets$Shape;" ∈ gt := mem_gt (List.mem_of_getElem? (i := 130) (by decide +kernel)) rfl
theorem k_131 : Cond.fieldLink "FreeWavelets" 67 "FreeWavelets$Picture" "shape" "LFreeWavelets$Shape;" ∈ gt := mem_gt (List.mem_of_getElem? (i := 131) (by decide +kernel)) rfl
theorem k_132 : Cond.fieldLink "FreeWavelets$Head" 9 "FreeWavelets$Picture" "shape" "LFreeWavelets$Shape;" ∈ gt := mem_gt (List.mem_of_getElem? (i := 132) (by decide +kernel)) rfl
theorem k_133 : Cond.fieldLink "FreeWavelets$Walk" 58 "FreeWavelets$Picture" "shape" "LFreeWavelets$Shape;" ∈ gt := mem_gt (List.mem_of_getElem? (i := 133) (by decide +kernel)) rfl
theorem k_134 : Cond.fieldLink "FreeWavelets$Picture" 18 "FreeWavelets$Picture" "samples" "[I" ∈ gt := mem_gt (List.mem_of_getElem? (i := 134) (by decide +kernel)) rfl
theorem k_136 : Cond.fieldLink "FreeWavelets$Picture" 22 "FreeWavelets$Picture" "waves" "[I" ∈ gt := mem_gt (List.mem_of_getElem? (i := 136) (by decide +kernel)) rfl
theorem k_137 : Cond.fieldLink "FreeWavelets$Walk" 67 "FreeWavelets$Picture" "waves" "[I" ∈ gt := mem_gt (List.mem_of_getElem? (i := 137) (by decide +kernel)) rfl
theorem k_139 : Cond.fieldLink "FreeWavelets$Walk" 39 "FreeWavelets$Picture" "planes" "I" ∈ gt := mem_gt (List.mem_of_getElem? (i := 139) (by decide +kernel)) rfl
theorem k_140 : Cond.fieldLink "FreeWavelets$Head" 30 "FreeWavelets$Picture" "planes" "I" ∈ gt := mem_gt (List.mem_of_getElem? (i := 140) (by decide +kernel)) rfl
theorem k_141 : Cond.fieldLink "FreeWavelets$Picture" 77 "FreeWavelets$Picture" "planes" "I" ∈ gt := mem_gt (List.mem_of_getElem? (i := 141) (by decide +kernel)) rfl
theorem k_142 : Cond.fieldLink "FreeWavelets" 235 "FreeWavelets$Picture" "planes" "I" ∈ gt := mem_gt (List.mem_of_getElem? (i := 142) (by decide +kernel)) rfl
theorem k_143 : Cond.fieldLink "FreeWavelets$Picture" 30 "FreeWavelets$Picture" "lifting" "LFreeWavelets$Lifting;" ∈ gt := mem_gt (List.mem_of_getElem? (i := 143) (by decide +kernel)) rfl
theorem k_144 : Cond.fieldLink "FreeWavelets$Picture" 51 "FreeWavelets$Picture" "stale" "Z" ∈ gt := mem_gt (List.mem_of_getElem? (i := 144) (by decide +kernel)) rfl
theorem k_164 : Cond.fieldLink "FreeWavelets$Bytes" 15 "FreeWavelets$Bytes" "count" "I" ∈ gt := mem_gt (List.mem_of_getElem? (i := 164) (by decide +kernel)) rfl
theorem k_165 : Cond.fieldLink "FreeWavelets$Eye" 13 "FreeWavelets$Bytes" "count" "I" ∈ gt := mem_gt (List.mem_of_getElem? (i := 165) (by decide +kernel)) rfl
theorem k_166 : Cond.fieldLink "FreeWavelets$Pen" 25 "FreeWavelets$Bytes" "count" "I" ∈ gt := mem_gt (List.mem_of_getElem? (i := 166) (by decide +kernel)) rfl
theorem k_167 : Cond.fieldLink "FreeWavelets" 170 "FreeWavelets$Bytes" "count" "I" ∈ gt := mem_gt (List.mem_of_getElem? (i := 167) (by decide +kernel)) rfl
theorem k_168 : Cond.fieldLink "FreeWavelets$Bytes" 9 "FreeWavelets$Bytes" "row" "[B" ∈ gt := mem_gt (List.mem_of_getElem? (i := 168) (by decide +kernel)) rfl
theorem k_184 : Cond.fieldLink "FreeWavelets$Pen" 9 "FreeWavelets$Pen" "bytes" "LFreeWavelets$Bytes;" ∈ gt := mem_gt (List.mem_of_getElem? (i := 184) (by decide +kernel)) rfl
theorem k_185 : Cond.fieldLink "FreeWavelets$Tape" 9 "FreeWavelets$Tape" "place" "I" ∈ gt := mem_gt (List.mem_of_getElem? (i := 185) (by decide +kernel)) rfl
theorem k_186 : Cond.fieldLink "FreeWavelets$Pen" 31 "FreeWavelets$Pen" "place" "I" ∈ gt := mem_gt (List.mem_of_getElem? (i := 186) (by decide +kernel)) rfl
theorem k_187 : Cond.sameField "FreeWavelets$Pen" "FreeWavelets$Tape" "place" "I" ∈ gt := mem_gt (List.mem_of_getElem? (i := 187) (by decide +kernel)) rfl
theorem k_188 : Cond.fieldLink "FreeWavelets$Eye" 29 "FreeWavelets$Eye" "place" "I" ∈ gt := mem_gt (List.mem_of_getElem? (i := 188) (by decide +kernel)) rfl
theorem k_189 : Cond.sameField "FreeWavelets$Eye" "FreeWavelets$Tape" "place" "I" ∈ gt := mem_gt (List.mem_of_getElem? (i := 189) (by decide +kernel)) rfl
theorem k_190 : Cond.fieldLink "FreeWavelets" 138 "FreeWavelets$Pen" "place" "I" ∈ gt := mem_gt (List.mem_of_getElem? (i := 190) (by decide +kernel)) rfl
theorem k_192 : Cond.fieldLink "FreeWavelets" 251 "FreeWavelets$Tape" "place" "I" ∈ gt := mem_gt (List.mem_of_getElem? (i := 192) (by decide +kernel)) rfl
theorem k_193 : Cond.fieldLink "FreeWavelets$Tape" 15 "FreeWavelets$Tape" "ended" "Z" ∈ gt := mem_gt (List.mem_of_getElem? (i := 193) (by decide +kernel)) rfl
theorem k_194 : Cond.fieldLink "FreeWavelets$Walk" 90 "FreeWavelets$Tape" "ended" "Z" ∈ gt := mem_gt (List.mem_of_getElem? (i := 194) (by decide +kernel)) rfl
theorem k_195 : Cond.fieldLink "FreeWavelets$Tape" 19 "FreeWavelets$Tape" "limit" "I" ∈ gt := mem_gt (List.mem_of_getElem? (i := 195) (by decide +kernel)) rfl
theorem k_204 : Cond.superclass "FreeWavelets$Pen" "FreeWavelets$Tape" ∈ gt := mem_gt (List.mem_of_getElem? (i := 204) (by decide +kernel)) rfl
theorem k_211 : Cond.fieldLink "FreeWavelets$Eye" 7 "FreeWavelets$Eye" "bytes" "LFreeWavelets$Bytes;" ∈ gt := mem_gt (List.mem_of_getElem? (i := 211) (by decide +kernel)) rfl
theorem k_217 : Cond.superclass "FreeWavelets$Eye" "FreeWavelets$Tape" ∈ gt := mem_gt (List.mem_of_getElem? (i := 217) (by decide +kernel)) rfl
theorem k_231 : Cond.fieldLink "FreeWavelets$Walk" 9 "FreeWavelets$Walk" "known" "[I" ∈ gt := mem_gt (List.mem_of_getElem? (i := 231) (by decide +kernel)) rfl
theorem k_233 : Cond.fieldLink "FreeWavelets$Walk" 15 "FreeWavelets$Walk" "left" "[I" ∈ gt := mem_gt (List.mem_of_getElem? (i := 233) (by decide +kernel)) rfl
theorem k_235 : Cond.fieldLink "FreeWavelets$Walk" 25 "FreeWavelets$Walk" "tape" "LFreeWavelets$Tape;" ∈ gt := mem_gt (List.mem_of_getElem? (i := 235) (by decide +kernel)) rfl
theorem k_236 : Cond.fieldLink "FreeWavelets$Walk" 29 "FreeWavelets$Walk" "picture" "LFreeWavelets$Picture;" ∈ gt := mem_gt (List.mem_of_getElem? (i := 236) (by decide +kernel)) rfl
theorem k_237 : Cond.fieldLink "FreeWavelets$Walk" 18 "FreeWavelets$Walk" "greatest" "[I" ∈ gt := mem_gt (List.mem_of_getElem? (i := 237) (by decide +kernel)) rfl
theorem k_238 : Cond.fieldLink "FreeWavelets$Walk" 21 "FreeWavelets$Walk" "open" "[Z" ∈ gt := mem_gt (List.mem_of_getElem? (i := 238) (by decide +kernel)) rfl
theorem k_239 : Cond.fieldLink "FreeWavelets$Walk" 45 "FreeWavelets$Walk" "plane" "I" ∈ gt := mem_gt (List.mem_of_getElem? (i := 239) (by decide +kernel)) rfl
theorem k_258 : Cond.methodLink "FreeWavelets" 183 ⟨"java/lang/Math", "min", "(II)I"⟩ ∈ gt := mem_gt (List.mem_of_getElem? (i := 258) (by decide +kernel)) rfl
theorem k_259 : Cond.static ⟨"java/lang/Math", "min", "(II)I"⟩ ∈ gt := mem_gt (List.mem_of_getElem? (i := 259) (by decide +kernel)) rfl
theorem k_260 : Cond.code ⟨"java/lang/Math", "min", "(II)I"⟩ prog_17_method_69_code 2 (some .int) ∈ gt := mem_gt (List.mem_of_getElem? (i := 260) (by decide +kernel)) rfl
theorem k_261 : Cond.methodLink "FreeWavelets" 252 ⟨"java/lang/Math", "max", "(II)I"⟩ ∈ gt := mem_gt (List.mem_of_getElem? (i := 261) (by decide +kernel)) rfl
theorem k_262 : Cond.static ⟨"java/lang/Math", "max", "(II)I"⟩ ∈ gt := mem_gt (List.mem_of_getElem? (i := 262) (by decide +kernel)) rfl
theorem k_263 : Cond.code ⟨"java/lang/Math", "max", "(II)I"⟩ prog_17_method_65_code 2 (some .int) ∈ gt := mem_gt (List.mem_of_getElem? (i := 263) (by decide +kernel)) rfl
theorem k_265 : Cond.instanceMethod ⟨"FreeWavelets$Shape", "resize", "(II)V"⟩ ∈ gt := mem_gt (List.mem_of_getElem? (i := 265) (by decide +kernel)) rfl
theorem k_266 : Cond.selects "FreeWavelets$Shape" ⟨"FreeWavelets$Shape", "resize", "(II)V"⟩ ⟨"FreeWavelets$Shape", "resize", "(II)V"⟩ ∈ gt := mem_gt (List.mem_of_getElem? (i := 266) (by decide +kernel)) rfl
theorem k_267 : Cond.code ⟨"FreeWavelets$Shape", "resize", "(II)V"⟩ prog_8_method_2_code 4 none ∈ gt := mem_gt (List.mem_of_getElem? (i := 267) (by decide +kernel)) rfl
theorem k_268 : Cond.methodLink "FreeWavelets$Shape" 35 ⟨"FreeWavelets$Shape", "findParts", "()V"⟩ ∈ gt := mem_gt (List.mem_of_getElem? (i := 268) (by decide +kernel)) rfl
theorem k_269 : Cond.instanceMethod ⟨"FreeWavelets$Shape", "findParts", "()V"⟩ ∈ gt := mem_gt (List.mem_of_getElem? (i := 269) (by decide +kernel)) rfl
theorem k_270 : Cond.selects "FreeWavelets$Shape" ⟨"FreeWavelets$Shape", "findParts", "()V"⟩ ⟨"FreeWavelets$Shape", "findParts", "()V"⟩ ∈ gt := mem_gt (List.mem_of_getElem? (i := 270) (by decide +kernel)) rfl
theorem k_271 : Cond.code ⟨"FreeWavelets$Shape", "findParts", "()V"⟩ prog_8_method_5_code 4 none ∈ gt := mem_gt (List.mem_of_getElem? (i := 271) (by decide +kernel)) rfl
theorem k_272 : Cond.methodLink "FreeWavelets$Shape" 46 ⟨"java/util/Arrays", "fill", "([II)V"⟩ ∈ gt := mem_gt (List.mem_of_getElem? (i := 272) (by decide +kernel)) rfl
theorem k_273 : Cond.static ⟨"java/util/Arrays", "fill", "([II)V"⟩ ∈ gt := mem_gt (List.mem_of_getElem? (i := 273) (by decide +kernel)) rfl
theorem k_274 : Cond.code ⟨"java/util/Arrays", "fill", "([II)V"⟩ prog_23_method_103_code 4 none ∈ gt := mem_gt (List.mem_of_getElem? (i := 274) (by decide +kernel)) rfl
theorem k_275 : Cond.methodLinkNest "FreeWavelets$Shape" 42 ⟨"FreeWavelets", "sampleOf", "(II)I"⟩ "FreeWavelets" ∈ lw_tbl := List.mem_of_getElem? (i := 275) (by decide +kernel)
theorem k_276 : Cond.static ⟨"FreeWavelets", "sampleOf", "(II)I"⟩ ∈ gt := mem_gt (List.mem_of_getElem? (i := 276) (by decide +kernel)) rfl
theorem k_277 : Cond.code ⟨"FreeWavelets", "sampleOf", "(II)I"⟩ prog_1_method_20_code 2 (some .int) ∈ gt := mem_gt (List.mem_of_getElem? (i := 277) (by decide +kernel)) rfl
theorem k_278 : Cond.methodLink "FreeWavelets$Shape" 58 ⟨"FreeWavelets$Shape", "spread", "(I)V"⟩ ∈ gt := mem_gt (List.mem_of_getElem? (i := 278) (by decide +kernel)) rfl
theorem k_280 : Cond.instanceMethod ⟨"FreeWavelets$Shape", "spread", "(I)V"⟩ ∈ gt := mem_gt (List.mem_of_getElem? (i := 280) (by decide +kernel)) rfl
theorem k_281 : Cond.code ⟨"FreeWavelets$Shape", "spread", "(I)V"⟩ prog_8_method_6_code 7 none ∈ gt := mem_gt (List.mem_of_getElem? (i := 281) (by decide +kernel)) rfl
theorem k_282 : Cond.methodLink "FreeWavelets$Shape" 62 ⟨"FreeWavelets$Shape", "join", "(II)I"⟩ ∈ gt := mem_gt (List.mem_of_getElem? (i := 282) (by decide +kernel)) rfl
theorem k_284 : Cond.instanceMethod ⟨"FreeWavelets$Shape", "join", "(II)I"⟩ ∈ gt := mem_gt (List.mem_of_getElem? (i := 284) (by decide +kernel)) rfl
theorem k_285 : Cond.code ⟨"FreeWavelets$Shape", "join", "(II)I"⟩ prog_8_method_7_code 3 (some .int) ∈ gt := mem_gt (List.mem_of_getElem? (i := 285) (by decide +kernel)) rfl
theorem k_286 : Cond.methodLinkNest "FreeWavelets$Shape" 65 ⟨"FreeWavelets", "columnOf", "(I)I"⟩ "FreeWavelets" ∈ lw_tbl := List.mem_of_getElem? (i := 286) (by decide +kernel)
theorem k_287 : Cond.static ⟨"FreeWavelets", "columnOf", "(I)I"⟩ ∈ gt := mem_gt (List.mem_of_getElem? (i := 287) (by decide +kernel)) rfl
theorem k_288 : Cond.code ⟨"FreeWavelets", "columnOf", "(I)I"⟩ prog_1_method_21_code 1 (some .int) ∈ gt := mem_gt (List.mem_of_getElem? (i := 288) (by decide +kernel)) rfl
theorem k_289 : Cond.methodLinkNest "FreeWavelets$Shape" 69 ⟨"FreeWavelets", "rowOf", "(I)I"⟩ "FreeWavelets" ∈ lw_tbl := List.mem_of_getElem? (i := 289) (by decide +kernel)
theorem k_290 : Cond.static ⟨"FreeWavelets", "rowOf", "(I)I"⟩ ∈ gt := mem_gt (List.mem_of_getElem? (i := 290) (by decide +kernel)) rfl
theorem k_291 : Cond.code ⟨"FreeWavelets", "rowOf", "(I)I"⟩ prog_1_method_22_code 1 (some .int) ∈ gt := mem_gt (List.mem_of_getElem? (i := 291) (by decide +kernel)) rfl
theorem k_292 : Cond.methodLink "FreeWavelets$Shape" 38 ⟨"FreeWavelets$Shape", "has", "(II)Z"⟩ ∈ gt := mem_gt (List.mem_of_getElem? (i := 292) (by decide +kernel)) rfl
theorem k_293 : Cond.instanceMethod ⟨"FreeWavelets$Shape", "has", "(II)Z"⟩ ∈ gt := mem_gt (List.mem_of_getElem? (i := 293) (by decide +kernel)) rfl
theorem k_294 : Cond.selects "FreeWavelets$Shape" ⟨"FreeWavelets$Shape", "has", "(II)Z"⟩ ⟨"FreeWavelets$Shape", "has", "(II)Z"⟩ ∈ gt := mem_gt (List.mem_of_getElem? (i := 294) (by decide +kernel)) rfl
theorem k_295 : Cond.code ⟨"FreeWavelets$Shape", "has", "(II)Z"⟩ prog_8_method_3_code 3 (some .boolean) ∈ gt := mem_gt (List.mem_of_getElem? (i := 295) (by decide +kernel)) rfl
theorem k_296 : Cond.fieldLink "FreeWavelets" 10 "FreeWavelets" "drawn" "LFreeWavelets$Picture;" ∈ gt := mem_gt (List.mem_of_getElem? (i := 296) (by decide +kernel)) rfl
theorem k_297 : Cond.fieldLink "FreeWavelets" 16 "FreeWavelets" "seen" "LFreeWavelets$Picture;" ∈ gt := mem_gt (List.mem_of_getElem? (i := 297) (by decide +kernel)) rfl
theorem k_299 : Cond.fieldLink "FreeWavelets" 26 "FreeWavelets" "fed" "LFreeWavelets$Bytes;" ∈ gt := mem_gt (List.mem_of_getElem? (i := 299) (by decide +kernel)) rfl
theorem k_300 : Cond.fieldLink "FreeWavelets" 34 "FreeWavelets" "pen" "LFreeWavelets$Pen;" ∈ gt := mem_gt (List.mem_of_getElem? (i := 300) (by decide +kernel)) rfl
theorem k_302 : Cond.fieldLink "FreeWavelets" 48 "FreeWavelets" "ruler" "LFreeWavelets$Tape;" ∈ gt := mem_gt (List.mem_of_getElem? (i := 302) (by decide +kernel)) rfl
theorem k_303 : Cond.fieldLink "FreeWavelets" 57 "FreeWavelets" "writing" "LFreeWavelets$Walk;" ∈ gt := mem_gt (List.mem_of_getElem? (i := 303) (by decide +kernel)) rfl
theorem k_306 : Cond.fieldLink "FreeWavelets" 191 "FreeWavelets" "wasRead" "Z" ∈ gt := mem_gt (List.mem_of_getElem? (i := 306) (by decide +kernel)) rfl
theorem k_334 : Cond.methodLink "FreeWavelets" 116 ⟨"FreeWavelets$Picture", "renew", "()V"⟩ ∈ gt := mem_gt (List.mem_of_getElem? (i := 334) (by decide +kernel)) rfl
theorem k_335 : Cond.instanceMethod ⟨"FreeWavelets$Picture", "renew", "()V"⟩ ∈ gt := mem_gt (List.mem_of_getElem? (i := 335) (by decide +kernel)) rfl
theorem k_336 : Cond.selects "FreeWavelets$Picture" ⟨"FreeWavelets$Picture", "renew", "()V"⟩ ⟨"FreeWavelets$Picture", "renew", "()V"⟩ ∈ gt := mem_gt (List.mem_of_getElem? (i := 336) (by decide +kernel)) rfl
theorem k_337 : Cond.code ⟨"FreeWavelets$Picture", "renew", "()V"⟩ prog_7_method_4_code 3 none ∈ gt := mem_gt (List.mem_of_getElem? (i := 337) (by decide +kernel)) rfl
theorem k_338 : Cond.methodLink "FreeWavelets$Picture" 55 ⟨"FreeWavelets$Shape", "findParts", "()V"⟩ ∈ gt := mem_gt (List.mem_of_getElem? (i := 338) (by decide +kernel)) rfl
theorem k_339 : Cond.methodLink "FreeWavelets$Picture" 58 ⟨"java/lang/System", "arraycopy", "(Ljava/lang/Object;ILjava/lang/Object;II)V"⟩ ∈ gt := mem_gt (List.mem_of_getElem? (i := 339) (by decide +kernel)) rfl
theorem k_340 : Cond.static ⟨"java/lang/System", "arraycopy", "(Ljava/lang/Object;ILjava/lang/Object;II)V"⟩ ∈ gt := mem_gt (List.mem_of_getElem? (i := 340) (by decide +kernel)) rfl
theorem k_341 : Cond.native ⟨"java/lang/System", "arraycopy", "(Ljava/lang/Object;ILjava/lang/Object;II)V"⟩ ∈ gt := mem_gt (List.mem_of_getElem? (i := 341) (by decide +kernel)) rfl
theorem k_342 : Cond.methodLink "FreeWavelets$Picture" 64 ⟨"FreeWavelets$Lifting", "forth", "()V"⟩ ∈ gt := mem_gt (List.mem_of_getElem? (i := 342) (by decide +kernel)) rfl
theorem k_343 : Cond.instanceMethod ⟨"FreeWavelets$Lifting", "forth", "()V"⟩ ∈ gt := mem_gt (List.mem_of_getElem? (i := 343) (by decide +kernel)) rfl
theorem k_344 : Cond.selects "FreeWavelets$Lifting" ⟨"FreeWavelets$Lifting", "forth", "()V"⟩ ⟨"FreeWavelets$Lifting", "forth", "()V"⟩ ∈ gt := mem_gt (List.mem_of_getElem? (i := 344) (by decide +kernel)) rfl
theorem k_345 : Cond.code ⟨"FreeWavelets$Lifting", "forth", "()V"⟩ prog_5_method_2_code 2 none ∈ gt := mem_gt (List.mem_of_getElem? (i := 345) (by decide +kernel)) rfl
theorem k_346 : Cond.methodLink "FreeWavelets$Lifting" 19 ⟨"FreeWavelets$Lifting", "sweep", "(IZII)V"⟩ ∈ gt := mem_gt (List.mem_of_getElem? (i := 346) (by decide +kernel)) rfl
theorem k_348 : Cond.instanceMethod ⟨"FreeWavelets$Lifting", "sweep", "(IZII)V"⟩ ∈ gt := mem_gt (List.mem_of_getElem? (i := 348) (by decide +kernel)) rfl
theorem k_349 : Cond.code ⟨"FreeWavelets$Lifting", "sweep", "(IZII)V"⟩ prog_5_method_4_code 11 none ∈ gt := mem_gt (List.mem_of_getElem? (i := 349) (by decide +kernel)) rfl
theorem k_350 : Cond.methodLinkNest "FreeWavelets$Lifting" 32 ⟨"FreeWavelets", "sampleOf", "(II)I"⟩ "FreeWavelets" ∈ lw_tbl := List.mem_of_getElem? (i := 350) (by decide +kernel)
theorem k_351 : Cond.methodLink "FreeWavelets$Lifting" 36 ⟨"FreeWavelets$Lifting", "change", "(IIIII)I"⟩ ∈ gt := mem_gt (List.mem_of_getElem? (i := 351) (by decide +kernel)) rfl
theorem k_353 : Cond.instanceMethod ⟨"FreeWavelets$Lifting", "change", "(IIIII)I"⟩ ∈ gt := mem_gt (List.mem_of_getElem? (i := 353) (by decide +kernel)) rfl
theorem k_354 : Cond.code ⟨"FreeWavelets$Lifting", "change", "(IIIII)I"⟩ prog_5_method_5_code 11 (some .int) ∈ gt := mem_gt (List.mem_of_getElem? (i := 354) (by decide +kernel)) rfl
theorem k_355 : Cond.methodLink "FreeWavelets$Lifting" 40 ⟨"FreeWavelets$Shape", "partHere", "(II)I"⟩ ∈ gt := mem_gt (List.mem_of_getElem? (i := 355) (by decide +kernel)) rfl
theorem k_356 : Cond.instanceMethod ⟨"FreeWavelets$Shape", "partHere", "(II)I"⟩ ∈ gt := mem_gt (List.mem_of_getElem? (i := 356) (by decide +kernel)) rfl
theorem k_357 : Cond.selects "FreeWavelets$Shape" ⟨"FreeWavelets$Shape", "partHere", "(II)I"⟩ ⟨"FreeWavelets$Shape", "partHere", "(II)I"⟩ ∈ gt := mem_gt (List.mem_of_getElem? (i := 357) (by decide +kernel)) rfl
theorem k_358 : Cond.code ⟨"FreeWavelets$Shape", "partHere", "(II)I"⟩ prog_8_method_4_code 3 (some .int) ∈ gt := mem_gt (List.mem_of_getElem? (i := 358) (by decide +kernel)) rfl
theorem k_359 : Cond.methodLink "FreeWavelets$Picture" 67 ⟨"java/lang/Math", "abs", "(I)I"⟩ ∈ gt := mem_gt (List.mem_of_getElem? (i := 359) (by decide +kernel)) rfl
theorem k_360 : Cond.static ⟨"java/lang/Math", "abs", "(I)I"⟩ ∈ gt := mem_gt (List.mem_of_getElem? (i := 360) (by decide +kernel)) rfl
theorem k_361 : Cond.code ⟨"java/lang/Math", "abs", "(I)I"⟩ prog_17_method_59_code 1 (some .int) ∈ gt := mem_gt (List.mem_of_getElem? (i := 361) (by decide +kernel)) rfl
theorem k_362 : Cond.methodLink "FreeWavelets$Picture" 71 ⟨"java/lang/Math", "max", "(II)I"⟩ ∈ gt := mem_gt (List.mem_of_getElem? (i := 362) (by decide +kernel)) rfl
theorem k_363 : Cond.methodLinkNest "FreeWavelets$Picture" 74 ⟨"FreeWavelets", "bitsOf", "(I)I"⟩ "FreeWavelets" ∈ lw_tbl := List.mem_of_getElem? (i := 363) (by decide +kernel)
theorem k_364 : Cond.static ⟨"FreeWavelets", "bitsOf", "(I)I"⟩ ∈ gt := mem_gt (List.mem_of_getElem? (i := 364) (by decide +kernel)) rfl
theorem k_365 : Cond.code ⟨"FreeWavelets", "bitsOf", "(I)I"⟩ prog_1_method_23_code 2 (some .int) ∈ gt := mem_gt (List.mem_of_getElem? (i := 365) (by decide +kernel)) rfl
theorem k_366 : Cond.methodLink "FreeWavelets" 238 ⟨"FreeWavelets", "headBits", "()I"⟩ ∈ gt := mem_gt (List.mem_of_getElem? (i := 366) (by decide +kernel)) rfl
theorem k_368 : Cond.instanceMethod ⟨"FreeWavelets", "headBits", "()I"⟩ ∈ gt := mem_gt (List.mem_of_getElem? (i := 368) (by decide +kernel)) rfl
theorem k_369 : Cond.code ⟨"FreeWavelets", "headBits", "()I"⟩ prog_1_method_17_code 1 (some .int) ∈ gt := mem_gt (List.mem_of_getElem? (i := 369) (by decide +kernel)) rfl
theorem k_370 : Cond.constant "FreeWavelets" 123 (60000) ∈ gt := mem_gt (List.mem_of_getElem? (i := 370) (by decide +kernel)) rfl
theorem k_371 : Cond.methodLink "FreeWavelets" 160 ⟨"FreeWavelets$Tape", "start", "(I)V"⟩ ∈ gt := mem_gt (List.mem_of_getElem? (i := 371) (by decide +kernel)) rfl
theorem k_372 : Cond.instanceMethod ⟨"FreeWavelets$Tape", "start", "(I)V"⟩ ∈ gt := mem_gt (List.mem_of_getElem? (i := 372) (by decide +kernel)) rfl
theorem k_373 : Cond.selects "FreeWavelets$Tape" ⟨"FreeWavelets$Tape", "start", "(I)V"⟩ ⟨"FreeWavelets$Tape", "start", "(I)V"⟩ ∈ gt := mem_gt (List.mem_of_getElem? (i := 373) (by decide +kernel)) rfl
theorem k_374 : Cond.sameMethod "FreeWavelets$Tape" "FreeWavelets$Tape" "start" "(I)V" ∈ gt := mem_gt (List.mem_of_getElem? (i := 374) (by decide +kernel)) rfl
theorem k_378 : Cond.methodLink "FreeWavelets$Eye" 19 ⟨"java/lang/Math", "min", "(II)I"⟩ ∈ gt := mem_gt (List.mem_of_getElem? (i := 378) (by decide +kernel)) rfl
theorem k_379 : Cond.methodLink "FreeWavelets$Eye" 25 ⟨"FreeWavelets$Tape", "start", "(I)V"⟩ ∈ gt := mem_gt (List.mem_of_getElem? (i := 379) (by decide +kernel)) rfl
theorem k_381 : Cond.instanceMethod ⟨"FreeWavelets$Pen", "start", "(I)V"⟩ ∈ gt := mem_gt (List.mem_of_getElem? (i := 381) (by decide +kernel)) rfl
theorem k_382 : Cond.code ⟨"FreeWavelets$Pen", "start", "(I)V"⟩ prog_6_method_2_code 2 none ∈ gt := mem_gt (List.mem_of_getElem? (i := 382) (by decide +kernel)) rfl
theorem k_383 : Cond.methodLink "FreeWavelets$Pen" 15 ⟨"java/lang/Math", "min", "(II)I"⟩ ∈ gt := mem_gt (List.mem_of_getElem? (i := 383) (by decide +kernel)) rfl
theorem k_384 : Cond.methodLink "FreeWavelets$Pen" 21 ⟨"FreeWavelets$Tape", "start", "(I)V"⟩ ∈ gt := mem_gt (List.mem_of_getElem? (i := 384) (by decide +kernel)) rfl
theorem k_385 : Cond.code ⟨"FreeWavelets$Tape", "start", "(I)V"⟩ prog_9_method_2_code 2 none ∈ gt := mem_gt (List.mem_of_getElem? (i := 385) (by decide +kernel)) rfl
theorem k_386 : Cond.methodLink "FreeWavelets" 130 ⟨"FreeWavelets$Head", "write", "(LFreeWavelets$Tape;LFreeWavelets$Picture;)V"⟩ ∈ gt := mem_gt (List.mem_of_getElem? (i := 386) (by decide +kernel)) rfl
theorem k_387 : Cond.static ⟨"FreeWavelets$Head", "write", "(LFreeWavelets$Tape;LFreeWavelets$Picture;)V"⟩ ∈ gt := mem_gt (List.mem_of_getElem? (i := 387) (by decide +kernel)) rfl
theorem k_388 : Cond.code ⟨"FreeWavelets$Head", "write", "(LFreeWavelets$Tape;LFreeWavelets$Picture;)V"⟩ prog_4_method_2_code 7 none ∈ gt := mem_gt (List.mem_of_getElem? (i := 388) (by decide +kernel)) rfl
theorem k_389 : Cond.methodLink "FreeWavelets$Head" 21 ⟨"FreeWavelets$Tape", "say", "(II)V"⟩ ∈ gt := mem_gt (List.mem_of_getElem? (i := 389) (by decide +kernel)) rfl
theorem k_390 : Cond.instanceMethod ⟨"FreeWavelets$Tape", "say", "(II)V"⟩ ∈ gt := mem_gt (List.mem_of_getElem? (i := 390) (by decide +kernel)) rfl
theorem k_391 : Cond.selects "FreeWavelets$Tape" ⟨"FreeWavelets$Tape", "say", "(II)V"⟩ ⟨"FreeWavelets$Tape", "say", "(II)V"⟩ ∈ gt := mem_gt (List.mem_of_getElem? (i := 391) (by decide +kernel)) rfl
theorem k_392 : Cond.sameMethod "FreeWavelets$Tape" "FreeWavelets$Tape" "say" "(II)V" ∈ gt := mem_gt (List.mem_of_getElem? (i := 392) (by decide +kernel)) rfl
theorem k_394 : Cond.selects "FreeWavelets$Pen" ⟨"FreeWavelets$Tape", "say", "(II)V"⟩ ⟨"FreeWavelets$Tape", "say", "(II)V"⟩ ∈ gt := mem_gt (List.mem_of_getElem? (i := 394) (by decide +kernel)) rfl
theorem k_395 : Cond.code ⟨"FreeWavelets$Tape", "say", "(II)V"⟩ prog_9_method_5_code 4 none ∈ gt := mem_gt (List.mem_of_getElem? (i := 395) (by decide +kernel)) rfl
theorem k_396 : Cond.methodLink "FreeWavelets$Tape" 26 ⟨"FreeWavelets$Tape", "next", "(I)I"⟩ ∈ gt := mem_gt (List.mem_of_getElem? (i := 396) (by decide +kernel)) rfl
theorem k_397 : Cond.instanceMethod ⟨"FreeWavelets$Tape", "next", "(I)I"⟩ ∈ gt := mem_gt (List.mem_of_getElem? (i := 397) (by decide +kernel)) rfl
theorem k_398 : Cond.selects "FreeWavelets$Tape" ⟨"FreeWavelets$Tape", "next", "(I)I"⟩ ⟨"FreeWavelets$Tape", "next", "(I)I"⟩ ∈ gt := mem_gt (List.mem_of_getElem? (i := 398) (by decide +kernel)) rfl
theorem k_399 : Cond.sameMethod "FreeWavelets$Tape" "FreeWavelets$Tape" "next" "(I)I" ∈ gt := mem_gt (List.mem_of_getElem? (i := 399) (by decide +kernel)) rfl
theorem k_400 : Cond.selects "FreeWavelets$Eye" ⟨"FreeWavelets$Tape", "next", "(I)I"⟩ ⟨"FreeWavelets$Tape", "next", "(I)I"⟩ ∈ gt := mem_gt (List.mem_of_getElem? (i := 400) (by decide +kernel)) rfl
theorem k_401 : Cond.selects "FreeWavelets$Pen" ⟨"FreeWavelets$Tape", "next", "(I)I"⟩ ⟨"FreeWavelets$Tape", "next", "(I)I"⟩ ∈ gt := mem_gt (List.mem_of_getElem? (i := 401) (by decide +kernel)) rfl
theorem k_402 : Cond.code ⟨"FreeWavelets$Tape", "next", "(I)I"⟩ prog_9_method_3_code 3 (some .int) ∈ gt := mem_gt (List.mem_of_getElem? (i := 402) (by decide +kernel)) rfl
theorem k_403 : Cond.methodLink "FreeWavelets$Tape" 22 ⟨"FreeWavelets$Tape", "pick", "(I)I"⟩ ∈ gt := mem_gt (List.mem_of_getElem? (i := 403) (by decide +kernel)) rfl
theorem k_404 : Cond.instanceMethod ⟨"FreeWavelets$Tape", "pick", "(I)I"⟩ ∈ gt := mem_gt (List.mem_of_getElem? (i := 404) (by decide +kernel)) rfl
theorem k_405 : Cond.selects "FreeWavelets$Tape" ⟨"FreeWavelets$Tape", "pick", "(I)I"⟩ ⟨"FreeWavelets$Tape", "pick", "(I)I"⟩ ∈ gt := mem_gt (List.mem_of_getElem? (i := 405) (by decide +kernel)) rfl
theorem k_406 : Cond.sameMethod "FreeWavelets$Tape" "FreeWavelets$Tape" "pick" "(I)I" ∈ gt := mem_gt (List.mem_of_getElem? (i := 406) (by decide +kernel)) rfl
theorem k_407 : Cond.selects "FreeWavelets$Eye" ⟨"FreeWavelets$Tape", "pick", "(I)I"⟩ ⟨"FreeWavelets$Eye", "pick", "(I)I"⟩ ∈ gt := mem_gt (List.mem_of_getElem? (i := 407) (by decide +kernel)) rfl
theorem k_408 : Cond.instanceMethod ⟨"FreeWavelets$Eye", "pick", "(I)I"⟩ ∈ gt := mem_gt (List.mem_of_getElem? (i := 408) (by decide +kernel)) rfl
theorem k_409 : Cond.code ⟨"FreeWavelets$Eye", "pick", "(I)I"⟩ prog_3_method_3_code 2 (some .int) ∈ gt := mem_gt (List.mem_of_getElem? (i := 409) (by decide +kernel)) rfl
theorem k_410 : Cond.methodLink "FreeWavelets$Eye" 32 ⟨"FreeWavelets$Bytes", "get", "(I)I"⟩ ∈ gt := mem_gt (List.mem_of_getElem? (i := 410) (by decide +kernel)) rfl
theorem k_411 : Cond.instanceMethod ⟨"FreeWavelets$Bytes", "get", "(I)I"⟩ ∈ gt := mem_gt (List.mem_of_getElem? (i := 411) (by decide +kernel)) rfl
theorem k_412 : Cond.selects "FreeWavelets$Bytes" ⟨"FreeWavelets$Bytes", "get", "(I)I"⟩ ⟨"FreeWavelets$Bytes", "get", "(I)I"⟩ ∈ gt := mem_gt (List.mem_of_getElem? (i := 412) (by decide +kernel)) rfl
theorem k_413 : Cond.code ⟨"FreeWavelets$Bytes", "get", "(I)I"⟩ prog_2_method_3_code 2 (some .int) ∈ gt := mem_gt (List.mem_of_getElem? (i := 413) (by decide +kernel)) rfl
theorem k_414 : Cond.selects "FreeWavelets$Pen" ⟨"FreeWavelets$Tape", "pick", "(I)I"⟩ ⟨"FreeWavelets$Pen", "pick", "(I)I"⟩ ∈ gt := mem_gt (List.mem_of_getElem? (i := 414) (by decide +kernel)) rfl
theorem k_415 : Cond.instanceMethod ⟨"FreeWavelets$Pen", "pick", "(I)I"⟩ ∈ gt := mem_gt (List.mem_of_getElem? (i := 415) (by decide +kernel)) rfl
theorem k_416 : Cond.code ⟨"FreeWavelets$Pen", "pick", "(I)I"⟩ prog_6_method_3_code 3 (some .int) ∈ gt := mem_gt (List.mem_of_getElem? (i := 416) (by decide +kernel)) rfl
theorem k_417 : Cond.methodLink "FreeWavelets$Pen" 34 ⟨"FreeWavelets$Bytes", "add", "(I)V"⟩ ∈ gt := mem_gt (List.mem_of_getElem? (i := 417) (by decide +kernel)) rfl
theorem k_418 : Cond.instanceMethod ⟨"FreeWavelets$Bytes", "add", "(I)V"⟩ ∈ gt := mem_gt (List.mem_of_getElem? (i := 418) (by decide +kernel)) rfl
theorem k_419 : Cond.selects "FreeWavelets$Bytes" ⟨"FreeWavelets$Bytes", "add", "(I)V"⟩ ⟨"FreeWavelets$Bytes", "add", "(I)V"⟩ ∈ gt := mem_gt (List.mem_of_getElem? (i := 419) (by decide +kernel)) rfl
theorem k_420 : Cond.code ⟨"FreeWavelets$Bytes", "add", "(I)V"⟩ prog_2_method_5_code 2 none ∈ gt := mem_gt (List.mem_of_getElem? (i := 420) (by decide +kernel)) rfl
theorem k_421 : Cond.methodLink "FreeWavelets$Pen" 37 ⟨"FreeWavelets$Bytes", "get", "(I)I"⟩ ∈ gt := mem_gt (List.mem_of_getElem? (i := 421) (by decide +kernel)) rfl
theorem k_422 : Cond.methodLink "FreeWavelets$Pen" 41 ⟨"FreeWavelets$Bytes", "set", "(II)V"⟩ ∈ gt := mem_gt (List.mem_of_getElem? (i := 422) (by decide +kernel)) rfl
theorem k_423 : Cond.instanceMethod ⟨"FreeWavelets$Bytes", "set", "(II)V"⟩ ∈ gt := mem_gt (List.mem_of_getElem? (i := 423) (by decide +kernel)) rfl
theorem k_424 : Cond.selects "FreeWavelets$Bytes" ⟨"FreeWavelets$Bytes", "set", "(II)V"⟩ ⟨"FreeWavelets$Bytes", "set", "(II)V"⟩ ∈ gt := mem_gt (List.mem_of_getElem? (i := 424) (by decide +kernel)) rfl
theorem k_425 : Cond.code ⟨"FreeWavelets$Bytes", "set", "(II)V"⟩ prog_2_method_4_code 3 none ∈ gt := mem_gt (List.mem_of_getElem? (i := 425) (by decide +kernel)) rfl
theorem k_426 : Cond.code ⟨"FreeWavelets$Tape", "pick", "(I)I"⟩ prog_9_method_4_code 2 (some .int) ∈ gt := mem_gt (List.mem_of_getElem? (i := 426) (by decide +kernel)) rfl
theorem k_427 : Cond.methodLinkNest "FreeWavelets$Head" 37 ⟨"FreeWavelets", "sampleOf", "(II)I"⟩ "FreeWavelets" ∈ lw_tbl := List.mem_of_getElem? (i := 427) (by decide +kernel)
theorem k_428 : Cond.methodLink "FreeWavelets$Head" 41 ⟨"FreeWavelets$Head", "writeRun", "(LFreeWavelets$Tape;I)V"⟩ ∈ gt := mem_gt (List.mem_of_getElem? (i := 428) (by decide +kernel)) rfl
theorem k_429 : Cond.static ⟨"FreeWavelets$Head", "writeRun", "(LFreeWavelets$Tape;I)V"⟩ ∈ gt := mem_gt (List.mem_of_getElem? (i := 429) (by decide +kernel)) rfl
theorem k_430 : Cond.code ⟨"FreeWavelets$Head", "writeRun", "(LFreeWavelets$Tape;I)V"⟩ prog_4_method_4_code 3 none ∈ gt := mem_gt (List.mem_of_getElem? (i := 430) (by decide +kernel)) rfl
theorem k_431 : Cond.methodLinkNest "FreeWavelets$Head" 59 ⟨"FreeWavelets", "bitsOf", "(I)I"⟩ "FreeWavelets" ∈ lw_tbl := List.mem_of_getElem? (i := 431) (by decide +kernel)
theorem k_432 : Cond.methodLink "FreeWavelets" 242 ⟨"FreeWavelets", "toldOfSeen", "(I)I"⟩ ∈ gt := mem_gt (List.mem_of_getElem? (i := 432) (by decide +kernel)) rfl
theorem k_434 : Cond.instanceMethod ⟨"FreeWavelets", "toldOfSeen", "(I)I"⟩ ∈ gt := mem_gt (List.mem_of_getElem? (i := 434) (by decide +kernel)) rfl
theorem k_435 : Cond.code ⟨"FreeWavelets", "toldOfSeen", "(I)I"⟩ prog_1_method_18_code 2 (some .int) ∈ gt := mem_gt (List.mem_of_getElem? (i := 435) (by decide +kernel)) rfl
theorem k_440 : Cond.methodLink "FreeWavelets" 245 ⟨"FreeWavelets$Picture", "wipe", "()V"⟩ ∈ gt := mem_gt (List.mem_of_getElem? (i := 440) (by decide +kernel)) rfl
theorem k_441 : Cond.instanceMethod ⟨"FreeWavelets$Picture", "wipe", "()V"⟩ ∈ gt := mem_gt (List.mem_of_getElem? (i := 441) (by decide +kernel)) rfl
theorem k_442 : Cond.selects "FreeWavelets$Picture" ⟨"FreeWavelets$Picture", "wipe", "()V"⟩ ⟨"FreeWavelets$Picture", "wipe", "()V"⟩ ∈ gt := mem_gt (List.mem_of_getElem? (i := 442) (by decide +kernel)) rfl
theorem k_443 : Cond.code ⟨"FreeWavelets$Picture", "wipe", "()V"⟩ prog_7_method_8_code 1 none ∈ gt := mem_gt (List.mem_of_getElem? (i := 443) (by decide +kernel)) rfl
theorem k_444 : Cond.methodLink "FreeWavelets$Picture" 80 ⟨"FreeWavelets$Shape", "resize", "(II)V"⟩ ∈ gt := mem_gt (List.mem_of_getElem? (i := 444) (by decide +kernel)) rfl
theorem k_445 : Cond.methodLink "FreeWavelets$Picture" 84 ⟨"java/util/Arrays", "fill", "([II)V"⟩ ∈ gt := mem_gt (List.mem_of_getElem? (i := 445) (by decide +kernel)) rfl
theorem k_446 : Cond.methodLink "FreeWavelets" 126 ⟨"FreeWavelets$Pen", "start", "(I)V"⟩ ∈ gt := mem_gt (List.mem_of_getElem? (i := 446) (by decide +kernel)) rfl
theorem k_447 : Cond.methodLink "FreeWavelets" 248 ⟨"FreeWavelets$Walk", "forget", "()V"⟩ ∈ gt := mem_gt (List.mem_of_getElem? (i := 447) (by decide +kernel)) rfl
theorem k_448 : Cond.instanceMethod ⟨"FreeWavelets$Walk", "forget", "()V"⟩ ∈ gt := mem_gt (List.mem_of_getElem? (i := 448) (by decide +kernel)) rfl
theorem k_449 : Cond.selects "FreeWavelets$Walk" ⟨"FreeWavelets$Walk", "forget", "()V"⟩ ⟨"FreeWavelets$Walk", "forget", "()V"⟩ ∈ gt := mem_gt (List.mem_of_getElem? (i := 449) (by decide +kernel)) rfl
theorem k_450 : Cond.code ⟨"FreeWavelets$Walk", "forget", "()V"⟩ prog_10_method_3_code 2 none ∈ gt := mem_gt (List.mem_of_getElem? (i := 450) (by decide +kernel)) rfl
theorem k_451 : Cond.methodLink "FreeWavelets$Walk" 52 ⟨"java/util/Arrays", "fill", "([II)V"⟩ ∈ gt := mem_gt (List.mem_of_getElem? (i := 451) (by decide +kernel)) rfl
theorem k_553 : Cond.methodLink "FreeWavelets$Picture" 38 ⟨"java/lang/Math", "min", "(II)I"⟩ ∈ gt := mem_gt (List.mem_of_getElem? (i := 553) (by decide +kernel)) rfl
theorem k_554 : Cond.methodLinkNest "FreeWavelets$Picture" 44 ⟨"FreeWavelets", "sampleOf", "(II)I"⟩ "FreeWavelets" ∈ lw_tbl := List.mem_of_getElem? (i := 554) (by decide +kernel)
theorem k_588 : Cond.methodLink "FreeWavelets$Walk" 33 ⟨"FreeWavelets$Walk", "forget", "()V"⟩ ∈ gt := mem_gt (List.mem_of_getElem? (i := 588) (by decide +kernel)) rfl
theorem k_589 : Cond.methodLink "FreeWavelets$Walk" 36 ⟨"FreeWavelets$Walk", "measure", "()V"⟩ ∈ gt := mem_gt (List.mem_of_getElem? (i := 589) (by decide +kernel)) rfl
theorem k_591 : Cond.instanceMethod ⟨"FreeWavelets$Walk", "measure", "()V"⟩ ∈ gt := mem_gt (List.mem_of_getElem? (i := 591) (by decide +kernel)) rfl
theorem k_592 : Cond.code ⟨"FreeWavelets$Walk", "measure", "()V"⟩ prog_10_method_4_code 5 none ∈ gt := mem_gt (List.mem_of_getElem? (i := 592) (by decide +kernel)) rfl
theorem k_593 : Cond.methodLink "FreeWavelets$Walk" 70 ⟨"java/lang/Math", "abs", "(I)I"⟩ ∈ gt := mem_gt (List.mem_of_getElem? (i := 593) (by decide +kernel)) rfl
theorem k_594 : Cond.methodLink "FreeWavelets$Walk" 76 ⟨"FreeWavelets$Walk", "squareOf", "(III)I"⟩ ∈ gt := mem_gt (List.mem_of_getElem? (i := 594) (by decide +kernel)) rfl
theorem k_595 : Cond.static ⟨"FreeWavelets$Walk", "squareOf", "(III)I"⟩ ∈ gt := mem_gt (List.mem_of_getElem? (i := 595) (by decide +kernel)) rfl
theorem k_596 : Cond.code ⟨"FreeWavelets$Walk", "squareOf", "(III)I"⟩ prog_10_method_6_code 3 (some .int) ∈ gt := mem_gt (List.mem_of_getElem? (i := 596) (by decide +kernel)) rfl
theorem k_597 : Cond.fieldLinkNest "FreeWavelets$Walk" 87 "FreeWavelets" "FIRST_SQUARE" "[I" "FreeWavelets" ∈ lw_tbl := List.mem_of_getElem? (i := 597) (by decide +kernel)
theorem k_599 : Cond.methodLink "FreeWavelets$Walk" 80 ⟨"FreeWavelets$Walk", "greatestBelow", "(III)I"⟩ ∈ gt := mem_gt (List.mem_of_getElem? (i := 599) (by decide +kernel)) rfl
theorem k_601 : Cond.instanceMethod ⟨"FreeWavelets$Walk", "greatestBelow", "(III)I"⟩ ∈ gt := mem_gt (List.mem_of_getElem? (i := 601) (by decide +kernel)) rfl
theorem k_602 : Cond.code ⟨"FreeWavelets$Walk", "greatestBelow", "(III)I"⟩ prog_10_method_5_code 7 (some .int) ∈ gt := mem_gt (List.mem_of_getElem? (i := 602) (by decide +kernel)) rfl
theorem k_603 : Cond.methodLink "FreeWavelets$Walk" 83 ⟨"java/lang/Math", "max", "(II)I"⟩ ∈ gt := mem_gt (List.mem_of_getElem? (i := 603) (by decide +kernel)) rfl
theorem k_604 : Cond.methodLink "FreeWavelets$Walk" 48 ⟨"FreeWavelets$Walk", "goThrough", "(III)V"⟩ ∈ gt := mem_gt (List.mem_of_getElem? (i := 604) (by decide +kernel)) rfl
theorem k_606 : Cond.instanceMethod ⟨"FreeWavelets$Walk", "goThrough", "(III)V"⟩ ∈ gt := mem_gt (List.mem_of_getElem? (i := 606) (by decide +kernel)) rfl
theorem k_607 : Cond.code ⟨"FreeWavelets$Walk", "goThrough", "(III)V"⟩ prog_10_method_7_code 7 none ∈ gt := mem_gt (List.mem_of_getElem? (i := 607) (by decide +kernel)) rfl
theorem k_608 : Cond.methodLink "FreeWavelets$Walk" 96 ⟨"FreeWavelets$Walk", "opens", "(II)Z"⟩ ∈ gt := mem_gt (List.mem_of_getElem? (i := 608) (by decide +kernel)) rfl
theorem k_610 : Cond.instanceMethod ⟨"FreeWavelets$Walk", "opens", "(II)Z"⟩ ∈ gt := mem_gt (List.mem_of_getElem? (i := 610) (by decide +kernel)) rfl
theorem k_611 : Cond.code ⟨"FreeWavelets$Walk", "opens", "(II)Z"⟩ prog_10_method_8_code 4 (some .boolean) ∈ gt := mem_gt (List.mem_of_getElem? (i := 611) (by decide +kernel)) rfl
theorem k_612 : Cond.methodLink "FreeWavelets$Walk" 104 ⟨"FreeWavelets$Tape", "next", "(I)I"⟩ ∈ gt := mem_gt (List.mem_of_getElem? (i := 612) (by decide +kernel)) rfl
theorem k_613 : Cond.methodLink "FreeWavelets$Walk" 100 ⟨"FreeWavelets$Walk", "learn", "(IZ)V"⟩ ∈ gt := mem_gt (List.mem_of_getElem? (i := 613) (by decide +kernel)) rfl
theorem k_615 : Cond.instanceMethod ⟨"FreeWavelets$Walk", "learn", "(IZ)V"⟩ ∈ gt := mem_gt (List.mem_of_getElem? (i := 615) (by decide +kernel)) rfl
theorem k_616 : Cond.code ⟨"FreeWavelets$Walk", "learn", "(IZ)V"⟩ prog_10_method_9_code 6 none ∈ gt := mem_gt (List.mem_of_getElem? (i := 616) (by decide +kernel)) rfl
theorem k_703 : Cond.methodLink "FreeWavelets$Head" 47 ⟨"FreeWavelets$Tape", "hear", "(I)I"⟩ ∈ gt := mem_gt (List.mem_of_getElem? (i := 703) (by decide +kernel)) rfl
theorem k_704 : Cond.instanceMethod ⟨"FreeWavelets$Tape", "hear", "(I)I"⟩ ∈ gt := mem_gt (List.mem_of_getElem? (i := 704) (by decide +kernel)) rfl
theorem k_706 : Cond.sameMethod "FreeWavelets$Tape" "FreeWavelets$Tape" "hear" "(I)I" ∈ gt := mem_gt (List.mem_of_getElem? (i := 706) (by decide +kernel)) rfl
theorem k_707 : Cond.selects "FreeWavelets$Eye" ⟨"FreeWavelets$Tape", "hear", "(I)I"⟩ ⟨"FreeWavelets$Tape", "hear", "(I)I"⟩ ∈ gt := mem_gt (List.mem_of_getElem? (i := 707) (by decide +kernel)) rfl
theorem k_709 : Cond.code ⟨"FreeWavelets$Tape", "hear", "(I)I"⟩ prog_9_method_6_code 5 (some .int) ∈ gt := mem_gt (List.mem_of_getElem? (i := 709) (by decide +kernel)) rfl
theorem k_710 : Cond.methodLink "FreeWavelets$Head" 51 ⟨"FreeWavelets$Picture", "begin", "(III)V"⟩ ∈ gt := mem_gt (List.mem_of_getElem? (i := 710) (by decide +kernel)) rfl
theorem k_711 : Cond.instanceMethod ⟨"FreeWavelets$Picture", "begin", "(III)V"⟩ ∈ gt := mem_gt (List.mem_of_getElem? (i := 711) (by decide +kernel)) rfl
theorem k_712 : Cond.selects "FreeWavelets$Picture" ⟨"FreeWavelets$Picture", "begin", "(III)V"⟩ ⟨"FreeWavelets$Picture", "begin", "(III)V"⟩ ∈ gt := mem_gt (List.mem_of_getElem? (i := 712) (by decide +kernel)) rfl
theorem k_713 : Cond.code ⟨"FreeWavelets$Picture", "begin", "(III)V"⟩ prog_7_method_5_code 4 none ∈ gt := mem_gt (List.mem_of_getElem? (i := 713) (by decide +kernel)) rfl
theorem k_714 : Cond.methodLink "FreeWavelets$Head" 55 ⟨"FreeWavelets$Head", "readRuns", "(LFreeWavelets$Tape;LFreeWavelets$Shape;)Z"⟩ ∈ gt := mem_gt (List.mem_of_getElem? (i := 714) (by decide +kernel)) rfl
theorem k_715 : Cond.static ⟨"FreeWavelets$Head", "readRuns", "(LFreeWavelets$Tape;LFreeWavelets$Shape;)Z"⟩ ∈ gt := mem_gt (List.mem_of_getElem? (i := 715) (by decide +kernel)) rfl
theorem k_716 : Cond.code ⟨"FreeWavelets$Head", "readRuns", "(LFreeWavelets$Tape;LFreeWavelets$Shape;)Z"⟩ prog_4_method_5_code 6 (some .boolean) ∈ gt := mem_gt (List.mem_of_getElem? (i := 716) (by decide +kernel)) rfl
theorem k_717 : Cond.methodLink "FreeWavelets$Head" 62 ⟨"FreeWavelets$Head", "readRun", "(LFreeWavelets$Tape;)I"⟩ ∈ gt := mem_gt (List.mem_of_getElem? (i := 717) (by decide +kernel)) rfl
theorem k_718 : Cond.static ⟨"FreeWavelets$Head", "readRun", "(LFreeWavelets$Tape;)I"⟩ ∈ gt := mem_gt (List.mem_of_getElem? (i := 718) (by decide +kernel)) rfl
theorem k_719 : Cond.code ⟨"FreeWavelets$Head", "readRun", "(LFreeWavelets$Tape;)I"⟩ prog_4_method_6_code 4 (some .int) ∈ gt := mem_gt (List.mem_of_getElem? (i := 719) (by decide +kernel)) rfl
theorem k_720 : Cond.methodLink "FreeWavelets$Head" 66 ⟨"FreeWavelets$Tape", "next", "(I)I"⟩ ∈ gt := mem_gt (List.mem_of_getElem? (i := 720) (by decide +kernel)) rfl
theorem k_726 : Cond.methodLink "FreeWavelets$Picture" 90 ⟨"FreeWavelets$Lifting", "back", "()V"⟩ ∈ gt := mem_gt (List.mem_of_getElem? (i := 726) (by decide +kernel)) rfl
theorem k_727 : Cond.instanceMethod ⟨"FreeWavelets$Lifting", "back", "()V"⟩ ∈ gt := mem_gt (List.mem_of_getElem? (i := 727) (by decide +kernel)) rfl
theorem k_728 : Cond.selects "FreeWavelets$Lifting" ⟨"FreeWavelets$Lifting", "back", "()V"⟩ ⟨"FreeWavelets$Lifting", "back", "()V"⟩ ∈ gt := mem_gt (List.mem_of_getElem? (i := 728) (by decide +kernel)) rfl
theorem k_729 : Cond.code ⟨"FreeWavelets$Lifting", "back", "()V"⟩ prog_5_method_3_code 2 none ∈ gt := mem_gt (List.mem_of_getElem? (i := 729) (by decide +kernel)) rfl
theorem k_769 : Cond.fieldLink "FreeWaveletsModel" 60 "FreeWaveletsModel" "code" "I" ∈ gt := mem_gt (List.mem_of_getElem? (i := 769) (by decide +kernel)) rfl
theorem k_770 : Cond.fieldLink "FreeWaveletsModel" 53 "FreeWaveletsModel" "width" "I" ∈ gt := mem_gt (List.mem_of_getElem? (i := 770) (by decide +kernel)) rfl
theorem k_771 : Cond.fieldLink "FreeWaveletsModel" 57 "FreeWaveletsModel" "height" "I" ∈ gt := mem_gt (List.mem_of_getElem? (i := 771) (by decide +kernel)) rfl
theorem k_772 : Cond.fieldLink "FreeWaveletsModel" 7 "FreeWaveletsModel" "inside" "[Z" ∈ gt := mem_gt (List.mem_of_getElem? (i := 772) (by decide +kernel)) rfl
theorem k_773 : Cond.fieldLink "FreeWaveletsModel" 13 "FreeWaveletsModel" "values" "[I" ∈ gt := mem_gt (List.mem_of_getElem? (i := 773) (by decide +kernel)) rfl
theorem k_774 : Cond.fieldLink "FreeWaveletsModel" 17 "FreeWaveletsModel" "partOf" "[I" ∈ gt := mem_gt (List.mem_of_getElem? (i := 774) (by decide +kernel)) rfl
theorem k_775 : Cond.fieldLink "FreeWaveletsModel" 20 "FreeWaveletsModel" "waves" "[I" ∈ gt := mem_gt (List.mem_of_getElem? (i := 775) (by decide +kernel)) rfl
theorem k_776 : Cond.fieldLink "FreeWaveletsModel" 173 "FreeWaveletsModel" "isRead" "Z" ∈ gt := mem_gt (List.mem_of_getElem? (i := 776) (by decide +kernel)) rfl
theorem k_777 : Cond.fieldLink "FreeWaveletsModel" 160 "FreeWaveletsModel" "readWide" "I" ∈ gt := mem_gt (List.mem_of_getElem? (i := 777) (by decide +kernel)) rfl
theorem k_778 : Cond.fieldLink "FreeWaveletsModel" 163 "FreeWaveletsModel" "readHigh" "I" ∈ gt := mem_gt (List.mem_of_getElem? (i := 778) (by decide +kernel)) rfl
theorem k_779 : Cond.fieldLink "FreeWaveletsModel" 157 "FreeWaveletsModel" "readPlanes" "I" ∈ gt := mem_gt (List.mem_of_getElem? (i := 779) (by decide +kernel)) rfl
theorem k_780 : Cond.fieldLink "FreeWaveletsModel" 23 "FreeWaveletsModel" "readInside" "[Z" ∈ gt := mem_gt (List.mem_of_getElem? (i := 780) (by decide +kernel)) rfl
theorem k_781 : Cond.fieldLink "FreeWaveletsModel" 26 "FreeWaveletsModel" "readPart" "[I" ∈ gt := mem_gt (List.mem_of_getElem? (i := 781) (by decide +kernel)) rfl
theorem k_782 : Cond.fieldLink "FreeWaveletsModel" 29 "FreeWaveletsModel" "readValues" "[I" ∈ gt := mem_gt (List.mem_of_getElem? (i := 782) (by decide +kernel)) rfl
theorem k_783 : Cond.fieldLink "FreeWaveletsModel" 32 "FreeWaveletsModel" "stream" "[I" ∈ gt := mem_gt (List.mem_of_getElem? (i := 783) (by decide +kernel)) rfl
theorem k_784 : Cond.fieldLink "FreeWaveletsModel" 145 "FreeWaveletsModel" "streamBits" "I" ∈ gt := mem_gt (List.mem_of_getElem? (i := 784) (by decide +kernel)) rfl
theorem k_785 : Cond.fieldLink "FreeWaveletsModel" 35 "FreeWaveletsModel" "zeros" "[I" ∈ gt := mem_gt (List.mem_of_getElem? (i := 785) (by decide +kernel)) rfl
theorem k_786 : Cond.fieldLink "FreeWaveletsModel" 38 "FreeWaveletsModel" "fed" "[I" ∈ gt := mem_gt (List.mem_of_getElem? (i := 786) (by decide +kernel)) rfl
theorem k_787 : Cond.fieldLink "FreeWaveletsModel" 151 "FreeWaveletsModel" "fedMany" "I" ∈ gt := mem_gt (List.mem_of_getElem? (i := 787) (by decide +kernel)) rfl
theorem k_788 : Cond.fieldLink "FreeWaveletsModel" 41 "FreeWaveletsModel" "pile" "[I" ∈ gt := mem_gt (List.mem_of_getElem? (i := 788) (by decide +kernel)) rfl
theorem k_789 : Cond.fieldLink "FreeWaveletsModel" 99 "FreeWaveletsModel" "mode" "I" ∈ gt := mem_gt (List.mem_of_getElem? (i := 789) (by decide +kernel)) rfl
theorem k_790 : Cond.fieldLink "FreeWaveletsModel" 96 "FreeWaveletsModel" "limit" "I" ∈ gt := mem_gt (List.mem_of_getElem? (i := 790) (by decide +kernel)) rfl
theorem k_791 : Cond.fieldLink "FreeWaveletsModel" 93 "FreeWaveletsModel" "count" "I" ∈ gt := mem_gt (List.mem_of_getElem? (i := 791) (by decide +kernel)) rfl
theorem k_792 : Cond.fieldLink "FreeWaveletsModel" 44 "FreeWaveletsModel" "open" "[Z" ∈ gt := mem_gt (List.mem_of_getElem? (i := 792) (by decide +kernel)) rfl
theorem k_793 : Cond.fieldLink "FreeWaveletsModel" 47 "FreeWaveletsModel" "sizes" "[I" ∈ gt := mem_gt (List.mem_of_getElem? (i := 793) (by decide +kernel)) rfl
theorem k_794 : Cond.fieldLink "FreeWaveletsModel" 50 "FreeWaveletsModel" "below" "[Z" ∈ gt := mem_gt (List.mem_of_getElem? (i := 794) (by decide +kernel)) rfl
theorem k_856 : Cond.methodLink "FreeWaveletsModel" 63 ⟨"FreeWaveletsModel", "isSample", "(II)Z"⟩ ∈ gt := mem_gt (List.mem_of_getElem? (i := 856) (by decide +kernel)) rfl
theorem k_858 : Cond.instanceMethod ⟨"FreeWaveletsModel", "isSample", "(II)Z"⟩ ∈ gt := mem_gt (List.mem_of_getElem? (i := 858) (by decide +kernel)) rfl
theorem k_859 : Cond.code ⟨"FreeWaveletsModel", "isSample", "(II)Z"⟩ prog_12_method_3_code 3 (some .boolean) ∈ gt := mem_gt (List.mem_of_getElem? (i := 859) (by decide +kernel)) rfl
theorem k_868 : Cond.constant "FreeWaveletsModel" 84 (100000) ∈ gt := mem_gt (List.mem_of_getElem? (i := 868) (by decide +kernel)) rfl
theorem k_869 : Cond.methodLink "FreeWaveletsModel" 85 ⟨"FreeWaveletsModel", "makeWaves", "()I"⟩ ∈ gt := mem_gt (List.mem_of_getElem? (i := 869) (by decide +kernel)) rfl
theorem k_871 : Cond.instanceMethod ⟨"FreeWaveletsModel", "makeWaves", "()I"⟩ ∈ gt := mem_gt (List.mem_of_getElem? (i := 871) (by decide +kernel)) rfl
theorem k_872 : Cond.code ⟨"FreeWaveletsModel", "makeWaves", "()I"⟩ prog_12_method_10_code 4 (some .int) ∈ gt := mem_gt (List.mem_of_getElem? (i := 872) (by decide +kernel)) rfl
theorem k_873 : Cond.methodLink "FreeWaveletsModel" 76 ⟨"FreeWaveletsModel", "number", "([Z[I)I"⟩ ∈ gt := mem_gt (List.mem_of_getElem? (i := 873) (by decide +kernel)) rfl
theorem k_875 : Cond.instanceMethod ⟨"FreeWaveletsModel", "number", "([Z[I)I"⟩ ∈ gt := mem_gt (List.mem_of_getElem? (i := 875) (by decide +kernel)) rfl
theorem k_876 : Cond.code ⟨"FreeWaveletsModel", "number", "([Z[I)I"⟩ prog_12_method_7_code 9 (some .int) ∈ gt := mem_gt (List.mem_of_getElem? (i := 876) (by decide +kernel)) rfl
theorem k_877 : Cond.methodLink "FreeWaveletsModel" 67 ⟨"FreeWaveletsModel", "beside", "(II)I"⟩ ∈ gt := mem_gt (List.mem_of_getElem? (i := 877) (by decide +kernel)) rfl
theorem k_878 : Cond.static ⟨"FreeWaveletsModel", "beside", "(II)I"⟩ ∈ gt := mem_gt (List.mem_of_getElem? (i := 878) (by decide +kernel)) rfl
theorem k_879 : Cond.code ⟨"FreeWaveletsModel", "beside", "(II)I"⟩ prog_12_method_6_code 4 (some .int) ∈ gt := mem_gt (List.mem_of_getElem? (i := 879) (by decide +kernel)) rfl
theorem k_880 : Cond.methodLink "FreeWaveletsModel" 80 ⟨"FreeWaveletsModel", "lift", "([I[IIZZZ)V"⟩ ∈ gt := mem_gt (List.mem_of_getElem? (i := 880) (by decide +kernel)) rfl
theorem k_881 : Cond.static ⟨"FreeWaveletsModel", "lift", "([I[IIZZZ)V"⟩ ∈ gt := mem_gt (List.mem_of_getElem? (i := 881) (by decide +kernel)) rfl
theorem k_882 : Cond.code ⟨"FreeWaveletsModel", "lift", "([I[IIZZZ)V"⟩ prog_12_method_9_code 12 none ∈ gt := mem_gt (List.mem_of_getElem? (i := 882) (by decide +kernel)) rfl
theorem k_883 : Cond.methodLink "FreeWaveletsModel" 72 ⟨"FreeWaveletsModel", "around", "([I[IIIZ)I"⟩ ∈ gt := mem_gt (List.mem_of_getElem? (i := 883) (by decide +kernel)) rfl
theorem k_884 : Cond.static ⟨"FreeWaveletsModel", "around", "([I[IIIZ)I"⟩ ∈ gt := mem_gt (List.mem_of_getElem? (i := 884) (by decide +kernel)) rfl
theorem k_885 : Cond.code ⟨"FreeWaveletsModel", "around", "([I[IIIZ)I"⟩ prog_12_method_8_code 9 (some .int) ∈ gt := mem_gt (List.mem_of_getElem? (i := 885) (by decide +kernel)) rfl
theorem k_886 : Cond.constant "FreeWaveletsModel" 71 (-2147483648) ∈ gt := mem_gt (List.mem_of_getElem? (i := 886) (by decide +kernel)) rfl
theorem k_891 : Cond.methodLink "FreeWaveletsModel" 130 ⟨"FreeWaveletsModel", "isCut", "(I)Z"⟩ ∈ gt := mem_gt (List.mem_of_getElem? (i := 891) (by decide +kernel)) rfl
theorem k_892 : Cond.static ⟨"FreeWaveletsModel", "isCut", "(I)Z"⟩ ∈ gt := mem_gt (List.mem_of_getElem? (i := 892) (by decide +kernel)) rfl
theorem k_893 : Cond.code ⟨"FreeWaveletsModel", "isCut", "(I)Z"⟩ prog_12_method_25_code 1 (some .boolean) ∈ gt := mem_gt (List.mem_of_getElem? (i := 893) (by decide +kernel)) rfl
theorem k_894 : Cond.constant "FreeWaveletsModel" 129 (60000) ∈ gt := mem_gt (List.mem_of_getElem? (i := 894) (by decide +kernel)) rfl
theorem k_895 : Cond.methodLink "FreeWaveletsModel" 134 ⟨"FreeWaveletsModel", "begin", "(II)V"⟩ ∈ gt := mem_gt (List.mem_of_getElem? (i := 895) (by decide +kernel)) rfl
theorem k_897 : Cond.instanceMethod ⟨"FreeWaveletsModel", "begin", "(II)V"⟩ ∈ gt := mem_gt (List.mem_of_getElem? (i := 897) (by decide +kernel)) rfl
theorem k_898 : Cond.code ⟨"FreeWaveletsModel", "begin", "(II)V"⟩ prog_12_method_23_code 4 none ∈ gt := mem_gt (List.mem_of_getElem? (i := 898) (by decide +kernel)) rfl
theorem k_899 : Cond.methodLink "FreeWaveletsModel" 138 ⟨"FreeWaveletsModel", "tellHead", "()V"⟩ ∈ gt := mem_gt (List.mem_of_getElem? (i := 899) (by decide +kernel)) rfl
theorem k_901 : Cond.instanceMethod ⟨"FreeWaveletsModel", "tellHead", "()V"⟩ ∈ gt := mem_gt (List.mem_of_getElem? (i := 901) (by decide +kernel)) rfl
theorem k_902 : Cond.code ⟨"FreeWaveletsModel", "tellHead", "()V"⟩ prog_12_method_17_code 7 none ∈ gt := mem_gt (List.mem_of_getElem? (i := 902) (by decide +kernel)) rfl
theorem k_903 : Cond.methodLink "FreeWaveletsModel" 105 ⟨"FreeWaveletsModel", "tell", "(II)Z"⟩ ∈ gt := mem_gt (List.mem_of_getElem? (i := 903) (by decide +kernel)) rfl
theorem k_905 : Cond.instanceMethod ⟨"FreeWaveletsModel", "tell", "(II)Z"⟩ ∈ gt := mem_gt (List.mem_of_getElem? (i := 905) (by decide +kernel)) rfl
theorem k_906 : Cond.code ⟨"FreeWaveletsModel", "tell", "(II)Z"⟩ prog_12_method_16_code 5 (some .boolean) ∈ gt := mem_gt (List.mem_of_getElem? (i := 906) (by decide +kernel)) rfl
theorem k_907 : Cond.methodLink "FreeWaveletsModel" 102 ⟨"FreeWaveletsModel", "bit", "(I)I"⟩ ∈ gt := mem_gt (List.mem_of_getElem? (i := 907) (by decide +kernel)) rfl
theorem k_909 : Cond.instanceMethod ⟨"FreeWaveletsModel", "bit", "(I)I"⟩ ∈ gt := mem_gt (List.mem_of_getElem? (i := 909) (by decide +kernel)) rfl
theorem k_910 : Cond.code ⟨"FreeWaveletsModel", "bit", "(I)I"⟩ prog_12_method_15_code 3 (some .int) ∈ gt := mem_gt (List.mem_of_getElem? (i := 910) (by decide +kernel)) rfl
theorem k_911 : Cond.methodLink "FreeWaveletsModel" 108 ⟨"FreeWaveletsModel", "planesNow", "()I"⟩ ∈ gt := mem_gt (List.mem_of_getElem? (i := 911) (by decide +kernel)) rfl
theorem k_913 : Cond.instanceMethod ⟨"FreeWaveletsModel", "planesNow", "()I"⟩ ∈ gt := mem_gt (List.mem_of_getElem? (i := 913) (by decide +kernel)) rfl
theorem k_914 : Cond.code ⟨"FreeWaveletsModel", "planesNow", "()I"⟩ prog_12_method_14_code 3 (some .int) ∈ gt := mem_gt (List.mem_of_getElem? (i := 914) (by decide +kernel)) rfl
theorem k_915 : Cond.methodLink "FreeWaveletsModel" 89 ⟨"FreeWaveletsModel", "size", "(I)I"⟩ ∈ gt := mem_gt (List.mem_of_getElem? (i := 915) (by decide +kernel)) rfl
theorem k_916 : Cond.static ⟨"FreeWaveletsModel", "size", "(I)I"⟩ ∈ gt := mem_gt (List.mem_of_getElem? (i := 916) (by decide +kernel)) rfl
theorem k_917 : Cond.code ⟨"FreeWaveletsModel", "size", "(I)I"⟩ prog_12_method_13_code 1 (some .int) ∈ gt := mem_gt (List.mem_of_getElem? (i := 917) (by decide +kernel)) rfl
theorem k_918 : Cond.methodLink "FreeWaveletsModel" 141 ⟨"FreeWaveletsModel", "goThrough", "([Z[II)V"⟩ ∈ gt := mem_gt (List.mem_of_getElem? (i := 918) (by decide +kernel)) rfl
theorem k_920 : Cond.instanceMethod ⟨"FreeWaveletsModel", "goThrough", "([Z[II)V"⟩ ∈ gt := mem_gt (List.mem_of_getElem? (i := 920) (by decide +kernel)) rfl
theorem k_921 : Cond.code ⟨"FreeWaveletsModel", "goThrough", "([Z[II)V"⟩ prog_12_method_24_code 7 none ∈ gt := mem_gt (List.mem_of_getElem? (i := 921) (by decide +kernel)) rfl
theorem k_922 : Cond.methodLink "FreeWaveletsModel" 125 ⟨"FreeWaveletsModel", "goSquare", "([Z[III)Z"⟩ ∈ gt := mem_gt (List.mem_of_getElem? (i := 922) (by decide +kernel)) rfl
theorem k_924 : Cond.instanceMethod ⟨"FreeWaveletsModel", "goSquare", "([Z[III)Z"⟩ ∈ gt := mem_gt (List.mem_of_getElem? (i := 924) (by decide +kernel)) rfl
theorem k_925 : Cond.code ⟨"FreeWaveletsModel", "goSquare", "([Z[III)Z"⟩ prog_12_method_21_code 12 (some .boolean) ∈ gt := mem_gt (List.mem_of_getElem? (i := 925) (by decide +kernel)) rfl
theorem k_926 : Cond.methodLink "FreeWaveletsModel" 114 ⟨"FreeWaveletsModel", "greatest", "([Z[IIII)I"⟩ ∈ gt := mem_gt (List.mem_of_getElem? (i := 926) (by decide +kernel)) rfl
theorem k_927 : Cond.static ⟨"FreeWaveletsModel", "greatest", "([Z[IIII)I"⟩ ∈ gt := mem_gt (List.mem_of_getElem? (i := 927) (by decide +kernel)) rfl
theorem k_928 : Cond.code ⟨"FreeWaveletsModel", "greatest", "([Z[IIII)I"⟩ prog_12_method_20_code 8 (some .int) ∈ gt := mem_gt (List.mem_of_getElem? (i := 928) (by decide +kernel)) rfl
theorem k_929 : Cond.methodLink "FreeWaveletsModel" 111 ⟨"FreeWaveletsModel", "sample", "(II)I"⟩ ∈ gt := mem_gt (List.mem_of_getElem? (i := 929) (by decide +kernel)) rfl
theorem k_930 : Cond.static ⟨"FreeWaveletsModel", "sample", "(II)I"⟩ ∈ gt := mem_gt (List.mem_of_getElem? (i := 930) (by decide +kernel)) rfl
theorem k_931 : Cond.code ⟨"FreeWaveletsModel", "sample", "(II)I"⟩ prog_12_method_19_code 4 (some .int) ∈ gt := mem_gt (List.mem_of_getElem? (i := 931) (by decide +kernel)) rfl
theorem k_932 : Cond.methodLink "FreeWaveletsModel" 118 ⟨"FreeWaveletsModel", "goSample", "(I[IIZ)Z"⟩ ∈ gt := mem_gt (List.mem_of_getElem? (i := 932) (by decide +kernel)) rfl
theorem k_934 : Cond.instanceMethod ⟨"FreeWaveletsModel", "goSample", "(I[IIZ)Z"⟩ ∈ gt := mem_gt (List.mem_of_getElem? (i := 934) (by decide +kernel)) rfl
theorem k_935 : Cond.code ⟨"FreeWaveletsModel", "goSample", "(I[IIZ)Z"⟩ prog_12_method_22_code 6 (some .boolean) ∈ gt := mem_gt (List.mem_of_getElem? (i := 935) (by decide +kernel)) rfl
theorem k_936 : Cond.methodLink "FreeWaveletsModel" 122 ⟨"FreeWaveletsModel", "level", "(I)I"⟩ ∈ gt := mem_gt (List.mem_of_getElem? (i := 936) (by decide +kernel)) rfl
theorem k_937 : Cond.static ⟨"FreeWaveletsModel", "level", "(I)I"⟩ ∈ gt := mem_gt (List.mem_of_getElem? (i := 937) (by decide +kernel)) rfl
theorem k_938 : Cond.code ⟨"FreeWaveletsModel", "level", "(I)I"⟩ prog_12_method_18_code 1 (some .int) ∈ gt := mem_gt (List.mem_of_getElem? (i := 938) (by decide +kernel)) rfl
theorem k_943 : Cond.methodLink "FreeWaveletsModel" 148 ⟨"FreeWaveletsModel", "streamBytes", "()I"⟩ ∈ gt := mem_gt (List.mem_of_getElem? (i := 943) (by decide +kernel)) rfl
theorem k_945 : Cond.instanceMethod ⟨"FreeWaveletsModel", "streamBytes", "()I"⟩ ∈ gt := mem_gt (List.mem_of_getElem? (i := 945) (by decide +kernel)) rfl
theorem k_946 : Cond.code ⟨"FreeWaveletsModel", "streamBytes", "()I"⟩ prog_12_method_27_code 1 (some .int) ∈ gt := mem_gt (List.mem_of_getElem? (i := 946) (by decide +kernel)) rfl
theorem k_971 : Cond.methodLink "FreeWaveletsModel" 169 ⟨"FreeWaveletsModel", "hearHead", "()Z"⟩ ∈ gt := mem_gt (List.mem_of_getElem? (i := 971) (by decide +kernel)) rfl
theorem k_973 : Cond.instanceMethod ⟨"FreeWaveletsModel", "hearHead", "()Z"⟩ ∈ gt := mem_gt (List.mem_of_getElem? (i := 973) (by decide +kernel)) rfl
theorem k_974 : Cond.code ⟨"FreeWaveletsModel", "hearHead", "()Z"⟩ prog_12_method_36_code 8 (some .boolean) ∈ gt := mem_gt (List.mem_of_getElem? (i := 974) (by decide +kernel)) rfl
theorem k_975 : Cond.methodLink "FreeWaveletsModel" 154 ⟨"FreeWaveletsModel", "hear", "(I)I"⟩ ∈ gt := mem_gt (List.mem_of_getElem? (i := 975) (by decide +kernel)) rfl
theorem k_977 : Cond.instanceMethod ⟨"FreeWaveletsModel", "hear", "(I)I"⟩ ∈ gt := mem_gt (List.mem_of_getElem? (i := 977) (by decide +kernel)) rfl
theorem k_978 : Cond.code ⟨"FreeWaveletsModel", "hear", "(I)I"⟩ prog_12_method_34_code 5 (some .int) ∈ gt := mem_gt (List.mem_of_getElem? (i := 978) (by decide +kernel)) rfl
theorem k_979 : Cond.methodLink "FreeWaveletsModel" 166 ⟨"FreeWaveletsModel", "hearRun", "()I"⟩ ∈ gt := mem_gt (List.mem_of_getElem? (i := 979) (by decide +kernel)) rfl
theorem k_981 : Cond.instanceMethod ⟨"FreeWaveletsModel", "hearRun", "()I"⟩ ∈ gt := mem_gt (List.mem_of_getElem? (i := 981) (by decide +kernel)) rfl
theorem k_982 : Cond.code ⟨"FreeWaveletsModel", "hearRun", "()I"⟩ prog_12_method_35_code 4 (some .int) ∈ gt := mem_gt (List.mem_of_getElem? (i := 982) (by decide +kernel)) rfl
theorem k_983 : Cond.methodLink "FreeWaveletsModel" 177 ⟨"FreeWaveletsModel", "liftBack", "([I[I)V"⟩ ∈ gt := mem_gt (List.mem_of_getElem? (i := 983) (by decide +kernel)) rfl
theorem k_984 : Cond.static ⟨"FreeWaveletsModel", "liftBack", "([I[I)V"⟩ ∈ gt := mem_gt (List.mem_of_getElem? (i := 984) (by decide +kernel)) rfl
theorem k_985 : Cond.code ⟨"FreeWaveletsModel", "liftBack", "([I[I)V"⟩ prog_12_method_11_code 4 none ∈ gt := mem_gt (List.mem_of_getElem? (i := 985) (by decide +kernel)) rfl
theorem k_998 : Cond.methodLink "FreeWaveletsModel" 181 ⟨"FreeWaveletsModel", "many", "([Z)I"⟩ ∈ gt := mem_gt (List.mem_of_getElem? (i := 998) (by decide +kernel)) rfl
theorem k_999 : Cond.static ⟨"FreeWaveletsModel", "many", "([Z)I"⟩ ∈ gt := mem_gt (List.mem_of_getElem? (i := 999) (by decide +kernel)) rfl
theorem k_1000 : Cond.code ⟨"FreeWaveletsModel", "many", "([Z)I"⟩ prog_12_method_40_code 3 (some .int) ∈ gt := mem_gt (List.mem_of_getElem? (i := 1000) (by decide +kernel)) rfl
theorem k_1001 : Cond.methodLink "FreeWaveletsModel" 185 ⟨"FreeWaveletsModel", "headBits", "()I"⟩ ∈ gt := mem_gt (List.mem_of_getElem? (i := 1001) (by decide +kernel)) rfl
theorem k_1003 : Cond.instanceMethod ⟨"FreeWaveletsModel", "headBits", "()I"⟩ ∈ gt := mem_gt (List.mem_of_getElem? (i := 1003) (by decide +kernel)) rfl
theorem k_1004 : Cond.code ⟨"FreeWaveletsModel", "headBits", "()I"⟩ prog_12_method_41_code 1 (some .int) ∈ gt := mem_gt (List.mem_of_getElem? (i := 1004) (by decide +kernel)) rfl
theorem k_1010 : Cond.selects "FreeWavelets$Pen" ⟨"FreeWavelets$Pen", "start", "(I)V"⟩ ⟨"FreeWavelets$Pen", "start", "(I)V"⟩ ∈ gt := mem_gt (List.mem_of_getElem? (i := 1010) (by decide +kernel)) rfl
