/-! Names: classes, fields, methods; the fixed part of the world. Printed by wip/genparts.py. -/
def R_D : String := "LazyGraphs$Definition"
def T_D : u_T := fun k => match k with
  | 0 => ("LazyGraphs$Definition", "signs", "[C", true)
  | 1 => ("LazyGraphs$Definition", "nextPart", "[I", true)
  | 2 => ("LazyGraphs$Definition", "binder", "[I", true)
  | _ => ("LazyGraphs$Definition", "parameterCount", "I", false)
def ty_D : Nat → FieldType := fun k => match k with
  | 0 => .array .char
  | 1 => .array .int
  | 2 => .array .int
  | _ => .int
def R_G : String := "LazyGraphs$Graph"
def T_G : u_T := fun k => match k with
  | 0 => ("LazyGraphs$Graph", "definitions", "[LLazyGraphs$Definition;", true)
  | 1 => ("LazyGraphs$Graph", "bodies", "[LLazyGraphs$Definition;", true)
  | 2 => ("LazyGraphs$Graph", "constants", "[I", true)
  | 3 => ("LazyGraphs$Graph", "state", "[I", true)
  | 4 => ("LazyGraphs$Graph", "value", "[I", true)
  | 5 => ("LazyGraphs$Graph", "taker", "[I", true)
  | 6 => ("LazyGraphs$Graph", "applied", "[I", true)
  | 7 => ("LazyGraphs$Graph", "used", "[I", true)
  | 8 => ("LazyGraphs$Graph", "waiting", "[I", true)
  | 9 => ("LazyGraphs$Graph", "waitingCount", "I", false)
  | 10 => ("LazyGraphs$Graph", "rootLetter", "I", false)
  | 11 => ("LazyGraphs$Graph", "allowed", "I", false)
  | 12 => ("LazyGraphs$Graph", "entered", "I", false)
  | _ => ("LazyGraphs$Graph", "end", "I", false)
def ty_G : Nat → FieldType := fun k => match k with
  | 0 => .array (.object "LazyGraphs$Definition")
  | 1 => .array (.object "LazyGraphs$Definition")
  | 2 => .array .int
  | 3 => .array .int
  | 4 => .array .int
  | 5 => .array .int
  | 6 => .array .int
  | 7 => .array .int
  | 8 => .array .int
  | 9 => .int
  | 10 => .int
  | 11 => .int
  | 12 => .int
  | _ => .int
def R_R : String := "LazyGraphs$Reader"
def T_R : u_T := fun k => match k with
  | 0 => ("LazyGraphs$Reader", "definition", "LLazyGraphs$Definition;", true)
  | 1 => ("LazyGraphs$Reader", "scope", "[I", true)
  | 2 => ("LazyGraphs$Reader", "at", "I", false)
  | 3 => ("LazyGraphs$Reader", "faulty", "Z", false)
  | _ => ("LazyGraphs$Reader", "stray", "I", false)
def ty_R : Nat → FieldType := fun k => match k with
  | 0 => .object "LazyGraphs$Definition"
  | 1 => .array .int
  | 2 => .int
  | 3 => .boolean
  | _ => .int
def R_W : String := "LazyGraphs$Writer"
def T_W : u_T := fun k => match k with
  | 0 => ("LazyGraphs$Writer", "page", "[C", true)
  | 1 => ("LazyGraphs$Writer", "written", "I", false)
  | 2 => ("LazyGraphs$Writer", "open", "[I", true)
  | 3 => ("LazyGraphs$Writer", "openCount", "I", false)
  | 4 => ("LazyGraphs$Writer", "due", "I", false)
  | _ => ("LazyGraphs$Writer", "goesOn", "Z", false)
def ty_W : Nat → FieldType := fun k => match k with
  | 0 => .array .char
  | 1 => .int
  | 2 => .array .int
  | 3 => .int
  | 4 => .int
  | _ => .boolean
def R_F : String := "LazyGraphs"
def T_F : u_T := fun k => match k with
  | 0 => ("LazyGraphs", "text", "[C", true)
  | 1 => ("LazyGraphs", "typed", "I", false)
  | 2 => ("LazyGraphs", "graph", "LLazyGraphs$Graph;", true)
  | _ => ("LazyGraphs", "writer", "LLazyGraphs$Writer;", true)
def ty_F : Nat → FieldType := fun k => match k with
  | 0 => .array .char
  | 1 => .int
  | 2 => .object "LazyGraphs$Graph"
  | _ => .object "LazyGraphs$Writer"
def R_M : String := "LazyGraphsModel"
def T_M : u_T := fun k => match k with
  | 0 => ("LazyGraphsModel", "fault", "I", false)
  | 1 => ("LazyGraphsModel", "typed", "I", false)
  | 2 => ("LazyGraphsModel", "text", "[I", true)
  | 3 => ("LazyGraphsModel", "written", "I", false)
  | 4 => ("LazyGraphsModel", "page", "[I", true)
  | 5 => ("LazyGraphsModel", "defined", "[Z", true)
  | 6 => ("LazyGraphsModel", "many", "[I", true)
  | 7 => ("LazyGraphsModel", "parameter", "[I", true)
  | 8 => ("LazyGraphsModel", "op", "[I", true)
  | 9 => ("LazyGraphsModel", "val", "[I", true)
  | 10 => ("LazyGraphsModel", "more", "[I", true)
  | 11 => ("LazyGraphsModel", "place", "[I", true)
  | 12 => ("LazyGraphsModel", "nodes", "I", false)
  | 13 => ("LazyGraphsModel", "waiting", "I", false)
  | 14 => ("LazyGraphsModel", "expect", "[I", true)
  | 15 => ("LazyGraphsModel", "about", "[I", true)
  | 16 => ("LazyGraphsModel", "deep", "[I", true)
  | 17 => ("LazyGraphsModel", "promises", "I", false)
  | 18 => ("LazyGraphsModel", "state", "[I", true)
  | 19 => ("LazyGraphsModel", "code", "[I", true)
  | 20 => ("LazyGraphsModel", "around", "[I", true)
  | 21 => ("LazyGraphsModel", "kept", "[I", true)
  | 22 => ("LazyGraphsModel", "own", "[I", true)
  | 23 => ("LazyGraphsModel", "cells", "I", false)
  | 24 => ("LazyGraphsModel", "cell", "[I", true)
  | 25 => ("LazyGraphsModel", "bound", "I", false)
  | 26 => ("LazyGraphsModel", "name", "[I", true)
  | 27 => ("LazyGraphsModel", "meaning", "[I", true)
  | 28 => ("LazyGraphsModel", "outer", "[I", true)
  | 29 => ("LazyGraphsModel", "frames", "I", false)
  | 30 => ("LazyGraphsModel", "wait", "[I", true)
  | 31 => ("LazyGraphsModel", "two", "[I", true)
  | 32 => ("LazyGraphsModel", "most", "I", false)
  | 33 => ("LazyGraphsModel", "entries", "I", false)
  | 34 => ("LazyGraphsModel", "end", "I", false)
  | 35 => ("LazyGraphsModel", "node", "I", false)
  | 36 => ("LazyGraphsModel", "names", "I", false)
  | 37 => ("LazyGraphsModel", "kind", "I", false)
  | _ => ("LazyGraphsModel", "value", "I", false)
def ty_M : Nat → FieldType := fun k => match k with
  | 0 => .int
  | 1 => .int
  | 2 => .array .int
  | 3 => .int
  | 4 => .array .int
  | 5 => .array .boolean
  | 6 => .array .int
  | 7 => .array .int
  | 8 => .array .int
  | 9 => .array .int
  | 10 => .array .int
  | 11 => .array .int
  | 12 => .int
  | 13 => .int
  | 14 => .array .int
  | 15 => .array .int
  | 16 => .array .int
  | 17 => .int
  | 18 => .array .int
  | 19 => .array .int
  | 20 => .array .int
  | 21 => .array .int
  | 22 => .array .int
  | 23 => .int
  | 24 => .array .int
  | 25 => .int
  | 26 => .array .int
  | 27 => .array .int
  | 28 => .array .int
  | 29 => .int
  | 30 => .array .int
  | 31 => .array .int
  | 32 => .int
  | 33 => .int
  | 34 => .int
  | 35 => .int
  | 36 => .int
  | 37 => .int
  | _ => .int
def R_L : String := "LazyGraphsLaw"
abbrev zCl : List vw_C := [(R_D, T_D, 4), (R_G, T_G, 14), (R_R, T_R, 5), (R_W, T_W, 6), (R_F, T_F, 4), (R_M, T_M, 39)]
abbrev zKT : List FieldType := [.char, .int, .object "LazyGraphs$Definition", .boolean, .long]
abbrev zAO : List String := ["LazyGraphs$Definition"]
abbrev c_F_init : ByteArray := prog_1_method_1_code
def y_F_init : MethodName := ⟨R_F, "<init>", "()V"⟩
abbrev c_F_type : ByteArray := prog_1_method_2_code
def y_F_type : MethodName := ⟨R_F, "type", "(C)Z"⟩
abbrev c_F_wipe : ByteArray := prog_1_method_3_code
def y_F_wipe : MethodName := ⟨R_F, "wipe", "()I"⟩
abbrev c_F_define : ByteArray := prog_1_method_4_code
def y_F_define : MethodName := ⟨R_F, "define", "(C)I"⟩
abbrev c_F_forget : ByteArray := prog_1_method_5_code
def y_F_forget : MethodName := ⟨R_F, "forget", "(C)V"⟩
abbrev c_F_parameters : ByteArray := prog_1_method_6_code
def y_F_parameters : MethodName := ⟨R_F, "parameters", "(C)I"⟩
abbrev c_F_run : ByteArray := prog_1_method_7_code
def y_F_run : MethodName := ⟨R_F, "run", "(CI)I"⟩
abbrev c_F_entries : ByteArray := prog_1_method_8_code
def y_F_entries : MethodName := ⟨R_F, "entries", "()I"⟩
abbrev c_F_length : ByteArray := prog_1_method_9_code
def y_F_length : MethodName := ⟨R_F, "length", "()I"⟩
abbrev c_F_charAt : ByteArray := prog_1_method_10_code
def y_F_charAt : MethodName := ⟨R_F, "charAt", "(I)C"⟩
abbrev c_F_letterNumber : ByteArray := prog_1_method_11_code
def y_F_letterNumber : MethodName := ⟨R_F, "letterNumber", "(C)I"⟩
abbrev c_F_checkDefined : ByteArray := prog_1_method_12_code
def y_F_checkDefined : MethodName := ⟨R_F, "checkDefined", "(I)V"⟩
abbrev c_F_isLetter : ByteArray := prog_1_method_13_code
def y_F_isLetter : MethodName := ⟨R_F, "isLetter", "(C)Z"⟩
abbrev c_F_isVariable : ByteArray := prog_1_method_14_code
def y_F_isVariable : MethodName := ⟨R_F, "isVariable", "(C)Z"⟩
abbrev c_F_isDigit : ByteArray := prog_1_method_15_code
def y_F_isDigit : MethodName := ⟨R_F, "isDigit", "(C)Z"⟩
abbrev c_M_init : ByteArray := prog_7_method_1_code
def y_M_init : MethodName := ⟨R_M, "<init>", "()V"⟩
abbrev c_M_thrown : ByteArray := prog_7_method_2_code
def y_M_thrown : MethodName := ⟨R_M, "thrown", "()I"⟩
abbrev c_M_isVariable : ByteArray := prog_7_method_3_code
def y_M_isVariable : MethodName := ⟨R_M, "isVariable", "(I)Z"⟩
abbrev c_M_isLetter : ByteArray := prog_7_method_4_code
def y_M_isLetter : MethodName := ⟨R_M, "isLetter", "(I)Z"⟩
abbrev c_M_type : ByteArray := prog_7_method_5_code
def y_M_type : MethodName := ⟨R_M, "type", "(C)Z"⟩
abbrev c_M_wipe : ByteArray := prog_7_method_6_code
def y_M_wipe : MethodName := ⟨R_M, "wipe", "()I"⟩
abbrev c_M_push : ByteArray := prog_7_method_7_code
def y_M_push : MethodName := ⟨R_M, "push", "(III)V"⟩
abbrev c_M_add : ByteArray := prog_7_method_8_code
def y_M_add : MethodName := ⟨R_M, "add", "(III)I"⟩
abbrev c_M_pushExpressions : ByteArray := prog_7_method_9_code
def y_M_pushExpressions : MethodName := ⟨R_M, "pushExpressions", "(II)V"⟩
abbrev c_M_isOperator : ByteArray := prog_7_method_10_code
def y_M_isOperator : MethodName := ⟨R_M, "isOperator", "(I)Z"⟩
abbrev c_M_begin : ByteArray := prog_7_method_11_code
def y_M_begin : MethodName := ⟨R_M, "begin", "(III)Z"⟩
abbrev c_M_take : ByteArray := prog_7_method_12_code
def y_M_take : MethodName := ⟨R_M, "take", "(II)Z"⟩
abbrev c_M_below : ByteArray := prog_7_method_13_code
def y_M_below : MethodName := ⟨R_M, "below", "(I)I"⟩
abbrev c_M_behind : ByteArray := prog_7_method_14_code
def y_M_behind : MethodName := ⟨R_M, "behind", "(I)I"⟩
abbrev c_M_child : ByteArray := prog_7_method_15_code
def y_M_child : MethodName := ⟨R_M, "child", "(II)I"⟩
abbrev c_M_isBound : ByteArray := prog_7_method_16_code
def y_M_isBound : MethodName := ⟨R_M, "isBound", "(I)Z"⟩
abbrev c_M_read : ByteArray := prog_7_method_17_code
def y_M_read : MethodName := ⟨R_M, "read", "()I"⟩
abbrev c_M_define : ByteArray := prog_7_method_18_code
def y_M_define : MethodName := ⟨R_M, "define", "(C)I"⟩
abbrev c_M_forget : ByteArray := prog_7_method_19_code
def y_M_forget : MethodName := ⟨R_M, "forget", "(C)V"⟩
abbrev c_M_parameters : ByteArray := prog_7_method_20_code
def y_M_parameters : MethodName := ⟨R_M, "parameters", "(C)I"⟩
abbrev c_M_newPromise : ByteArray := prog_7_method_21_code
def y_M_newPromise : MethodName := ⟨R_M, "newPromise", "(II)I"⟩
abbrev c_M_promise : ByteArray := prog_7_method_22_code
def y_M_promise : MethodName := ⟨R_M, "promise", "(II)I"⟩
abbrev c_M_looked : ByteArray := prog_7_method_23_code
def y_M_looked : MethodName := ⟨R_M, "looked", "(II)I"⟩
abbrev c_M_bind : ByteArray := prog_7_method_24_code
def y_M_bind : MethodName := ⟨R_M, "bind", "(III)I"⟩
abbrev c_M_store : ByteArray := prog_7_method_25_code
def y_M_store : MethodName := ⟨R_M, "store", "(I)I"⟩
abbrev c_M_stack : ByteArray := prog_7_method_26_code
def y_M_stack : MethodName := ⟨R_M, "stack", "(III)V"⟩
abbrev c_M_evaluate : ByteArray := prog_7_method_27_code
def y_M_evaluate : MethodName := ⟨R_M, "evaluate", "(II)V"⟩
abbrev c_M_found : ByteArray := prog_7_method_28_code
def y_M_found : MethodName := ⟨R_M, "found", "(II)V"⟩
abbrev c_M_nothing : ByteArray := prog_7_method_29_code
def y_M_nothing : MethodName := ⟨R_M, "nothing", "()V"⟩
abbrev c_M_enter : ByteArray := prog_7_method_30_code
def y_M_enter : MethodName := ⟨R_M, "enter", "(II)V"⟩
abbrev c_M_need : ByteArray := prog_7_method_31_code
def y_M_need : MethodName := ⟨R_M, "need", "(I)V"⟩
abbrev c_M_letter : ByteArray := prog_7_method_32_code
def y_M_letter : MethodName := ⟨R_M, "letter", "(I)V"⟩
abbrev c_M_body : ByteArray := prog_7_method_33_code
def y_M_body : MethodName := ⟨R_M, "body", "(I)V"⟩
abbrev c_M_pair : ByteArray := prog_7_method_34_code
def y_M_pair : MethodName := ⟨R_M, "pair", "(II)V"⟩
abbrev c_M_let : ByteArray := prog_7_method_35_code
def y_M_let : MethodName := ⟨R_M, "let", "(II)V"⟩
abbrev c_M_step : ByteArray := prog_7_method_36_code
def y_M_step : MethodName := ⟨R_M, "step", "()V"⟩
abbrev c_M_feed : ByteArray := prog_7_method_37_code
def y_M_feed : MethodName := ⟨R_M, "feed", "(III)V"⟩
abbrev c_M_extend : ByteArray := prog_7_method_38_code
def y_M_extend : MethodName := ⟨R_M, "extend", "(IIII)V"⟩
abbrev c_M_rekon : ByteArray := prog_7_method_39_code
def y_M_rekon : MethodName := ⟨R_M, "rekon", "(III)I"⟩
abbrev c_M_counted : ByteArray := prog_7_method_40_code
def y_M_counted : MethodName := ⟨R_M, "counted", "(III)V"⟩
abbrev c_M_part : ByteArray := prog_7_method_41_code
def y_M_part : MethodName := ⟨R_M, "part", "(II)V"⟩
abbrev c_M_put : ByteArray := prog_7_method_42_code
def y_M_put : MethodName := ⟨R_M, "put", "(I)V"⟩
abbrev c_M_putNumber : ByteArray := prog_7_method_43_code
def y_M_putNumber : MethodName := ⟨R_M, "putNumber", "(I)V"⟩
abbrev c_M_writePair : ByteArray := prog_7_method_44_code
def y_M_writePair : MethodName := ⟨R_M, "writePair", "(I)V"⟩
abbrev c_M_write : ByteArray := prog_7_method_45_code
def y_M_write : MethodName := ⟨R_M, "write", "()V"⟩
abbrev c_M_tail : ByteArray := prog_7_method_46_code
def y_M_tail : MethodName := ⟨R_M, "tail", "()V"⟩
abbrev c_M_goOn : ByteArray := prog_7_method_47_code
def y_M_goOn : MethodName := ⟨R_M, "goOn", "()V"⟩
abbrev c_M_run : ByteArray := prog_7_method_48_code
def y_M_run : MethodName := ⟨R_M, "run", "(CI)I"⟩
abbrev c_M_entries : ByteArray := prog_7_method_49_code
def y_M_entries : MethodName := ⟨R_M, "entries", "()I"⟩
abbrev c_M_length : ByteArray := prog_7_method_50_code
def y_M_length : MethodName := ⟨R_M, "length", "()I"⟩
abbrev c_M_charAt : ByteArray := prog_7_method_51_code
def y_M_charAt : MethodName := ⟨R_M, "charAt", "(I)C"⟩
abbrev c_D_init : ByteArray := prog_2_method_1_code
def y_D_init : MethodName := ⟨R_D, "<init>", "([CI)V"⟩
abbrev c_G_init : ByteArray := prog_3_method_1_code
def y_G_init : MethodName := ⟨R_G, "<init>", "()V"⟩
abbrev c_G_parameterCount : ByteArray := prog_3_method_2_code
def y_G_parameterCount : MethodName := ⟨R_G, "parameterCount", "(I)I"⟩
abbrev c_G_begin : ByteArray := prog_3_method_3_code
def y_G_begin : MethodName := ⟨R_G, "begin", "(II)V"⟩
abbrev c_G_need : ByteArray := prog_3_method_4_code
def y_G_need : MethodName := ⟨R_G, "need", "(I)Z"⟩
abbrev c_G_head : ByteArray := prog_3_method_5_code
def y_G_head : MethodName := ⟨R_G, "head", "(I)I"⟩
abbrev c_G_tail : ByteArray := prog_3_method_6_code
def y_G_tail : MethodName := ⟨R_G, "tail", "(I)I"⟩
abbrev c_G_request : ByteArray := prog_3_method_7_code
def y_G_request : MethodName := ⟨R_G, "request", "(I)Z"⟩
abbrev c_G_keep : ByteArray := prog_3_method_8_code
def y_G_keep : MethodName := ⟨R_G, "keep", "(III)V"⟩
abbrev c_G_keepAs : ByteArray := prog_3_method_9_code
def y_G_keepAs : MethodName := ⟨R_G, "keepAs", "(II)V"⟩
abbrev c_G_lookAt : ByteArray := prog_3_method_10_code
def y_G_lookAt : MethodName := ⟨R_G, "lookAt", "(I)V"⟩
abbrev c_G_lookAtLetter : ByteArray := prog_3_method_11_code
def y_G_lookAtLetter : MethodName := ⟨R_G, "lookAtLetter", "(II)V"⟩
abbrev c_G_lookAtApplication : ByteArray := prog_3_method_12_code
def y_G_lookAtApplication : MethodName := ⟨R_G, "lookAtApplication", "(I)V"⟩
abbrev c_G_takeArguments : ByteArray := prog_3_method_13_code
def y_G_takeArguments : MethodName := ⟨R_G, "takeArguments", "(II)V"⟩
abbrev c_G_promiseCount : ByteArray := prog_3_method_14_code
def y_G_promiseCount : MethodName := ⟨R_G, "promiseCount", "(I)I"⟩
abbrev c_G_letterOf : ByteArray := prog_3_method_15_code
def y_G_letterOf : MethodName := ⟨R_G, "letterOf", "(I)I"⟩
abbrev c_G_enter : ByteArray := prog_3_method_16_code
def y_G_enter : MethodName := ⟨R_G, "enter", "(II)I"⟩
abbrev c_G_lookAtChoice : ByteArray := prog_3_method_17_code
def y_G_lookAtChoice : MethodName := ⟨R_G, "lookAtChoice", "(I)V"⟩
abbrev c_G_lookAtSplit : ByteArray := prog_3_method_18_code
def y_G_lookAtSplit : MethodName := ⟨R_G, "lookAtSplit", "(I)V"⟩
abbrev c_G_lookAtArithmetic : ByteArray := prog_3_method_19_code
def y_G_lookAtArithmetic : MethodName := ⟨R_G, "lookAtArithmetic", "(II)V"⟩
abbrev c_G_requestNumber : ByteArray := prog_3_method_20_code
def y_G_requestNumber : MethodName := ⟨R_G, "requestNumber", "(I)Z"⟩
abbrev c_G_calculate : ByteArray := prog_3_method_21_code
def y_G_calculate : MethodName := ⟨R_G, "calculate", "(III)I"⟩
abbrev c_G_nextPart : ByteArray := prog_3_method_22_code
def y_G_nextPart : MethodName := ⟨R_G, "nextPart", "(I)I"⟩
abbrev c_R_init : ByteArray := prog_4_method_1_code
def y_R_init : MethodName := ⟨R_R, "<init>", "(LLazyGraphs$Definition;)V"⟩
abbrev c_R_read : ByteArray := prog_4_method_2_code
def y_R_read : MethodName := ⟨R_R, "read", "()I"⟩
abbrev c_R_readParameters : ByteArray := prog_4_method_3_code
def y_R_readParameters : MethodName := ⟨R_R, "readParameters", "()V"⟩
abbrev c_R_readPart : ByteArray := prog_4_method_4_code
def y_R_readPart : MethodName := ⟨R_R, "readPart", "(II)I"⟩
abbrev c_R_useVariable : ByteArray := prog_4_method_5_code
def y_R_useVariable : MethodName := ⟨R_R, "useVariable", "(C)V"⟩
abbrev c_R_readWhole : ByteArray := prog_4_method_6_code
def y_R_readWhole : MethodName := ⟨R_R, "readWhole", "(II)V"⟩
abbrev c_R_readParts : ByteArray := prog_4_method_7_code
def y_R_readParts : MethodName := ⟨R_R, "readParts", "(II)I"⟩
abbrev c_R_readApplication : ByteArray := prog_4_method_8_code
def y_R_readApplication : MethodName := ⟨R_R, "readApplication", "(I)V"⟩
abbrev c_R_readSplit : ByteArray := prog_4_method_9_code
def y_R_readSplit : MethodName := ⟨R_R, "readSplit", "(I)V"⟩
abbrev c_R_readBinding : ByteArray := prog_4_method_10_code
def y_R_readBinding : MethodName := ⟨R_R, "readBinding", "(I)V"⟩
abbrev c_R_readVariable : ByteArray := prog_4_method_11_code
def y_R_readVariable : MethodName := ⟨R_R, "readVariable", "()I"⟩
abbrev c_R_readSign : ByteArray := prog_4_method_12_code
def y_R_readSign : MethodName := ⟨R_R, "readSign", "(C)V"⟩
abbrev c_R_sign : ByteArray := prog_4_method_13_code
def y_R_sign : MethodName := ⟨R_R, "sign", "()C"⟩
abbrev c_R_bind : ByteArray := prog_4_method_14_code
def y_R_bind : MethodName := ⟨R_R, "bind", "(I)I"⟩
abbrev c_R_unbind : ByteArray := prog_4_method_15_code
def y_R_unbind : MethodName := ⟨R_R, "unbind", "(II)V"⟩
abbrev c_W_init : ByteArray := prog_5_method_1_code
def y_W_init : MethodName := ⟨R_W, "<init>", "()V"⟩
abbrev c_W_write : ByteArray := prog_5_method_2_code
def y_W_write : MethodName := ⟨R_W, "write", "(LLazyGraphs$Graph;)V"⟩
abbrev c_W_writeValue : ByteArray := prog_5_method_3_code
def y_W_writeValue : MethodName := ⟨R_W, "writeValue", "(LLazyGraphs$Graph;II)V"⟩
abbrev c_W_writeRest : ByteArray := prog_5_method_4_code
def y_W_writeRest : MethodName := ⟨R_W, "writeRest", "(LLazyGraphs$Graph;II)V"⟩
abbrev c_W_goOn : ByteArray := prog_5_method_5_code
def y_W_goOn : MethodName := ⟨R_W, "goOn", "(LLazyGraphs$Graph;)V"⟩
abbrev c_W_putNumber : ByteArray := prog_5_method_6_code
def y_W_putNumber : MethodName := ⟨R_W, "putNumber", "(LLazyGraphs$Graph;I)V"⟩
abbrev c_W_put : ByteArray := prog_5_method_7_code
def y_W_put : MethodName := ⟨R_W, "put", "(LLazyGraphs$Graph;C)Z"⟩
abbrev c_L_define : ByteArray := method_3_code
def y_L_define : MethodName := ⟨R_L, "define", "(LLazyGraphs;C[J)I"⟩
abbrev c_L_forget : ByteArray := method_4_code
def y_L_forget : MethodName := ⟨R_L, "forget", "(LLazyGraphs;C)I"⟩
abbrev c_L_run : ByteArray := method_5_code
def y_L_run : MethodName := ⟨R_L, "run", "(LLazyGraphs;CI[J)I"⟩
theorem in_D : ∀ w ∈ u_ws R_D T_D 4, w ∈ hz_T lw_tbl := by
  show ∀ w ∈ [u_lay R_D T_D 0, u_lay R_D T_D 1, u_lay R_D T_D 2, u_lay R_D T_D 3], w ∈ hz_T lw_tbl
  exact List.forall_mem_cons.mpr ⟨hz_T_in 322 (by decide +kernel) (by decide +kernel), List.forall_mem_cons.mpr ⟨hz_T_in 324 (by decide +kernel) (by decide +kernel), List.forall_mem_cons.mpr ⟨hz_T_in 326 (by decide +kernel) (by decide +kernel), List.forall_mem_cons.mpr ⟨hz_T_in 328 (by decide +kernel) (by decide +kernel), fun _ h => absurd h List.not_mem_nil⟩⟩⟩⟩
theorem pf_D : ∀ k, k < 4 → parseFieldDescriptor (T_D k).2.2.1 = some (ty_D k) := by decide +kernel
theorem nm_D : ∀ a, a < 4 → ∀ b, b < 4 → a ≠ b → (T_D a).2.1 ≠ (T_D b).2.1 := by decide +kernel
theorem in_G : ∀ w ∈ u_ws R_G T_G 14, w ∈ hz_T lw_tbl := by
  show ∀ w ∈ [u_lay R_G T_G 0, u_lay R_G T_G 1, u_lay R_G T_G 2, u_lay R_G T_G 3, u_lay R_G T_G 4, u_lay R_G T_G 5, u_lay R_G T_G 6, u_lay R_G T_G 7, u_lay R_G T_G 8, u_lay R_G T_G 9, u_lay R_G T_G 10, u_lay R_G T_G 11, u_lay R_G T_G 12, u_lay R_G T_G 13], w ∈ hz_T lw_tbl
  exact List.forall_mem_cons.mpr ⟨hz_T_in 121 (by decide +kernel) (by decide +kernel), List.forall_mem_cons.mpr ⟨hz_T_in 123 (by decide +kernel) (by decide +kernel), List.forall_mem_cons.mpr ⟨hz_T_in 125 (by decide +kernel) (by decide +kernel), List.forall_mem_cons.mpr ⟨hz_T_in 127 (by decide +kernel) (by decide +kernel), List.forall_mem_cons.mpr ⟨hz_T_in 129 (by decide +kernel) (by decide +kernel), List.forall_mem_cons.mpr ⟨hz_T_in 131 (by decide +kernel) (by decide +kernel), List.forall_mem_cons.mpr ⟨hz_T_in 133 (by decide +kernel) (by decide +kernel), List.forall_mem_cons.mpr ⟨hz_T_in 135 (by decide +kernel) (by decide +kernel), List.forall_mem_cons.mpr ⟨hz_T_in 137 (by decide +kernel) (by decide +kernel), List.forall_mem_cons.mpr ⟨hz_T_in 139 (by decide +kernel) (by decide +kernel), List.forall_mem_cons.mpr ⟨hz_T_in 141 (by decide +kernel) (by decide +kernel), List.forall_mem_cons.mpr ⟨hz_T_in 143 (by decide +kernel) (by decide +kernel), List.forall_mem_cons.mpr ⟨hz_T_in 145 (by decide +kernel) (by decide +kernel), List.forall_mem_cons.mpr ⟨hz_T_in 147 (by decide +kernel) (by decide +kernel), fun _ h => absurd h List.not_mem_nil⟩⟩⟩⟩⟩⟩⟩⟩⟩⟩⟩⟩⟩⟩
theorem pf_G : ∀ k, k < 14 → parseFieldDescriptor (T_G k).2.2.1 = some (ty_G k) := by decide +kernel
theorem nm_G : ∀ a, a < 14 → ∀ b, b < 14 → a ≠ b → (T_G a).2.1 ≠ (T_G b).2.1 := by decide +kernel
theorem in_R : ∀ w ∈ u_ws R_R T_R 5, w ∈ hz_T lw_tbl := by
  show ∀ w ∈ [u_lay R_R T_R 0, u_lay R_R T_R 1, u_lay R_R T_R 2, u_lay R_R T_R 3, u_lay R_R T_R 4], w ∈ hz_T lw_tbl
  exact List.forall_mem_cons.mpr ⟨hz_T_in 342 (by decide +kernel) (by decide +kernel), List.forall_mem_cons.mpr ⟨hz_T_in 344 (by decide +kernel) (by decide +kernel), List.forall_mem_cons.mpr ⟨hz_T_in 346 (by decide +kernel) (by decide +kernel), List.forall_mem_cons.mpr ⟨hz_T_in 348 (by decide +kernel) (by decide +kernel), List.forall_mem_cons.mpr ⟨hz_T_in 350 (by decide +kernel) (by decide +kernel), fun _ h => absurd h List.not_mem_nil⟩⟩⟩⟩⟩
theorem pf_R : ∀ k, k < 5 → parseFieldDescriptor (T_R k).2.2.1 = some (ty_R k) := by decide +kernel
theorem nm_R : ∀ a, a < 5 → ∀ b, b < 5 → a ≠ b → (T_R a).2.1 ≠ (T_R b).2.1 := by decide +kernel
theorem in_W : ∀ w ∈ u_ws R_W T_W 6, w ∈ hz_T lw_tbl := by
  show ∀ w ∈ [u_lay R_W T_W 0, u_lay R_W T_W 1, u_lay R_W T_W 2, u_lay R_W T_W 3, u_lay R_W T_W 4, u_lay R_W T_W 5], w ∈ hz_T lw_tbl
  exact List.forall_mem_cons.mpr ⟨hz_T_in 166 (by decide +kernel) (by decide +kernel), List.forall_mem_cons.mpr ⟨hz_T_in 168 (by decide +kernel) (by decide +kernel), List.forall_mem_cons.mpr ⟨hz_T_in 170 (by decide +kernel) (by decide +kernel), List.forall_mem_cons.mpr ⟨hz_T_in 172 (by decide +kernel) (by decide +kernel), List.forall_mem_cons.mpr ⟨hz_T_in 174 (by decide +kernel) (by decide +kernel), List.forall_mem_cons.mpr ⟨hz_T_in 176 (by decide +kernel) (by decide +kernel), fun _ h => absurd h List.not_mem_nil⟩⟩⟩⟩⟩⟩
theorem pf_W : ∀ k, k < 6 → parseFieldDescriptor (T_W k).2.2.1 = some (ty_W k) := by decide +kernel
theorem nm_W : ∀ a, a < 6 → ∀ b, b < 6 → a ≠ b → (T_W a).2.1 ≠ (T_W b).2.1 := by decide +kernel
theorem in_F : ∀ w ∈ u_ws R_F T_F 4, w ∈ hz_T lw_tbl := by
  show ∀ w ∈ [u_lay R_F T_F 0, u_lay R_F T_F 1, u_lay R_F T_F 2, u_lay R_F T_F 3], w ∈ hz_T lw_tbl
  exact List.forall_mem_cons.mpr ⟨hz_T_in 183 (by decide +kernel) (by decide +kernel), List.forall_mem_cons.mpr ⟨hz_T_in 185 (by decide +kernel) (by decide +kernel), List.forall_mem_cons.mpr ⟨hz_T_in 187 (by decide +kernel) (by decide +kernel), List.forall_mem_cons.mpr ⟨hz_T_in 189 (by decide +kernel) (by decide +kernel), fun _ h => absurd h List.not_mem_nil⟩⟩⟩⟩
theorem pf_F : ∀ k, k < 4 → parseFieldDescriptor (T_F k).2.2.1 = some (ty_F k) := by decide +kernel
theorem nm_F : ∀ a, a < 4 → ∀ b, b < 4 → a ≠ b → (T_F a).2.1 ≠ (T_F b).2.1 := by decide +kernel
theorem in_M : ∀ w ∈ u_ws R_M T_M 39, w ∈ hz_T lw_tbl := by
  show ∀ w ∈ [u_lay R_M T_M 0, u_lay R_M T_M 1, u_lay R_M T_M 2, u_lay R_M T_M 3, u_lay R_M T_M 4, u_lay R_M T_M 5, u_lay R_M T_M 6, u_lay R_M T_M 7, u_lay R_M T_M 8, u_lay R_M T_M 9, u_lay R_M T_M 10, u_lay R_M T_M 11, u_lay R_M T_M 12, u_lay R_M T_M 13, u_lay R_M T_M 14, u_lay R_M T_M 15, u_lay R_M T_M 16, u_lay R_M T_M 17, u_lay R_M T_M 18, u_lay R_M T_M 19, u_lay R_M T_M 20, u_lay R_M T_M 21, u_lay R_M T_M 22, u_lay R_M T_M 23, u_lay R_M T_M 24, u_lay R_M T_M 25, u_lay R_M T_M 26, u_lay R_M T_M 27, u_lay R_M T_M 28, u_lay R_M T_M 29, u_lay R_M T_M 30, u_lay R_M T_M 31, u_lay R_M T_M 32, u_lay R_M T_M 33, u_lay R_M T_M 34, u_lay R_M T_M 35, u_lay R_M T_M 36, u_lay R_M T_M 37, u_lay R_M T_M 38], w ∈ hz_T lw_tbl
  exact List.forall_mem_cons.mpr ⟨hz_T_in 610 (by decide +kernel) (by decide +kernel), List.forall_mem_cons.mpr ⟨hz_T_in 612 (by decide +kernel) (by decide +kernel), List.forall_mem_cons.mpr ⟨hz_T_in 614 (by decide +kernel) (by decide +kernel), List.forall_mem_cons.mpr ⟨hz_T_in 616 (by decide +kernel) (by decide +kernel), List.forall_mem_cons.mpr ⟨hz_T_in 618 (by decide +kernel) (by decide +kernel), List.forall_mem_cons.mpr ⟨hz_T_in 620 (by decide +kernel) (by decide +kernel), List.forall_mem_cons.mpr ⟨hz_T_in 622 (by decide +kernel) (by decide +kernel), List.forall_mem_cons.mpr ⟨hz_T_in 624 (by decide +kernel) (by decide +kernel), List.forall_mem_cons.mpr ⟨hz_T_in 626 (by decide +kernel) (by decide +kernel), List.forall_mem_cons.mpr ⟨hz_T_in 628 (by decide +kernel) (by decide +kernel), List.forall_mem_cons.mpr ⟨hz_T_in 630 (by decide +kernel) (by decide +kernel), List.forall_mem_cons.mpr ⟨hz_T_in 632 (by decide +kernel) (by decide +kernel), List.forall_mem_cons.mpr ⟨hz_T_in 634 (by decide +kernel) (by decide +kernel), List.forall_mem_cons.mpr ⟨hz_T_in 636 (by decide +kernel) (by decide +kernel), List.forall_mem_cons.mpr ⟨hz_T_in 638 (by decide +kernel) (by decide +kernel), List.forall_mem_cons.mpr ⟨hz_T_in 640 (by decide +kernel) (by decide +kernel), List.forall_mem_cons.mpr ⟨hz_T_in 642 (by decide +kernel) (by decide +kernel), List.forall_mem_cons.mpr ⟨hz_T_in 644 (by decide +kernel) (by decide +kernel), List.forall_mem_cons.mpr ⟨hz_T_in 646 (by decide +kernel) (by decide +kernel), List.forall_mem_cons.mpr ⟨hz_T_in 648 (by decide +kernel) (by decide +kernel), List.forall_mem_cons.mpr ⟨hz_T_in 650 (by decide +kernel) (by decide +kernel), List.forall_mem_cons.mpr ⟨hz_T_in 652 (by decide +kernel) (by decide +kernel), List.forall_mem_cons.mpr ⟨hz_T_in 654 (by decide +kernel) (by decide +kernel), List.forall_mem_cons.mpr ⟨hz_T_in 656 (by decide +kernel) (by decide +kernel), List.forall_mem_cons.mpr ⟨hz_T_in 658 (by decide +kernel) (by decide +kernel), List.forall_mem_cons.mpr ⟨hz_T_in 660 (by decide +kernel) (by decide +kernel), List.forall_mem_cons.mpr ⟨hz_T_in 662 (by decide +kernel) (by decide +kernel), List.forall_mem_cons.mpr ⟨hz_T_in 664 (by decide +kernel) (by decide +kernel), List.forall_mem_cons.mpr ⟨hz_T_in 666 (by decide +kernel) (by decide +kernel), List.forall_mem_cons.mpr ⟨hz_T_in 668 (by decide +kernel) (by decide +kernel), List.forall_mem_cons.mpr ⟨hz_T_in 670 (by decide +kernel) (by decide +kernel), List.forall_mem_cons.mpr ⟨hz_T_in 672 (by decide +kernel) (by decide +kernel), List.forall_mem_cons.mpr ⟨hz_T_in 674 (by decide +kernel) (by decide +kernel), List.forall_mem_cons.mpr ⟨hz_T_in 676 (by decide +kernel) (by decide +kernel), List.forall_mem_cons.mpr ⟨hz_T_in 678 (by decide +kernel) (by decide +kernel), List.forall_mem_cons.mpr ⟨hz_T_in 680 (by decide +kernel) (by decide +kernel), List.forall_mem_cons.mpr ⟨hz_T_in 682 (by decide +kernel) (by decide +kernel), List.forall_mem_cons.mpr ⟨hz_T_in 684 (by decide +kernel) (by decide +kernel), List.forall_mem_cons.mpr ⟨hz_T_in 686 (by decide +kernel) (by decide +kernel), fun _ h => absurd h List.not_mem_nil⟩⟩⟩⟩⟩⟩⟩⟩⟩⟩⟩⟩⟩⟩⟩⟩⟩⟩⟩⟩⟩⟩⟩⟩⟩⟩⟩⟩⟩⟩⟩⟩⟩⟩⟩⟩⟩⟩⟩
theorem pf_M : ∀ k, k < 39 → parseFieldDescriptor (T_M k).2.2.1 = some (ty_M k) := by decide +kernel
theorem nm_M : ∀ a, a < 39 → ∀ b, b < 39 → a ≠ b → (T_M a).2.1 ≠ (T_M b).2.1 := by decide +kernel
abbrev zK : Type := (Nat → Int32) × (Nat → Nat → Int32) × (Nat → Nat → Option Nat)
abbrev zM : Type := (Nat → Int32) × (Nat → Nat → Int32)
def kS (κ : zK) (n : Nat) (x : Int32) : zK := (upd κ.1 n x, κ.2)
def kA (κ : zK) (a j : Nat) (x : Int32) : zK := (κ.1, va_up κ.2.1 a (upd (κ.2.1 a) j x), κ.2.2)
def kQ (κ : zK) (a j : Nat) (x : Option Nat) : zK := (κ.1, κ.2.1, va_up κ.2.2 a (va_up (κ.2.2 a) j x))
def mS (μ : zM) (n : Nat) (x : Int32) : zM := (upd μ.1 n x, μ.2)
def mA (μ : zM) (a j : Nat) (x : Int32) : zM := (μ.1, va_up μ.2 a (upd (μ.2 a) j x))
theorem hz_upI {a : Nat → Int32} {k : Nat} {y : Int32} : updV (hz_i a) k (.int y) = hz_i (upd a k y) := by
  funext j
  unfold updV hz_i upd
  by_cases e : j = k
  · rw [if_pos e, if_pos e]
  · rw [if_neg e, if_neg e]
/-- the world: the class's objects and arrays, the reference's, the law's own row; then what define has made -/
def zH (κ : zK) (μ : zM) (ω : Nat → Int64) (D : hz_H) : hz_H := fun i => match i with
  | 0 => some (.inr (4, [.ref 1, .int (κ.1 0), .ref 2, .ref 12]))
  | 1 => some (.inl (0, 40, hz_i (κ.2.1 1)))
  | 2 => some (.inr (1, [.ref 3, .ref 4, .ref 5, .ref 6, .ref 7, .ref 8, .ref 9, .ref 10, .ref 11, .int (κ.1 1), .int (κ.1 2), .int (κ.1 3), .int (κ.1 4), .int (κ.1 5)]))
  | 3 => some (.inl (2, 26, hz_q (κ.2.2 3)))
  | 4 => some (.inl (2, 50, hz_q (κ.2.2 4)))
  | 5 => some (.inl (1, 26, hz_i (κ.2.1 5)))
  | 6 => some (.inl (1, 2001, hz_i (κ.2.1 6)))
  | 7 => some (.inl (1, 2001, hz_i (κ.2.1 7)))
  | 8 => some (.inl (1, 2001, hz_i (κ.2.1 8)))
  | 9 => some (.inl (1, 2001, hz_i (κ.2.1 9)))
  | 10 => some (.inl (1, 2001, hz_i (κ.2.1 10)))
  | 11 => some (.inl (1, 2001, hz_i (κ.2.1 11)))
  | 12 => some (.inr (3, [.ref 13, .int (κ.1 6), .ref 14, .int (κ.1 7), .int (κ.1 8), .int (κ.1 9)]))
  | 13 => some (.inl (0, 60, hz_i (κ.2.1 13)))
  | 14 => some (.inl (1, 60, hz_i (κ.2.1 14)))
  | 15 => some (.inr (5, [.int (μ.1 10), .int (μ.1 11), .ref 16, .int (μ.1 12), .ref 17, .ref 18, .ref 19, .ref 20, .ref 21, .ref 22, .ref 23, .ref 24, .int (μ.1 13), .int (μ.1 14), .ref 25, .ref 26, .ref 27, .int (μ.1 15), .ref 28, .ref 29, .ref 30, .ref 31, .ref 32, .int (μ.1 16), .ref 33, .int (μ.1 17), .ref 34, .ref 35, .ref 36, .int (μ.1 18), .ref 37, .ref 38, .int (μ.1 19), .int (μ.1 20), .int (μ.1 21), .int (μ.1 22), .int (μ.1 23), .int (μ.1 24), .int (μ.1 25)]))
  | 16 => some (.inl (1, 40, hz_i (μ.2 16)))
  | 17 => some (.inl (1, 60, hz_i (μ.2 17)))
  | 18 => some (.inl (3, 26, hz_i (μ.2 18)))
  | 19 => some (.inl (1, 27, hz_i (μ.2 19)))
  | 20 => some (.inl (1, 108, hz_i (μ.2 20)))
  | 21 => some (.inl (1, 1080, hz_i (μ.2 21)))
  | 22 => some (.inl (1, 1080, hz_i (μ.2 22)))
  | 23 => some (.inl (1, 1080, hz_i (μ.2 23)))
  | 24 => some (.inl (1, 40, hz_i (μ.2 24)))
  | 25 => some (.inl (1, 120, hz_i (μ.2 25)))
  | 26 => some (.inl (1, 120, hz_i (μ.2 26)))
  | 27 => some (.inl (1, 120, hz_i (μ.2 27)))
  | 28 => some (.inl (1, 1000, hz_i (μ.2 28)))
  | 29 => some (.inl (1, 1000, hz_i (μ.2 29)))
  | 30 => some (.inl (1, 1000, hz_i (μ.2 30)))
  | 31 => some (.inl (1, 1000, hz_i (μ.2 31)))
  | 32 => some (.inl (1, 26, hz_i (μ.2 32)))
  | 33 => some (.inl (1, 2600, hz_i (μ.2 33)))
  | 34 => some (.inl (1, 950, hz_i (μ.2 34)))
  | 35 => some (.inl (1, 950, hz_i (μ.2 35)))
  | 36 => some (.inl (1, 950, hz_i (μ.2 36)))
  | 37 => some (.inl (1, 2150, hz_i (μ.2 37)))
  | 38 => some (.inl (1, 2150, hz_i (μ.2 38)))
  | 39 => some (.inl (4, 1, hz_l ω))
  | j => D j
theorem zH_D {κ : zK} {μ : zM} {ω : Nat → Int64} {D : hz_H} {d : Nat} (h : 40 ≤ d) : zH κ μ ω D d = D d := by
  obtain ⟨k, rfl⟩ : ∃ k, d = k + 40 := ⟨d - 40, by omega⟩
  rfl
theorem zH_set {κ : zK} {μ : zM} {ω : Nat → Int64} {D : hz_H} {d : Nat} {x : hz_E} (h : 40 ≤ d) : hz_set (zH κ μ ω D) d x = zH κ μ ω (hz_set D d x) := by
  funext i
  unfold hz_set
  match i with
  | 0 => exact if_neg (by omega)
  | 1 => exact if_neg (by omega)
  | 2 => exact if_neg (by omega)
  | 3 => exact if_neg (by omega)
  | 4 => exact if_neg (by omega)
  | 5 => exact if_neg (by omega)
  | 6 => exact if_neg (by omega)
  | 7 => exact if_neg (by omega)
  | 8 => exact if_neg (by omega)
  | 9 => exact if_neg (by omega)
  | 10 => exact if_neg (by omega)
  | 11 => exact if_neg (by omega)
  | 12 => exact if_neg (by omega)
  | 13 => exact if_neg (by omega)
  | 14 => exact if_neg (by omega)
  | 15 => exact if_neg (by omega)
  | 16 => exact if_neg (by omega)
  | 17 => exact if_neg (by omega)
  | 18 => exact if_neg (by omega)
  | 19 => exact if_neg (by omega)
  | 20 => exact if_neg (by omega)
  | 21 => exact if_neg (by omega)
  | 22 => exact if_neg (by omega)
  | 23 => exact if_neg (by omega)
  | 24 => exact if_neg (by omega)
  | 25 => exact if_neg (by omega)
  | 26 => exact if_neg (by omega)
  | 27 => exact if_neg (by omega)
  | 28 => exact if_neg (by omega)
  | 29 => exact if_neg (by omega)
  | 30 => exact if_neg (by omega)
  | 31 => exact if_neg (by omega)
  | 32 => exact if_neg (by omega)
  | 33 => exact if_neg (by omega)
  | 34 => exact if_neg (by omega)
  | 35 => exact if_neg (by omega)
  | 36 => exact if_neg (by omega)
  | 37 => exact if_neg (by omega)
  | 38 => exact if_neg (by omega)
  | 39 => exact if_neg (by omega)
  | j + 40 => rfl
theorem rd_0_0 {κ : zK} {μ : zM} {ω : Nat → Int64} {D : hz_H} {K : Value → Prop} : hz_rd (zH κ μ ω D) 0 4 0 K = K (.ref 1) := propext Iff.rfl
theorem rd_0_1 {κ : zK} {μ : zM} {ω : Nat → Int64} {D : hz_H} {K : Value → Prop} : hz_rd (zH κ μ ω D) 0 4 1 K = K (.int (κ.1 0)) := propext Iff.rfl
theorem st_0_1 {κ : zK} {μ : zM} {ω : Nat → Int64} {D : hz_H} {x : Int32} : hz_set (zH κ μ ω D) 0 (.inr (4, ([.ref 1, .int (κ.1 0), .ref 2, .ref 12] : List Value).set 1 (.int x))) = (zH (kS κ 0 x) μ ω D) := by
  funext i
  match i with
  | 0 => rfl
  | 1 => rfl
  | 2 => rfl
  | 3 => rfl
  | 4 => rfl
  | 5 => rfl
  | 6 => rfl
  | 7 => rfl
  | 8 => rfl
  | 9 => rfl
  | 10 => rfl
  | 11 => rfl
  | 12 => rfl
  | 13 => rfl
  | 14 => rfl
  | 15 => rfl
  | 16 => rfl
  | 17 => rfl
  | 18 => rfl
  | 19 => rfl
  | 20 => rfl
  | 21 => rfl
  | 22 => rfl
  | 23 => rfl
  | 24 => rfl
  | 25 => rfl
  | 26 => rfl
  | 27 => rfl
  | 28 => rfl
  | 29 => rfl
  | 30 => rfl
  | 31 => rfl
  | 32 => rfl
  | 33 => rfl
  | 34 => rfl
  | 35 => rfl
  | 36 => rfl
  | 37 => rfl
  | 38 => rfl
  | 39 => rfl
  | j + 40 => exact if_neg (by omega)
theorem wr_0_1 {κ : zK} {μ : zM} {ω : Nat → Int64} {D : hz_H} {x : Int32} {K : hz_H → Prop} : hz_wr (zH κ μ ω D) 0 4 1 (.int x) K = K (zH (kS κ 0 x) μ ω D) := congrArg K st_0_1
theorem rd_0_2 {κ : zK} {μ : zM} {ω : Nat → Int64} {D : hz_H} {K : Value → Prop} : hz_rd (zH κ μ ω D) 0 4 2 K = K (.ref 2) := propext Iff.rfl
theorem rd_0_3 {κ : zK} {μ : zM} {ω : Nat → Int64} {D : hz_H} {K : Value → Prop} : hz_rd (zH κ μ ω D) 0 4 3 K = K (.ref 12) := propext Iff.rfl
theorem rd_2_0 {κ : zK} {μ : zM} {ω : Nat → Int64} {D : hz_H} {K : Value → Prop} : hz_rd (zH κ μ ω D) 2 1 0 K = K (.ref 3) := propext Iff.rfl
theorem rd_2_1 {κ : zK} {μ : zM} {ω : Nat → Int64} {D : hz_H} {K : Value → Prop} : hz_rd (zH κ μ ω D) 2 1 1 K = K (.ref 4) := propext Iff.rfl
theorem rd_2_2 {κ : zK} {μ : zM} {ω : Nat → Int64} {D : hz_H} {K : Value → Prop} : hz_rd (zH κ μ ω D) 2 1 2 K = K (.ref 5) := propext Iff.rfl
theorem rd_2_3 {κ : zK} {μ : zM} {ω : Nat → Int64} {D : hz_H} {K : Value → Prop} : hz_rd (zH κ μ ω D) 2 1 3 K = K (.ref 6) := propext Iff.rfl
theorem rd_2_4 {κ : zK} {μ : zM} {ω : Nat → Int64} {D : hz_H} {K : Value → Prop} : hz_rd (zH κ μ ω D) 2 1 4 K = K (.ref 7) := propext Iff.rfl
theorem rd_2_5 {κ : zK} {μ : zM} {ω : Nat → Int64} {D : hz_H} {K : Value → Prop} : hz_rd (zH κ μ ω D) 2 1 5 K = K (.ref 8) := propext Iff.rfl
theorem rd_2_6 {κ : zK} {μ : zM} {ω : Nat → Int64} {D : hz_H} {K : Value → Prop} : hz_rd (zH κ μ ω D) 2 1 6 K = K (.ref 9) := propext Iff.rfl
theorem rd_2_7 {κ : zK} {μ : zM} {ω : Nat → Int64} {D : hz_H} {K : Value → Prop} : hz_rd (zH κ μ ω D) 2 1 7 K = K (.ref 10) := propext Iff.rfl
theorem rd_2_8 {κ : zK} {μ : zM} {ω : Nat → Int64} {D : hz_H} {K : Value → Prop} : hz_rd (zH κ μ ω D) 2 1 8 K = K (.ref 11) := propext Iff.rfl
theorem rd_2_9 {κ : zK} {μ : zM} {ω : Nat → Int64} {D : hz_H} {K : Value → Prop} : hz_rd (zH κ μ ω D) 2 1 9 K = K (.int (κ.1 1)) := propext Iff.rfl
theorem st_2_9 {κ : zK} {μ : zM} {ω : Nat → Int64} {D : hz_H} {x : Int32} : hz_set (zH κ μ ω D) 2 (.inr (1, ([.ref 3, .ref 4, .ref 5, .ref 6, .ref 7, .ref 8, .ref 9, .ref 10, .ref 11, .int (κ.1 1), .int (κ.1 2), .int (κ.1 3), .int (κ.1 4), .int (κ.1 5)] : List Value).set 9 (.int x))) = (zH (kS κ 1 x) μ ω D) := by
  funext i
  match i with
  | 0 => rfl
  | 1 => rfl
  | 2 => rfl
  | 3 => rfl
  | 4 => rfl
  | 5 => rfl
  | 6 => rfl
  | 7 => rfl
  | 8 => rfl
  | 9 => rfl
  | 10 => rfl
  | 11 => rfl
  | 12 => rfl
  | 13 => rfl
  | 14 => rfl
  | 15 => rfl
  | 16 => rfl
  | 17 => rfl
  | 18 => rfl
  | 19 => rfl
  | 20 => rfl
  | 21 => rfl
  | 22 => rfl
  | 23 => rfl
  | 24 => rfl
  | 25 => rfl
  | 26 => rfl
  | 27 => rfl
  | 28 => rfl
  | 29 => rfl
  | 30 => rfl
  | 31 => rfl
  | 32 => rfl
  | 33 => rfl
  | 34 => rfl
  | 35 => rfl
  | 36 => rfl
  | 37 => rfl
  | 38 => rfl
  | 39 => rfl
  | j + 40 => exact if_neg (by omega)
theorem wr_2_9 {κ : zK} {μ : zM} {ω : Nat → Int64} {D : hz_H} {x : Int32} {K : hz_H → Prop} : hz_wr (zH κ μ ω D) 2 1 9 (.int x) K = K (zH (kS κ 1 x) μ ω D) := congrArg K st_2_9
theorem rd_2_10 {κ : zK} {μ : zM} {ω : Nat → Int64} {D : hz_H} {K : Value → Prop} : hz_rd (zH κ μ ω D) 2 1 10 K = K (.int (κ.1 2)) := propext Iff.rfl
theorem st_2_10 {κ : zK} {μ : zM} {ω : Nat → Int64} {D : hz_H} {x : Int32} : hz_set (zH κ μ ω D) 2 (.inr (1, ([.ref 3, .ref 4, .ref 5, .ref 6, .ref 7, .ref 8, .ref 9, .ref 10, .ref 11, .int (κ.1 1), .int (κ.1 2), .int (κ.1 3), .int (κ.1 4), .int (κ.1 5)] : List Value).set 10 (.int x))) = (zH (kS κ 2 x) μ ω D) := by
  funext i
  match i with
  | 0 => rfl
  | 1 => rfl
  | 2 => rfl
  | 3 => rfl
  | 4 => rfl
  | 5 => rfl
  | 6 => rfl
  | 7 => rfl
  | 8 => rfl
  | 9 => rfl
  | 10 => rfl
  | 11 => rfl
  | 12 => rfl
  | 13 => rfl
  | 14 => rfl
  | 15 => rfl
  | 16 => rfl
  | 17 => rfl
  | 18 => rfl
  | 19 => rfl
  | 20 => rfl
  | 21 => rfl
  | 22 => rfl
  | 23 => rfl
  | 24 => rfl
  | 25 => rfl
  | 26 => rfl
  | 27 => rfl
  | 28 => rfl
  | 29 => rfl
  | 30 => rfl
  | 31 => rfl
  | 32 => rfl
  | 33 => rfl
  | 34 => rfl
  | 35 => rfl
  | 36 => rfl
  | 37 => rfl
  | 38 => rfl
  | 39 => rfl
  | j + 40 => exact if_neg (by omega)
theorem wr_2_10 {κ : zK} {μ : zM} {ω : Nat → Int64} {D : hz_H} {x : Int32} {K : hz_H → Prop} : hz_wr (zH κ μ ω D) 2 1 10 (.int x) K = K (zH (kS κ 2 x) μ ω D) := congrArg K st_2_10
theorem rd_2_11 {κ : zK} {μ : zM} {ω : Nat → Int64} {D : hz_H} {K : Value → Prop} : hz_rd (zH κ μ ω D) 2 1 11 K = K (.int (κ.1 3)) := propext Iff.rfl
theorem st_2_11 {κ : zK} {μ : zM} {ω : Nat → Int64} {D : hz_H} {x : Int32} : hz_set (zH κ μ ω D) 2 (.inr (1, ([.ref 3, .ref 4, .ref 5, .ref 6, .ref 7, .ref 8, .ref 9, .ref 10, .ref 11, .int (κ.1 1), .int (κ.1 2), .int (κ.1 3), .int (κ.1 4), .int (κ.1 5)] : List Value).set 11 (.int x))) = (zH (kS κ 3 x) μ ω D) := by
  funext i
  match i with
  | 0 => rfl
  | 1 => rfl
  | 2 => rfl
  | 3 => rfl
  | 4 => rfl
  | 5 => rfl
  | 6 => rfl
  | 7 => rfl
  | 8 => rfl
  | 9 => rfl
  | 10 => rfl
  | 11 => rfl
  | 12 => rfl
  | 13 => rfl
  | 14 => rfl
  | 15 => rfl
  | 16 => rfl
  | 17 => rfl
  | 18 => rfl
  | 19 => rfl
  | 20 => rfl
  | 21 => rfl
  | 22 => rfl
  | 23 => rfl
  | 24 => rfl
  | 25 => rfl
  | 26 => rfl
  | 27 => rfl
  | 28 => rfl
  | 29 => rfl
  | 30 => rfl
  | 31 => rfl
  | 32 => rfl
  | 33 => rfl
  | 34 => rfl
  | 35 => rfl
  | 36 => rfl
  | 37 => rfl
  | 38 => rfl
  | 39 => rfl
  | j + 40 => exact if_neg (by omega)
theorem wr_2_11 {κ : zK} {μ : zM} {ω : Nat → Int64} {D : hz_H} {x : Int32} {K : hz_H → Prop} : hz_wr (zH κ μ ω D) 2 1 11 (.int x) K = K (zH (kS κ 3 x) μ ω D) := congrArg K st_2_11
theorem rd_2_12 {κ : zK} {μ : zM} {ω : Nat → Int64} {D : hz_H} {K : Value → Prop} : hz_rd (zH κ μ ω D) 2 1 12 K = K (.int (κ.1 4)) := propext Iff.rfl
theorem st_2_12 {κ : zK} {μ : zM} {ω : Nat → Int64} {D : hz_H} {x : Int32} : hz_set (zH κ μ ω D) 2 (.inr (1, ([.ref 3, .ref 4, .ref 5, .ref 6, .ref 7, .ref 8, .ref 9, .ref 10, .ref 11, .int (κ.1 1), .int (κ.1 2), .int (κ.1 3), .int (κ.1 4), .int (κ.1 5)] : List Value).set 12 (.int x))) = (zH (kS κ 4 x) μ ω D) := by
  funext i
  match i with
  | 0 => rfl
  | 1 => rfl
  | 2 => rfl
  | 3 => rfl
  | 4 => rfl
  | 5 => rfl
  | 6 => rfl
  | 7 => rfl
  | 8 => rfl
  | 9 => rfl
  | 10 => rfl
  | 11 => rfl
  | 12 => rfl
  | 13 => rfl
  | 14 => rfl
  | 15 => rfl
  | 16 => rfl
  | 17 => rfl
  | 18 => rfl
  | 19 => rfl
  | 20 => rfl
  | 21 => rfl
  | 22 => rfl
  | 23 => rfl
  | 24 => rfl
  | 25 => rfl
  | 26 => rfl
  | 27 => rfl
  | 28 => rfl
  | 29 => rfl
  | 30 => rfl
  | 31 => rfl
  | 32 => rfl
  | 33 => rfl
  | 34 => rfl
  | 35 => rfl
  | 36 => rfl
  | 37 => rfl
  | 38 => rfl
  | 39 => rfl
  | j + 40 => exact if_neg (by omega)
theorem wr_2_12 {κ : zK} {μ : zM} {ω : Nat → Int64} {D : hz_H} {x : Int32} {K : hz_H → Prop} : hz_wr (zH κ μ ω D) 2 1 12 (.int x) K = K (zH (kS κ 4 x) μ ω D) := congrArg K st_2_12
theorem rd_2_13 {κ : zK} {μ : zM} {ω : Nat → Int64} {D : hz_H} {K : Value → Prop} : hz_rd (zH κ μ ω D) 2 1 13 K = K (.int (κ.1 5)) := propext Iff.rfl
theorem st_2_13 {κ : zK} {μ : zM} {ω : Nat → Int64} {D : hz_H} {x : Int32} : hz_set (zH κ μ ω D) 2 (.inr (1, ([.ref 3, .ref 4, .ref 5, .ref 6, .ref 7, .ref 8, .ref 9, .ref 10, .ref 11, .int (κ.1 1), .int (κ.1 2), .int (κ.1 3), .int (κ.1 4), .int (κ.1 5)] : List Value).set 13 (.int x))) = (zH (kS κ 5 x) μ ω D) := by
  funext i
  match i with
  | 0 => rfl
  | 1 => rfl
  | 2 => rfl
  | 3 => rfl
  | 4 => rfl
  | 5 => rfl
  | 6 => rfl
  | 7 => rfl
  | 8 => rfl
  | 9 => rfl
  | 10 => rfl
  | 11 => rfl
  | 12 => rfl
  | 13 => rfl
  | 14 => rfl
  | 15 => rfl
  | 16 => rfl
  | 17 => rfl
  | 18 => rfl
  | 19 => rfl
  | 20 => rfl
  | 21 => rfl
  | 22 => rfl
  | 23 => rfl
  | 24 => rfl
  | 25 => rfl
  | 26 => rfl
  | 27 => rfl
  | 28 => rfl
  | 29 => rfl
  | 30 => rfl
  | 31 => rfl
  | 32 => rfl
  | 33 => rfl
  | 34 => rfl
  | 35 => rfl
  | 36 => rfl
  | 37 => rfl
  | 38 => rfl
  | 39 => rfl
  | j + 40 => exact if_neg (by omega)
theorem wr_2_13 {κ : zK} {μ : zM} {ω : Nat → Int64} {D : hz_H} {x : Int32} {K : hz_H → Prop} : hz_wr (zH κ μ ω D) 2 1 13 (.int x) K = K (zH (kS κ 5 x) μ ω D) := congrArg K st_2_13
theorem rd_12_0 {κ : zK} {μ : zM} {ω : Nat → Int64} {D : hz_H} {K : Value → Prop} : hz_rd (zH κ μ ω D) 12 3 0 K = K (.ref 13) := propext Iff.rfl
theorem rd_12_1 {κ : zK} {μ : zM} {ω : Nat → Int64} {D : hz_H} {K : Value → Prop} : hz_rd (zH κ μ ω D) 12 3 1 K = K (.int (κ.1 6)) := propext Iff.rfl
theorem st_12_1 {κ : zK} {μ : zM} {ω : Nat → Int64} {D : hz_H} {x : Int32} : hz_set (zH κ μ ω D) 12 (.inr (3, ([.ref 13, .int (κ.1 6), .ref 14, .int (κ.1 7), .int (κ.1 8), .int (κ.1 9)] : List Value).set 1 (.int x))) = (zH (kS κ 6 x) μ ω D) := by
  funext i
  match i with
  | 0 => rfl
  | 1 => rfl
  | 2 => rfl
  | 3 => rfl
  | 4 => rfl
  | 5 => rfl
  | 6 => rfl
  | 7 => rfl
  | 8 => rfl
  | 9 => rfl
  | 10 => rfl
  | 11 => rfl
  | 12 => rfl
  | 13 => rfl
  | 14 => rfl
  | 15 => rfl
  | 16 => rfl
  | 17 => rfl
  | 18 => rfl
  | 19 => rfl
  | 20 => rfl
  | 21 => rfl
  | 22 => rfl
  | 23 => rfl
  | 24 => rfl
  | 25 => rfl
  | 26 => rfl
  | 27 => rfl
  | 28 => rfl
  | 29 => rfl
  | 30 => rfl
  | 31 => rfl
  | 32 => rfl
  | 33 => rfl
  | 34 => rfl
  | 35 => rfl
  | 36 => rfl
  | 37 => rfl
  | 38 => rfl
  | 39 => rfl
  | j + 40 => exact if_neg (by omega)
theorem wr_12_1 {κ : zK} {μ : zM} {ω : Nat → Int64} {D : hz_H} {x : Int32} {K : hz_H → Prop} : hz_wr (zH κ μ ω D) 12 3 1 (.int x) K = K (zH (kS κ 6 x) μ ω D) := congrArg K st_12_1
theorem rd_12_2 {κ : zK} {μ : zM} {ω : Nat → Int64} {D : hz_H} {K : Value → Prop} : hz_rd (zH κ μ ω D) 12 3 2 K = K (.ref 14) := propext Iff.rfl
theorem rd_12_3 {κ : zK} {μ : zM} {ω : Nat → Int64} {D : hz_H} {K : Value → Prop} : hz_rd (zH κ μ ω D) 12 3 3 K = K (.int (κ.1 7)) := propext Iff.rfl
theorem st_12_3 {κ : zK} {μ : zM} {ω : Nat → Int64} {D : hz_H} {x : Int32} : hz_set (zH κ μ ω D) 12 (.inr (3, ([.ref 13, .int (κ.1 6), .ref 14, .int (κ.1 7), .int (κ.1 8), .int (κ.1 9)] : List Value).set 3 (.int x))) = (zH (kS κ 7 x) μ ω D) := by
  funext i
  match i with
  | 0 => rfl
  | 1 => rfl
  | 2 => rfl
  | 3 => rfl
  | 4 => rfl
  | 5 => rfl
  | 6 => rfl
  | 7 => rfl
  | 8 => rfl
  | 9 => rfl
  | 10 => rfl
  | 11 => rfl
  | 12 => rfl
  | 13 => rfl
  | 14 => rfl
  | 15 => rfl
  | 16 => rfl
  | 17 => rfl
  | 18 => rfl
  | 19 => rfl
  | 20 => rfl
  | 21 => rfl
  | 22 => rfl
  | 23 => rfl
  | 24 => rfl
  | 25 => rfl
  | 26 => rfl
  | 27 => rfl
  | 28 => rfl
  | 29 => rfl
  | 30 => rfl
  | 31 => rfl
  | 32 => rfl
  | 33 => rfl
  | 34 => rfl
  | 35 => rfl
  | 36 => rfl
  | 37 => rfl
  | 38 => rfl
  | 39 => rfl
  | j + 40 => exact if_neg (by omega)
theorem wr_12_3 {κ : zK} {μ : zM} {ω : Nat → Int64} {D : hz_H} {x : Int32} {K : hz_H → Prop} : hz_wr (zH κ μ ω D) 12 3 3 (.int x) K = K (zH (kS κ 7 x) μ ω D) := congrArg K st_12_3
theorem rd_12_4 {κ : zK} {μ : zM} {ω : Nat → Int64} {D : hz_H} {K : Value → Prop} : hz_rd (zH κ μ ω D) 12 3 4 K = K (.int (κ.1 8)) := propext Iff.rfl
theorem st_12_4 {κ : zK} {μ : zM} {ω : Nat → Int64} {D : hz_H} {x : Int32} : hz_set (zH κ μ ω D) 12 (.inr (3, ([.ref 13, .int (κ.1 6), .ref 14, .int (κ.1 7), .int (κ.1 8), .int (κ.1 9)] : List Value).set 4 (.int x))) = (zH (kS κ 8 x) μ ω D) := by
  funext i
  match i with
  | 0 => rfl
  | 1 => rfl
  | 2 => rfl
  | 3 => rfl
  | 4 => rfl
  | 5 => rfl
  | 6 => rfl
  | 7 => rfl
  | 8 => rfl
  | 9 => rfl
  | 10 => rfl
  | 11 => rfl
  | 12 => rfl
  | 13 => rfl
  | 14 => rfl
  | 15 => rfl
  | 16 => rfl
  | 17 => rfl
  | 18 => rfl
  | 19 => rfl
  | 20 => rfl
  | 21 => rfl
  | 22 => rfl
  | 23 => rfl
  | 24 => rfl
  | 25 => rfl
  | 26 => rfl
  | 27 => rfl
  | 28 => rfl
  | 29 => rfl
  | 30 => rfl
  | 31 => rfl
  | 32 => rfl
  | 33 => rfl
  | 34 => rfl
  | 35 => rfl
  | 36 => rfl
  | 37 => rfl
  | 38 => rfl
  | 39 => rfl
  | j + 40 => exact if_neg (by omega)
theorem wr_12_4 {κ : zK} {μ : zM} {ω : Nat → Int64} {D : hz_H} {x : Int32} {K : hz_H → Prop} : hz_wr (zH κ μ ω D) 12 3 4 (.int x) K = K (zH (kS κ 8 x) μ ω D) := congrArg K st_12_4
theorem rd_12_5 {κ : zK} {μ : zM} {ω : Nat → Int64} {D : hz_H} {K : Value → Prop} : hz_rd (zH κ μ ω D) 12 3 5 K = K (.int (κ.1 9)) := propext Iff.rfl
theorem st_12_5 {κ : zK} {μ : zM} {ω : Nat → Int64} {D : hz_H} {x : Int32} : hz_set (zH κ μ ω D) 12 (.inr (3, ([.ref 13, .int (κ.1 6), .ref 14, .int (κ.1 7), .int (κ.1 8), .int (κ.1 9)] : List Value).set 5 (.int x))) = (zH (kS κ 9 x) μ ω D) := by
  funext i
  match i with
  | 0 => rfl
  | 1 => rfl
  | 2 => rfl
  | 3 => rfl
  | 4 => rfl
  | 5 => rfl
  | 6 => rfl
  | 7 => rfl
  | 8 => rfl
  | 9 => rfl
  | 10 => rfl
  | 11 => rfl
  | 12 => rfl
  | 13 => rfl
  | 14 => rfl
  | 15 => rfl
  | 16 => rfl
  | 17 => rfl
  | 18 => rfl
  | 19 => rfl
  | 20 => rfl
  | 21 => rfl
  | 22 => rfl
  | 23 => rfl
  | 24 => rfl
  | 25 => rfl
  | 26 => rfl
  | 27 => rfl
  | 28 => rfl
  | 29 => rfl
  | 30 => rfl
  | 31 => rfl
  | 32 => rfl
  | 33 => rfl
  | 34 => rfl
  | 35 => rfl
  | 36 => rfl
  | 37 => rfl
  | 38 => rfl
  | 39 => rfl
  | j + 40 => exact if_neg (by omega)
theorem wr_12_5 {κ : zK} {μ : zM} {ω : Nat → Int64} {D : hz_H} {x : Int32} {K : hz_H → Prop} : hz_wr (zH κ μ ω D) 12 3 5 (.int x) K = K (zH (kS κ 9 x) μ ω D) := congrArg K st_12_5
theorem rd_15_0 {κ : zK} {μ : zM} {ω : Nat → Int64} {D : hz_H} {K : Value → Prop} : hz_rd (zH κ μ ω D) 15 5 0 K = K (.int (μ.1 10)) := propext Iff.rfl
theorem st_15_0 {κ : zK} {μ : zM} {ω : Nat → Int64} {D : hz_H} {x : Int32} : hz_set (zH κ μ ω D) 15 (.inr (5, ([.int (μ.1 10), .int (μ.1 11), .ref 16, .int (μ.1 12), .ref 17, .ref 18, .ref 19, .ref 20, .ref 21, .ref 22, .ref 23, .ref 24, .int (μ.1 13), .int (μ.1 14), .ref 25, .ref 26, .ref 27, .int (μ.1 15), .ref 28, .ref 29, .ref 30, .ref 31, .ref 32, .int (μ.1 16), .ref 33, .int (μ.1 17), .ref 34, .ref 35, .ref 36, .int (μ.1 18), .ref 37, .ref 38, .int (μ.1 19), .int (μ.1 20), .int (μ.1 21), .int (μ.1 22), .int (μ.1 23), .int (μ.1 24), .int (μ.1 25)] : List Value).set 0 (.int x))) = (zH κ (mS μ 10 x) ω D) := by
  funext i
  match i with
  | 0 => rfl
  | 1 => rfl
  | 2 => rfl
  | 3 => rfl
  | 4 => rfl
  | 5 => rfl
  | 6 => rfl
  | 7 => rfl
  | 8 => rfl
  | 9 => rfl
  | 10 => rfl
  | 11 => rfl
  | 12 => rfl
  | 13 => rfl
  | 14 => rfl
  | 15 => rfl
  | 16 => rfl
  | 17 => rfl
  | 18 => rfl
  | 19 => rfl
  | 20 => rfl
  | 21 => rfl
  | 22 => rfl
  | 23 => rfl
  | 24 => rfl
  | 25 => rfl
  | 26 => rfl
  | 27 => rfl
  | 28 => rfl
  | 29 => rfl
  | 30 => rfl
  | 31 => rfl
  | 32 => rfl
  | 33 => rfl
  | 34 => rfl
  | 35 => rfl
  | 36 => rfl
  | 37 => rfl
  | 38 => rfl
  | 39 => rfl
  | j + 40 => exact if_neg (by omega)
theorem wr_15_0 {κ : zK} {μ : zM} {ω : Nat → Int64} {D : hz_H} {x : Int32} {K : hz_H → Prop} : hz_wr (zH κ μ ω D) 15 5 0 (.int x) K = K (zH κ (mS μ 10 x) ω D) := congrArg K st_15_0
theorem rd_15_1 {κ : zK} {μ : zM} {ω : Nat → Int64} {D : hz_H} {K : Value → Prop} : hz_rd (zH κ μ ω D) 15 5 1 K = K (.int (μ.1 11)) := propext Iff.rfl
theorem st_15_1 {κ : zK} {μ : zM} {ω : Nat → Int64} {D : hz_H} {x : Int32} : hz_set (zH κ μ ω D) 15 (.inr (5, ([.int (μ.1 10), .int (μ.1 11), .ref 16, .int (μ.1 12), .ref 17, .ref 18, .ref 19, .ref 20, .ref 21, .ref 22, .ref 23, .ref 24, .int (μ.1 13), .int (μ.1 14), .ref 25, .ref 26, .ref 27, .int (μ.1 15), .ref 28, .ref 29, .ref 30, .ref 31, .ref 32, .int (μ.1 16), .ref 33, .int (μ.1 17), .ref 34, .ref 35, .ref 36, .int (μ.1 18), .ref 37, .ref 38, .int (μ.1 19), .int (μ.1 20), .int (μ.1 21), .int (μ.1 22), .int (μ.1 23), .int (μ.1 24), .int (μ.1 25)] : List Value).set 1 (.int x))) = (zH κ (mS μ 11 x) ω D) := by
  funext i
  match i with
  | 0 => rfl
  | 1 => rfl
  | 2 => rfl
  | 3 => rfl
  | 4 => rfl
  | 5 => rfl
  | 6 => rfl
  | 7 => rfl
  | 8 => rfl
  | 9 => rfl
  | 10 => rfl
  | 11 => rfl
  | 12 => rfl
  | 13 => rfl
  | 14 => rfl
  | 15 => rfl
  | 16 => rfl
  | 17 => rfl
  | 18 => rfl
  | 19 => rfl
  | 20 => rfl
  | 21 => rfl
  | 22 => rfl
  | 23 => rfl
  | 24 => rfl
  | 25 => rfl
  | 26 => rfl
  | 27 => rfl
  | 28 => rfl
  | 29 => rfl
  | 30 => rfl
  | 31 => rfl
  | 32 => rfl
  | 33 => rfl
  | 34 => rfl
  | 35 => rfl
  | 36 => rfl
  | 37 => rfl
  | 38 => rfl
  | 39 => rfl
  | j + 40 => exact if_neg (by omega)
theorem wr_15_1 {κ : zK} {μ : zM} {ω : Nat → Int64} {D : hz_H} {x : Int32} {K : hz_H → Prop} : hz_wr (zH κ μ ω D) 15 5 1 (.int x) K = K (zH κ (mS μ 11 x) ω D) := congrArg K st_15_1
theorem rd_15_2 {κ : zK} {μ : zM} {ω : Nat → Int64} {D : hz_H} {K : Value → Prop} : hz_rd (zH κ μ ω D) 15 5 2 K = K (.ref 16) := propext Iff.rfl
theorem rd_15_3 {κ : zK} {μ : zM} {ω : Nat → Int64} {D : hz_H} {K : Value → Prop} : hz_rd (zH κ μ ω D) 15 5 3 K = K (.int (μ.1 12)) := propext Iff.rfl
theorem st_15_3 {κ : zK} {μ : zM} {ω : Nat → Int64} {D : hz_H} {x : Int32} : hz_set (zH κ μ ω D) 15 (.inr (5, ([.int (μ.1 10), .int (μ.1 11), .ref 16, .int (μ.1 12), .ref 17, .ref 18, .ref 19, .ref 20, .ref 21, .ref 22, .ref 23, .ref 24, .int (μ.1 13), .int (μ.1 14), .ref 25, .ref 26, .ref 27, .int (μ.1 15), .ref 28, .ref 29, .ref 30, .ref 31, .ref 32, .int (μ.1 16), .ref 33, .int (μ.1 17), .ref 34, .ref 35, .ref 36, .int (μ.1 18), .ref 37, .ref 38, .int (μ.1 19), .int (μ.1 20), .int (μ.1 21), .int (μ.1 22), .int (μ.1 23), .int (μ.1 24), .int (μ.1 25)] : List Value).set 3 (.int x))) = (zH κ (mS μ 12 x) ω D) := by
  funext i
  match i with
  | 0 => rfl
  | 1 => rfl
  | 2 => rfl
  | 3 => rfl
  | 4 => rfl
  | 5 => rfl
  | 6 => rfl
  | 7 => rfl
  | 8 => rfl
  | 9 => rfl
  | 10 => rfl
  | 11 => rfl
  | 12 => rfl
  | 13 => rfl
  | 14 => rfl
  | 15 => rfl
  | 16 => rfl
  | 17 => rfl
  | 18 => rfl
  | 19 => rfl
  | 20 => rfl
  | 21 => rfl
  | 22 => rfl
  | 23 => rfl
  | 24 => rfl
  | 25 => rfl
  | 26 => rfl
  | 27 => rfl
  | 28 => rfl
  | 29 => rfl
  | 30 => rfl
  | 31 => rfl
  | 32 => rfl
  | 33 => rfl
  | 34 => rfl
  | 35 => rfl
  | 36 => rfl
  | 37 => rfl
  | 38 => rfl
  | 39 => rfl
  | j + 40 => exact if_neg (by omega)
theorem wr_15_3 {κ : zK} {μ : zM} {ω : Nat → Int64} {D : hz_H} {x : Int32} {K : hz_H → Prop} : hz_wr (zH κ μ ω D) 15 5 3 (.int x) K = K (zH κ (mS μ 12 x) ω D) := congrArg K st_15_3
theorem rd_15_4 {κ : zK} {μ : zM} {ω : Nat → Int64} {D : hz_H} {K : Value → Prop} : hz_rd (zH κ μ ω D) 15 5 4 K = K (.ref 17) := propext Iff.rfl
theorem rd_15_5 {κ : zK} {μ : zM} {ω : Nat → Int64} {D : hz_H} {K : Value → Prop} : hz_rd (zH κ μ ω D) 15 5 5 K = K (.ref 18) := propext Iff.rfl
theorem rd_15_6 {κ : zK} {μ : zM} {ω : Nat → Int64} {D : hz_H} {K : Value → Prop} : hz_rd (zH κ μ ω D) 15 5 6 K = K (.ref 19) := propext Iff.rfl
theorem rd_15_7 {κ : zK} {μ : zM} {ω : Nat → Int64} {D : hz_H} {K : Value → Prop} : hz_rd (zH κ μ ω D) 15 5 7 K = K (.ref 20) := propext Iff.rfl
theorem rd_15_8 {κ : zK} {μ : zM} {ω : Nat → Int64} {D : hz_H} {K : Value → Prop} : hz_rd (zH κ μ ω D) 15 5 8 K = K (.ref 21) := propext Iff.rfl
theorem rd_15_9 {κ : zK} {μ : zM} {ω : Nat → Int64} {D : hz_H} {K : Value → Prop} : hz_rd (zH κ μ ω D) 15 5 9 K = K (.ref 22) := propext Iff.rfl
theorem rd_15_10 {κ : zK} {μ : zM} {ω : Nat → Int64} {D : hz_H} {K : Value → Prop} : hz_rd (zH κ μ ω D) 15 5 10 K = K (.ref 23) := propext Iff.rfl
theorem rd_15_11 {κ : zK} {μ : zM} {ω : Nat → Int64} {D : hz_H} {K : Value → Prop} : hz_rd (zH κ μ ω D) 15 5 11 K = K (.ref 24) := propext Iff.rfl
theorem rd_15_12 {κ : zK} {μ : zM} {ω : Nat → Int64} {D : hz_H} {K : Value → Prop} : hz_rd (zH κ μ ω D) 15 5 12 K = K (.int (μ.1 13)) := propext Iff.rfl
theorem st_15_12 {κ : zK} {μ : zM} {ω : Nat → Int64} {D : hz_H} {x : Int32} : hz_set (zH κ μ ω D) 15 (.inr (5, ([.int (μ.1 10), .int (μ.1 11), .ref 16, .int (μ.1 12), .ref 17, .ref 18, .ref 19, .ref 20, .ref 21, .ref 22, .ref 23, .ref 24, .int (μ.1 13), .int (μ.1 14), .ref 25, .ref 26, .ref 27, .int (μ.1 15), .ref 28, .ref 29, .ref 30, .ref 31, .ref 32, .int (μ.1 16), .ref 33, .int (μ.1 17), .ref 34, .ref 35, .ref 36, .int (μ.1 18), .ref 37, .ref 38, .int (μ.1 19), .int (μ.1 20), .int (μ.1 21), .int (μ.1 22), .int (μ.1 23), .int (μ.1 24), .int (μ.1 25)] : List Value).set 12 (.int x))) = (zH κ (mS μ 13 x) ω D) := by
  funext i
  match i with
  | 0 => rfl
  | 1 => rfl
  | 2 => rfl
  | 3 => rfl
  | 4 => rfl
  | 5 => rfl
  | 6 => rfl
  | 7 => rfl
  | 8 => rfl
  | 9 => rfl
  | 10 => rfl
  | 11 => rfl
  | 12 => rfl
  | 13 => rfl
  | 14 => rfl
  | 15 => rfl
  | 16 => rfl
  | 17 => rfl
  | 18 => rfl
  | 19 => rfl
  | 20 => rfl
  | 21 => rfl
  | 22 => rfl
  | 23 => rfl
  | 24 => rfl
  | 25 => rfl
  | 26 => rfl
  | 27 => rfl
  | 28 => rfl
  | 29 => rfl
  | 30 => rfl
  | 31 => rfl
  | 32 => rfl
  | 33 => rfl
  | 34 => rfl
  | 35 => rfl
  | 36 => rfl
  | 37 => rfl
  | 38 => rfl
  | 39 => rfl
  | j + 40 => exact if_neg (by omega)
theorem wr_15_12 {κ : zK} {μ : zM} {ω : Nat → Int64} {D : hz_H} {x : Int32} {K : hz_H → Prop} : hz_wr (zH κ μ ω D) 15 5 12 (.int x) K = K (zH κ (mS μ 13 x) ω D) := congrArg K st_15_12
theorem rd_15_13 {κ : zK} {μ : zM} {ω : Nat → Int64} {D : hz_H} {K : Value → Prop} : hz_rd (zH κ μ ω D) 15 5 13 K = K (.int (μ.1 14)) := propext Iff.rfl
theorem st_15_13 {κ : zK} {μ : zM} {ω : Nat → Int64} {D : hz_H} {x : Int32} : hz_set (zH κ μ ω D) 15 (.inr (5, ([.int (μ.1 10), .int (μ.1 11), .ref 16, .int (μ.1 12), .ref 17, .ref 18, .ref 19, .ref 20, .ref 21, .ref 22, .ref 23, .ref 24, .int (μ.1 13), .int (μ.1 14), .ref 25, .ref 26, .ref 27, .int (μ.1 15), .ref 28, .ref 29, .ref 30, .ref 31, .ref 32, .int (μ.1 16), .ref 33, .int (μ.1 17), .ref 34, .ref 35, .ref 36, .int (μ.1 18), .ref 37, .ref 38, .int (μ.1 19), .int (μ.1 20), .int (μ.1 21), .int (μ.1 22), .int (μ.1 23), .int (μ.1 24), .int (μ.1 25)] : List Value).set 13 (.int x))) = (zH κ (mS μ 14 x) ω D) := by
  funext i
  match i with
  | 0 => rfl
  | 1 => rfl
  | 2 => rfl
  | 3 => rfl
  | 4 => rfl
  | 5 => rfl
  | 6 => rfl
  | 7 => rfl
  | 8 => rfl
  | 9 => rfl
  | 10 => rfl
  | 11 => rfl
  | 12 => rfl
  | 13 => rfl
  | 14 => rfl
  | 15 => rfl
  | 16 => rfl
  | 17 => rfl
  | 18 => rfl
  | 19 => rfl
  | 20 => rfl
  | 21 => rfl
  | 22 => rfl
  | 23 => rfl
  | 24 => rfl
  | 25 => rfl
  | 26 => rfl
  | 27 => rfl
  | 28 => rfl
  | 29 => rfl
  | 30 => rfl
  | 31 => rfl
  | 32 => rfl
  | 33 => rfl
  | 34 => rfl
  | 35 => rfl
  | 36 => rfl
  | 37 => rfl
  | 38 => rfl
  | 39 => rfl
  | j + 40 => exact if_neg (by omega)
theorem wr_15_13 {κ : zK} {μ : zM} {ω : Nat → Int64} {D : hz_H} {x : Int32} {K : hz_H → Prop} : hz_wr (zH κ μ ω D) 15 5 13 (.int x) K = K (zH κ (mS μ 14 x) ω D) := congrArg K st_15_13
theorem rd_15_14 {κ : zK} {μ : zM} {ω : Nat → Int64} {D : hz_H} {K : Value → Prop} : hz_rd (zH κ μ ω D) 15 5 14 K = K (.ref 25) := propext Iff.rfl
theorem rd_15_15 {κ : zK} {μ : zM} {ω : Nat → Int64} {D : hz_H} {K : Value → Prop} : hz_rd (zH κ μ ω D) 15 5 15 K = K (.ref 26) := propext Iff.rfl
theorem rd_15_16 {κ : zK} {μ : zM} {ω : Nat → Int64} {D : hz_H} {K : Value → Prop} : hz_rd (zH κ μ ω D) 15 5 16 K = K (.ref 27) := propext Iff.rfl
theorem rd_15_17 {κ : zK} {μ : zM} {ω : Nat → Int64} {D : hz_H} {K : Value → Prop} : hz_rd (zH κ μ ω D) 15 5 17 K = K (.int (μ.1 15)) := propext Iff.rfl
theorem st_15_17 {κ : zK} {μ : zM} {ω : Nat → Int64} {D : hz_H} {x : Int32} : hz_set (zH κ μ ω D) 15 (.inr (5, ([.int (μ.1 10), .int (μ.1 11), .ref 16, .int (μ.1 12), .ref 17, .ref 18, .ref 19, .ref 20, .ref 21, .ref 22, .ref 23, .ref 24, .int (μ.1 13), .int (μ.1 14), .ref 25, .ref 26, .ref 27, .int (μ.1 15), .ref 28, .ref 29, .ref 30, .ref 31, .ref 32, .int (μ.1 16), .ref 33, .int (μ.1 17), .ref 34, .ref 35, .ref 36, .int (μ.1 18), .ref 37, .ref 38, .int (μ.1 19), .int (μ.1 20), .int (μ.1 21), .int (μ.1 22), .int (μ.1 23), .int (μ.1 24), .int (μ.1 25)] : List Value).set 17 (.int x))) = (zH κ (mS μ 15 x) ω D) := by
  funext i
  match i with
  | 0 => rfl
  | 1 => rfl
  | 2 => rfl
  | 3 => rfl
  | 4 => rfl
  | 5 => rfl
  | 6 => rfl
  | 7 => rfl
  | 8 => rfl
  | 9 => rfl
  | 10 => rfl
  | 11 => rfl
  | 12 => rfl
  | 13 => rfl
  | 14 => rfl
  | 15 => rfl
  | 16 => rfl
  | 17 => rfl
  | 18 => rfl
  | 19 => rfl
  | 20 => rfl
  | 21 => rfl
  | 22 => rfl
  | 23 => rfl
  | 24 => rfl
  | 25 => rfl
  | 26 => rfl
  | 27 => rfl
  | 28 => rfl
  | 29 => rfl
  | 30 => rfl
  | 31 => rfl
  | 32 => rfl
  | 33 => rfl
  | 34 => rfl
  | 35 => rfl
  | 36 => rfl
  | 37 => rfl
  | 38 => rfl
  | 39 => rfl
  | j + 40 => exact if_neg (by omega)
theorem wr_15_17 {κ : zK} {μ : zM} {ω : Nat → Int64} {D : hz_H} {x : Int32} {K : hz_H → Prop} : hz_wr (zH κ μ ω D) 15 5 17 (.int x) K = K (zH κ (mS μ 15 x) ω D) := congrArg K st_15_17
theorem rd_15_18 {κ : zK} {μ : zM} {ω : Nat → Int64} {D : hz_H} {K : Value → Prop} : hz_rd (zH κ μ ω D) 15 5 18 K = K (.ref 28) := propext Iff.rfl
theorem rd_15_19 {κ : zK} {μ : zM} {ω : Nat → Int64} {D : hz_H} {K : Value → Prop} : hz_rd (zH κ μ ω D) 15 5 19 K = K (.ref 29) := propext Iff.rfl
theorem rd_15_20 {κ : zK} {μ : zM} {ω : Nat → Int64} {D : hz_H} {K : Value → Prop} : hz_rd (zH κ μ ω D) 15 5 20 K = K (.ref 30) := propext Iff.rfl
theorem rd_15_21 {κ : zK} {μ : zM} {ω : Nat → Int64} {D : hz_H} {K : Value → Prop} : hz_rd (zH κ μ ω D) 15 5 21 K = K (.ref 31) := propext Iff.rfl
theorem rd_15_22 {κ : zK} {μ : zM} {ω : Nat → Int64} {D : hz_H} {K : Value → Prop} : hz_rd (zH κ μ ω D) 15 5 22 K = K (.ref 32) := propext Iff.rfl
theorem rd_15_23 {κ : zK} {μ : zM} {ω : Nat → Int64} {D : hz_H} {K : Value → Prop} : hz_rd (zH κ μ ω D) 15 5 23 K = K (.int (μ.1 16)) := propext Iff.rfl
theorem st_15_23 {κ : zK} {μ : zM} {ω : Nat → Int64} {D : hz_H} {x : Int32} : hz_set (zH κ μ ω D) 15 (.inr (5, ([.int (μ.1 10), .int (μ.1 11), .ref 16, .int (μ.1 12), .ref 17, .ref 18, .ref 19, .ref 20, .ref 21, .ref 22, .ref 23, .ref 24, .int (μ.1 13), .int (μ.1 14), .ref 25, .ref 26, .ref 27, .int (μ.1 15), .ref 28, .ref 29, .ref 30, .ref 31, .ref 32, .int (μ.1 16), .ref 33, .int (μ.1 17), .ref 34, .ref 35, .ref 36, .int (μ.1 18), .ref 37, .ref 38, .int (μ.1 19), .int (μ.1 20), .int (μ.1 21), .int (μ.1 22), .int (μ.1 23), .int (μ.1 24), .int (μ.1 25)] : List Value).set 23 (.int x))) = (zH κ (mS μ 16 x) ω D) := by
  funext i
  match i with
  | 0 => rfl
  | 1 => rfl
  | 2 => rfl
  | 3 => rfl
  | 4 => rfl
  | 5 => rfl
  | 6 => rfl
  | 7 => rfl
  | 8 => rfl
  | 9 => rfl
  | 10 => rfl
  | 11 => rfl
  | 12 => rfl
  | 13 => rfl
  | 14 => rfl
  | 15 => rfl
  | 16 => rfl
  | 17 => rfl
  | 18 => rfl
  | 19 => rfl
  | 20 => rfl
  | 21 => rfl
  | 22 => rfl
  | 23 => rfl
  | 24 => rfl
  | 25 => rfl
  | 26 => rfl
  | 27 => rfl
  | 28 => rfl
  | 29 => rfl
  | 30 => rfl
  | 31 => rfl
  | 32 => rfl
  | 33 => rfl
  | 34 => rfl
  | 35 => rfl
  | 36 => rfl
  | 37 => rfl
  | 38 => rfl
  | 39 => rfl
  | j + 40 => exact if_neg (by omega)
theorem wr_15_23 {κ : zK} {μ : zM} {ω : Nat → Int64} {D : hz_H} {x : Int32} {K : hz_H → Prop} : hz_wr (zH κ μ ω D) 15 5 23 (.int x) K = K (zH κ (mS μ 16 x) ω D) := congrArg K st_15_23
theorem rd_15_24 {κ : zK} {μ : zM} {ω : Nat → Int64} {D : hz_H} {K : Value → Prop} : hz_rd (zH κ μ ω D) 15 5 24 K = K (.ref 33) := propext Iff.rfl
theorem rd_15_25 {κ : zK} {μ : zM} {ω : Nat → Int64} {D : hz_H} {K : Value → Prop} : hz_rd (zH κ μ ω D) 15 5 25 K = K (.int (μ.1 17)) := propext Iff.rfl
theorem st_15_25 {κ : zK} {μ : zM} {ω : Nat → Int64} {D : hz_H} {x : Int32} : hz_set (zH κ μ ω D) 15 (.inr (5, ([.int (μ.1 10), .int (μ.1 11), .ref 16, .int (μ.1 12), .ref 17, .ref 18, .ref 19, .ref 20, .ref 21, .ref 22, .ref 23, .ref 24, .int (μ.1 13), .int (μ.1 14), .ref 25, .ref 26, .ref 27, .int (μ.1 15), .ref 28, .ref 29, .ref 30, .ref 31, .ref 32, .int (μ.1 16), .ref 33, .int (μ.1 17), .ref 34, .ref 35, .ref 36, .int (μ.1 18), .ref 37, .ref 38, .int (μ.1 19), .int (μ.1 20), .int (μ.1 21), .int (μ.1 22), .int (μ.1 23), .int (μ.1 24), .int (μ.1 25)] : List Value).set 25 (.int x))) = (zH κ (mS μ 17 x) ω D) := by
  funext i
  match i with
  | 0 => rfl
  | 1 => rfl
  | 2 => rfl
  | 3 => rfl
  | 4 => rfl
  | 5 => rfl
  | 6 => rfl
  | 7 => rfl
  | 8 => rfl
  | 9 => rfl
  | 10 => rfl
  | 11 => rfl
  | 12 => rfl
  | 13 => rfl
  | 14 => rfl
  | 15 => rfl
  | 16 => rfl
  | 17 => rfl
  | 18 => rfl
  | 19 => rfl
  | 20 => rfl
  | 21 => rfl
  | 22 => rfl
  | 23 => rfl
  | 24 => rfl
  | 25 => rfl
  | 26 => rfl
  | 27 => rfl
  | 28 => rfl
  | 29 => rfl
  | 30 => rfl
  | 31 => rfl
  | 32 => rfl
  | 33 => rfl
  | 34 => rfl
  | 35 => rfl
  | 36 => rfl
  | 37 => rfl
  | 38 => rfl
  | 39 => rfl
  | j + 40 => exact if_neg (by omega)
theorem wr_15_25 {κ : zK} {μ : zM} {ω : Nat → Int64} {D : hz_H} {x : Int32} {K : hz_H → Prop} : hz_wr (zH κ μ ω D) 15 5 25 (.int x) K = K (zH κ (mS μ 17 x) ω D) := congrArg K st_15_25
theorem rd_15_26 {κ : zK} {μ : zM} {ω : Nat → Int64} {D : hz_H} {K : Value → Prop} : hz_rd (zH κ μ ω D) 15 5 26 K = K (.ref 34) := propext Iff.rfl
theorem rd_15_27 {κ : zK} {μ : zM} {ω : Nat → Int64} {D : hz_H} {K : Value → Prop} : hz_rd (zH κ μ ω D) 15 5 27 K = K (.ref 35) := propext Iff.rfl
theorem rd_15_28 {κ : zK} {μ : zM} {ω : Nat → Int64} {D : hz_H} {K : Value → Prop} : hz_rd (zH κ μ ω D) 15 5 28 K = K (.ref 36) := propext Iff.rfl
theorem rd_15_29 {κ : zK} {μ : zM} {ω : Nat → Int64} {D : hz_H} {K : Value → Prop} : hz_rd (zH κ μ ω D) 15 5 29 K = K (.int (μ.1 18)) := propext Iff.rfl
theorem st_15_29 {κ : zK} {μ : zM} {ω : Nat → Int64} {D : hz_H} {x : Int32} : hz_set (zH κ μ ω D) 15 (.inr (5, ([.int (μ.1 10), .int (μ.1 11), .ref 16, .int (μ.1 12), .ref 17, .ref 18, .ref 19, .ref 20, .ref 21, .ref 22, .ref 23, .ref 24, .int (μ.1 13), .int (μ.1 14), .ref 25, .ref 26, .ref 27, .int (μ.1 15), .ref 28, .ref 29, .ref 30, .ref 31, .ref 32, .int (μ.1 16), .ref 33, .int (μ.1 17), .ref 34, .ref 35, .ref 36, .int (μ.1 18), .ref 37, .ref 38, .int (μ.1 19), .int (μ.1 20), .int (μ.1 21), .int (μ.1 22), .int (μ.1 23), .int (μ.1 24), .int (μ.1 25)] : List Value).set 29 (.int x))) = (zH κ (mS μ 18 x) ω D) := by
  funext i
  match i with
  | 0 => rfl
  | 1 => rfl
  | 2 => rfl
  | 3 => rfl
  | 4 => rfl
  | 5 => rfl
  | 6 => rfl
  | 7 => rfl
  | 8 => rfl
  | 9 => rfl
  | 10 => rfl
  | 11 => rfl
  | 12 => rfl
  | 13 => rfl
  | 14 => rfl
  | 15 => rfl
  | 16 => rfl
  | 17 => rfl
  | 18 => rfl
  | 19 => rfl
  | 20 => rfl
  | 21 => rfl
  | 22 => rfl
  | 23 => rfl
  | 24 => rfl
  | 25 => rfl
  | 26 => rfl
  | 27 => rfl
  | 28 => rfl
  | 29 => rfl
  | 30 => rfl
  | 31 => rfl
  | 32 => rfl
  | 33 => rfl
  | 34 => rfl
  | 35 => rfl
  | 36 => rfl
  | 37 => rfl
  | 38 => rfl
  | 39 => rfl
  | j + 40 => exact if_neg (by omega)
theorem wr_15_29 {κ : zK} {μ : zM} {ω : Nat → Int64} {D : hz_H} {x : Int32} {K : hz_H → Prop} : hz_wr (zH κ μ ω D) 15 5 29 (.int x) K = K (zH κ (mS μ 18 x) ω D) := congrArg K st_15_29
theorem rd_15_30 {κ : zK} {μ : zM} {ω : Nat → Int64} {D : hz_H} {K : Value → Prop} : hz_rd (zH κ μ ω D) 15 5 30 K = K (.ref 37) := propext Iff.rfl
theorem rd_15_31 {κ : zK} {μ : zM} {ω : Nat → Int64} {D : hz_H} {K : Value → Prop} : hz_rd (zH κ μ ω D) 15 5 31 K = K (.ref 38) := propext Iff.rfl
theorem rd_15_32 {κ : zK} {μ : zM} {ω : Nat → Int64} {D : hz_H} {K : Value → Prop} : hz_rd (zH κ μ ω D) 15 5 32 K = K (.int (μ.1 19)) := propext Iff.rfl
theorem st_15_32 {κ : zK} {μ : zM} {ω : Nat → Int64} {D : hz_H} {x : Int32} : hz_set (zH κ μ ω D) 15 (.inr (5, ([.int (μ.1 10), .int (μ.1 11), .ref 16, .int (μ.1 12), .ref 17, .ref 18, .ref 19, .ref 20, .ref 21, .ref 22, .ref 23, .ref 24, .int (μ.1 13), .int (μ.1 14), .ref 25, .ref 26, .ref 27, .int (μ.1 15), .ref 28, .ref 29, .ref 30, .ref 31, .ref 32, .int (μ.1 16), .ref 33, .int (μ.1 17), .ref 34, .ref 35, .ref 36, .int (μ.1 18), .ref 37, .ref 38, .int (μ.1 19), .int (μ.1 20), .int (μ.1 21), .int (μ.1 22), .int (μ.1 23), .int (μ.1 24), .int (μ.1 25)] : List Value).set 32 (.int x))) = (zH κ (mS μ 19 x) ω D) := by
  funext i
  match i with
  | 0 => rfl
  | 1 => rfl
  | 2 => rfl
  | 3 => rfl
  | 4 => rfl
  | 5 => rfl
  | 6 => rfl
  | 7 => rfl
  | 8 => rfl
  | 9 => rfl
  | 10 => rfl
  | 11 => rfl
  | 12 => rfl
  | 13 => rfl
  | 14 => rfl
  | 15 => rfl
  | 16 => rfl
  | 17 => rfl
  | 18 => rfl
  | 19 => rfl
  | 20 => rfl
  | 21 => rfl
  | 22 => rfl
  | 23 => rfl
  | 24 => rfl
  | 25 => rfl
  | 26 => rfl
  | 27 => rfl
  | 28 => rfl
  | 29 => rfl
  | 30 => rfl
  | 31 => rfl
  | 32 => rfl
  | 33 => rfl
  | 34 => rfl
  | 35 => rfl
  | 36 => rfl
  | 37 => rfl
  | 38 => rfl
  | 39 => rfl
  | j + 40 => exact if_neg (by omega)
theorem wr_15_32 {κ : zK} {μ : zM} {ω : Nat → Int64} {D : hz_H} {x : Int32} {K : hz_H → Prop} : hz_wr (zH κ μ ω D) 15 5 32 (.int x) K = K (zH κ (mS μ 19 x) ω D) := congrArg K st_15_32
theorem rd_15_33 {κ : zK} {μ : zM} {ω : Nat → Int64} {D : hz_H} {K : Value → Prop} : hz_rd (zH κ μ ω D) 15 5 33 K = K (.int (μ.1 20)) := propext Iff.rfl
theorem st_15_33 {κ : zK} {μ : zM} {ω : Nat → Int64} {D : hz_H} {x : Int32} : hz_set (zH κ μ ω D) 15 (.inr (5, ([.int (μ.1 10), .int (μ.1 11), .ref 16, .int (μ.1 12), .ref 17, .ref 18, .ref 19, .ref 20, .ref 21, .ref 22, .ref 23, .ref 24, .int (μ.1 13), .int (μ.1 14), .ref 25, .ref 26, .ref 27, .int (μ.1 15), .ref 28, .ref 29, .ref 30, .ref 31, .ref 32, .int (μ.1 16), .ref 33, .int (μ.1 17), .ref 34, .ref 35, .ref 36, .int (μ.1 18), .ref 37, .ref 38, .int (μ.1 19), .int (μ.1 20), .int (μ.1 21), .int (μ.1 22), .int (μ.1 23), .int (μ.1 24), .int (μ.1 25)] : List Value).set 33 (.int x))) = (zH κ (mS μ 20 x) ω D) := by
  funext i
  match i with
  | 0 => rfl
  | 1 => rfl
  | 2 => rfl
  | 3 => rfl
  | 4 => rfl
  | 5 => rfl
  | 6 => rfl
  | 7 => rfl
  | 8 => rfl
  | 9 => rfl
  | 10 => rfl
  | 11 => rfl
  | 12 => rfl
  | 13 => rfl
  | 14 => rfl
  | 15 => rfl
  | 16 => rfl
  | 17 => rfl
  | 18 => rfl
  | 19 => rfl
  | 20 => rfl
  | 21 => rfl
  | 22 => rfl
  | 23 => rfl
  | 24 => rfl
  | 25 => rfl
  | 26 => rfl
  | 27 => rfl
  | 28 => rfl
  | 29 => rfl
  | 30 => rfl
  | 31 => rfl
  | 32 => rfl
  | 33 => rfl
  | 34 => rfl
  | 35 => rfl
  | 36 => rfl
  | 37 => rfl
  | 38 => rfl
  | 39 => rfl
  | j + 40 => exact if_neg (by omega)
theorem wr_15_33 {κ : zK} {μ : zM} {ω : Nat → Int64} {D : hz_H} {x : Int32} {K : hz_H → Prop} : hz_wr (zH κ μ ω D) 15 5 33 (.int x) K = K (zH κ (mS μ 20 x) ω D) := congrArg K st_15_33
theorem rd_15_34 {κ : zK} {μ : zM} {ω : Nat → Int64} {D : hz_H} {K : Value → Prop} : hz_rd (zH κ μ ω D) 15 5 34 K = K (.int (μ.1 21)) := propext Iff.rfl
theorem st_15_34 {κ : zK} {μ : zM} {ω : Nat → Int64} {D : hz_H} {x : Int32} : hz_set (zH κ μ ω D) 15 (.inr (5, ([.int (μ.1 10), .int (μ.1 11), .ref 16, .int (μ.1 12), .ref 17, .ref 18, .ref 19, .ref 20, .ref 21, .ref 22, .ref 23, .ref 24, .int (μ.1 13), .int (μ.1 14), .ref 25, .ref 26, .ref 27, .int (μ.1 15), .ref 28, .ref 29, .ref 30, .ref 31, .ref 32, .int (μ.1 16), .ref 33, .int (μ.1 17), .ref 34, .ref 35, .ref 36, .int (μ.1 18), .ref 37, .ref 38, .int (μ.1 19), .int (μ.1 20), .int (μ.1 21), .int (μ.1 22), .int (μ.1 23), .int (μ.1 24), .int (μ.1 25)] : List Value).set 34 (.int x))) = (zH κ (mS μ 21 x) ω D) := by
  funext i
  match i with
  | 0 => rfl
  | 1 => rfl
  | 2 => rfl
  | 3 => rfl
  | 4 => rfl
  | 5 => rfl
  | 6 => rfl
  | 7 => rfl
  | 8 => rfl
  | 9 => rfl
  | 10 => rfl
  | 11 => rfl
  | 12 => rfl
  | 13 => rfl
  | 14 => rfl
  | 15 => rfl
  | 16 => rfl
  | 17 => rfl
  | 18 => rfl
  | 19 => rfl
  | 20 => rfl
  | 21 => rfl
  | 22 => rfl
  | 23 => rfl
  | 24 => rfl
  | 25 => rfl
  | 26 => rfl
  | 27 => rfl
  | 28 => rfl
  | 29 => rfl
  | 30 => rfl
  | 31 => rfl
  | 32 => rfl
  | 33 => rfl
  | 34 => rfl
  | 35 => rfl
  | 36 => rfl
  | 37 => rfl
  | 38 => rfl
  | 39 => rfl
  | j + 40 => exact if_neg (by omega)
theorem wr_15_34 {κ : zK} {μ : zM} {ω : Nat → Int64} {D : hz_H} {x : Int32} {K : hz_H → Prop} : hz_wr (zH κ μ ω D) 15 5 34 (.int x) K = K (zH κ (mS μ 21 x) ω D) := congrArg K st_15_34
theorem rd_15_35 {κ : zK} {μ : zM} {ω : Nat → Int64} {D : hz_H} {K : Value → Prop} : hz_rd (zH κ μ ω D) 15 5 35 K = K (.int (μ.1 22)) := propext Iff.rfl
theorem st_15_35 {κ : zK} {μ : zM} {ω : Nat → Int64} {D : hz_H} {x : Int32} : hz_set (zH κ μ ω D) 15 (.inr (5, ([.int (μ.1 10), .int (μ.1 11), .ref 16, .int (μ.1 12), .ref 17, .ref 18, .ref 19, .ref 20, .ref 21, .ref 22, .ref 23, .ref 24, .int (μ.1 13), .int (μ.1 14), .ref 25, .ref 26, .ref 27, .int (μ.1 15), .ref 28, .ref 29, .ref 30, .ref 31, .ref 32, .int (μ.1 16), .ref 33, .int (μ.1 17), .ref 34, .ref 35, .ref 36, .int (μ.1 18), .ref 37, .ref 38, .int (μ.1 19), .int (μ.1 20), .int (μ.1 21), .int (μ.1 22), .int (μ.1 23), .int (μ.1 24), .int (μ.1 25)] : List Value).set 35 (.int x))) = (zH κ (mS μ 22 x) ω D) := by
  funext i
  match i with
  | 0 => rfl
  | 1 => rfl
  | 2 => rfl
  | 3 => rfl
  | 4 => rfl
  | 5 => rfl
  | 6 => rfl
  | 7 => rfl
  | 8 => rfl
  | 9 => rfl
  | 10 => rfl
  | 11 => rfl
  | 12 => rfl
  | 13 => rfl
  | 14 => rfl
  | 15 => rfl
  | 16 => rfl
  | 17 => rfl
  | 18 => rfl
  | 19 => rfl
  | 20 => rfl
  | 21 => rfl
  | 22 => rfl
  | 23 => rfl
  | 24 => rfl
  | 25 => rfl
  | 26 => rfl
  | 27 => rfl
  | 28 => rfl
  | 29 => rfl
  | 30 => rfl
  | 31 => rfl
  | 32 => rfl
  | 33 => rfl
  | 34 => rfl
  | 35 => rfl
  | 36 => rfl
  | 37 => rfl
  | 38 => rfl
  | 39 => rfl
  | j + 40 => exact if_neg (by omega)
theorem wr_15_35 {κ : zK} {μ : zM} {ω : Nat → Int64} {D : hz_H} {x : Int32} {K : hz_H → Prop} : hz_wr (zH κ μ ω D) 15 5 35 (.int x) K = K (zH κ (mS μ 22 x) ω D) := congrArg K st_15_35
theorem rd_15_36 {κ : zK} {μ : zM} {ω : Nat → Int64} {D : hz_H} {K : Value → Prop} : hz_rd (zH κ μ ω D) 15 5 36 K = K (.int (μ.1 23)) := propext Iff.rfl
theorem st_15_36 {κ : zK} {μ : zM} {ω : Nat → Int64} {D : hz_H} {x : Int32} : hz_set (zH κ μ ω D) 15 (.inr (5, ([.int (μ.1 10), .int (μ.1 11), .ref 16, .int (μ.1 12), .ref 17, .ref 18, .ref 19, .ref 20, .ref 21, .ref 22, .ref 23, .ref 24, .int (μ.1 13), .int (μ.1 14), .ref 25, .ref 26, .ref 27, .int (μ.1 15), .ref 28, .ref 29, .ref 30, .ref 31, .ref 32, .int (μ.1 16), .ref 33, .int (μ.1 17), .ref 34, .ref 35, .ref 36, .int (μ.1 18), .ref 37, .ref 38, .int (μ.1 19), .int (μ.1 20), .int (μ.1 21), .int (μ.1 22), .int (μ.1 23), .int (μ.1 24), .int (μ.1 25)] : List Value).set 36 (.int x))) = (zH κ (mS μ 23 x) ω D) := by
  funext i
  match i with
  | 0 => rfl
  | 1 => rfl
  | 2 => rfl
  | 3 => rfl
  | 4 => rfl
  | 5 => rfl
  | 6 => rfl
  | 7 => rfl
  | 8 => rfl
  | 9 => rfl
  | 10 => rfl
  | 11 => rfl
  | 12 => rfl
  | 13 => rfl
  | 14 => rfl
  | 15 => rfl
  | 16 => rfl
  | 17 => rfl
  | 18 => rfl
  | 19 => rfl
  | 20 => rfl
  | 21 => rfl
  | 22 => rfl
  | 23 => rfl
  | 24 => rfl
  | 25 => rfl
  | 26 => rfl
  | 27 => rfl
  | 28 => rfl
  | 29 => rfl
  | 30 => rfl
  | 31 => rfl
  | 32 => rfl
  | 33 => rfl
  | 34 => rfl
  | 35 => rfl
  | 36 => rfl
  | 37 => rfl
  | 38 => rfl
  | 39 => rfl
  | j + 40 => exact if_neg (by omega)
theorem wr_15_36 {κ : zK} {μ : zM} {ω : Nat → Int64} {D : hz_H} {x : Int32} {K : hz_H → Prop} : hz_wr (zH κ μ ω D) 15 5 36 (.int x) K = K (zH κ (mS μ 23 x) ω D) := congrArg K st_15_36
theorem rd_15_37 {κ : zK} {μ : zM} {ω : Nat → Int64} {D : hz_H} {K : Value → Prop} : hz_rd (zH κ μ ω D) 15 5 37 K = K (.int (μ.1 24)) := propext Iff.rfl
theorem st_15_37 {κ : zK} {μ : zM} {ω : Nat → Int64} {D : hz_H} {x : Int32} : hz_set (zH κ μ ω D) 15 (.inr (5, ([.int (μ.1 10), .int (μ.1 11), .ref 16, .int (μ.1 12), .ref 17, .ref 18, .ref 19, .ref 20, .ref 21, .ref 22, .ref 23, .ref 24, .int (μ.1 13), .int (μ.1 14), .ref 25, .ref 26, .ref 27, .int (μ.1 15), .ref 28, .ref 29, .ref 30, .ref 31, .ref 32, .int (μ.1 16), .ref 33, .int (μ.1 17), .ref 34, .ref 35, .ref 36, .int (μ.1 18), .ref 37, .ref 38, .int (μ.1 19), .int (μ.1 20), .int (μ.1 21), .int (μ.1 22), .int (μ.1 23), .int (μ.1 24), .int (μ.1 25)] : List Value).set 37 (.int x))) = (zH κ (mS μ 24 x) ω D) := by
  funext i
  match i with
  | 0 => rfl
  | 1 => rfl
  | 2 => rfl
  | 3 => rfl
  | 4 => rfl
  | 5 => rfl
  | 6 => rfl
  | 7 => rfl
  | 8 => rfl
  | 9 => rfl
  | 10 => rfl
  | 11 => rfl
  | 12 => rfl
  | 13 => rfl
  | 14 => rfl
  | 15 => rfl
  | 16 => rfl
  | 17 => rfl
  | 18 => rfl
  | 19 => rfl
  | 20 => rfl
  | 21 => rfl
  | 22 => rfl
  | 23 => rfl
  | 24 => rfl
  | 25 => rfl
  | 26 => rfl
  | 27 => rfl
  | 28 => rfl
  | 29 => rfl
  | 30 => rfl
  | 31 => rfl
  | 32 => rfl
  | 33 => rfl
  | 34 => rfl
  | 35 => rfl
  | 36 => rfl
  | 37 => rfl
  | 38 => rfl
  | 39 => rfl
  | j + 40 => exact if_neg (by omega)
theorem wr_15_37 {κ : zK} {μ : zM} {ω : Nat → Int64} {D : hz_H} {x : Int32} {K : hz_H → Prop} : hz_wr (zH κ μ ω D) 15 5 37 (.int x) K = K (zH κ (mS μ 24 x) ω D) := congrArg K st_15_37
theorem rd_15_38 {κ : zK} {μ : zM} {ω : Nat → Int64} {D : hz_H} {K : Value → Prop} : hz_rd (zH κ μ ω D) 15 5 38 K = K (.int (μ.1 25)) := propext Iff.rfl
theorem st_15_38 {κ : zK} {μ : zM} {ω : Nat → Int64} {D : hz_H} {x : Int32} : hz_set (zH κ μ ω D) 15 (.inr (5, ([.int (μ.1 10), .int (μ.1 11), .ref 16, .int (μ.1 12), .ref 17, .ref 18, .ref 19, .ref 20, .ref 21, .ref 22, .ref 23, .ref 24, .int (μ.1 13), .int (μ.1 14), .ref 25, .ref 26, .ref 27, .int (μ.1 15), .ref 28, .ref 29, .ref 30, .ref 31, .ref 32, .int (μ.1 16), .ref 33, .int (μ.1 17), .ref 34, .ref 35, .ref 36, .int (μ.1 18), .ref 37, .ref 38, .int (μ.1 19), .int (μ.1 20), .int (μ.1 21), .int (μ.1 22), .int (μ.1 23), .int (μ.1 24), .int (μ.1 25)] : List Value).set 38 (.int x))) = (zH κ (mS μ 25 x) ω D) := by
  funext i
  match i with
  | 0 => rfl
  | 1 => rfl
  | 2 => rfl
  | 3 => rfl
  | 4 => rfl
  | 5 => rfl
  | 6 => rfl
  | 7 => rfl
  | 8 => rfl
  | 9 => rfl
  | 10 => rfl
  | 11 => rfl
  | 12 => rfl
  | 13 => rfl
  | 14 => rfl
  | 15 => rfl
  | 16 => rfl
  | 17 => rfl
  | 18 => rfl
  | 19 => rfl
  | 20 => rfl
  | 21 => rfl
  | 22 => rfl
  | 23 => rfl
  | 24 => rfl
  | 25 => rfl
  | 26 => rfl
  | 27 => rfl
  | 28 => rfl
  | 29 => rfl
  | 30 => rfl
  | 31 => rfl
  | 32 => rfl
  | 33 => rfl
  | 34 => rfl
  | 35 => rfl
  | 36 => rfl
  | 37 => rfl
  | 38 => rfl
  | 39 => rfl
  | j + 40 => exact if_neg (by omega)
theorem wr_15_38 {κ : zK} {μ : zM} {ω : Nat → Int64} {D : hz_H} {x : Int32} {K : hz_H → Prop} : hz_wr (zH κ μ ω D) 15 5 38 (.int x) K = K (zH κ (mS μ 25 x) ω D) := congrArg K st_15_38
theorem ea_1 {κ : zK} {μ : zM} {ω : Nat → Int64} {D : hz_H} {x : Int32} {K : Value → Prop} : hz_ea zKT hz_kC (zH κ μ ω D) 1 x K = ((0 ≤ x.toInt ∧ x.toInt.toNat < 40) ∧ K (.int (κ.2.1 1 x.toInt.toNat))) := propext Iff.rfl
theorem sa_1 {κ : zK} {μ : zM} {ω : Nat → Int64} {D : hz_H} {x y : Int32} : hz_set (zH κ μ ω D) 1 (.inl (0, 40, updV (hz_i (κ.2.1 1)) x.toInt.toNat (.int y))) = (zH (kA κ 1 x.toInt.toNat y) μ ω D) := by
  rw [hz_upI]
  funext i
  match i with
  | 0 => rfl
  | 1 => rfl
  | 2 => rfl
  | 3 => rfl
  | 4 => rfl
  | 5 => rfl
  | 6 => rfl
  | 7 => rfl
  | 8 => rfl
  | 9 => rfl
  | 10 => rfl
  | 11 => rfl
  | 12 => rfl
  | 13 => rfl
  | 14 => rfl
  | 15 => rfl
  | 16 => rfl
  | 17 => rfl
  | 18 => rfl
  | 19 => rfl
  | 20 => rfl
  | 21 => rfl
  | 22 => rfl
  | 23 => rfl
  | 24 => rfl
  | 25 => rfl
  | 26 => rfl
  | 27 => rfl
  | 28 => rfl
  | 29 => rfl
  | 30 => rfl
  | 31 => rfl
  | 32 => rfl
  | 33 => rfl
  | 34 => rfl
  | 35 => rfl
  | 36 => rfl
  | 37 => rfl
  | 38 => rfl
  | 39 => rfl
  | j + 40 => exact if_neg (by omega)
theorem es_1 {κ : zK} {μ : zM} {ω : Nat → Int64} {D : hz_H} {x y : Int32} {K : hz_H → Prop} : hz_es zKT hz_kC (zH κ μ ω D) 1 x (.int y) K = ((0 ≤ x.toInt ∧ x.toInt.toNat < 40) ∧ K (zH (kA κ 1 x.toInt.toNat y) μ ω D)) := by
  rw [← sa_1]
  rfl
theorem ea_3 {κ : zK} {μ : zM} {ω : Nat → Int64} {D : hz_H} {x : Int32} {K : Value → Prop} : hz_ea zKT hz_kA (zH κ μ ω D) 3 x K = ((0 ≤ x.toInt ∧ x.toInt.toNat < 26) ∧ K (va_rf (κ.2.2 3 x.toInt.toNat))) := propext Iff.rfl
theorem ea_4 {κ : zK} {μ : zM} {ω : Nat → Int64} {D : hz_H} {x : Int32} {K : Value → Prop} : hz_ea zKT hz_kA (zH κ μ ω D) 4 x K = ((0 ≤ x.toInt ∧ x.toInt.toNat < 50) ∧ K (va_rf (κ.2.2 4 x.toInt.toNat))) := propext Iff.rfl
theorem ea_5 {κ : zK} {μ : zM} {ω : Nat → Int64} {D : hz_H} {x : Int32} {K : Value → Prop} : hz_ea zKT hz_kI (zH κ μ ω D) 5 x K = ((0 ≤ x.toInt ∧ x.toInt.toNat < 26) ∧ K (.int (κ.2.1 5 x.toInt.toNat))) := propext Iff.rfl
theorem sa_5 {κ : zK} {μ : zM} {ω : Nat → Int64} {D : hz_H} {x y : Int32} : hz_set (zH κ μ ω D) 5 (.inl (1, 26, updV (hz_i (κ.2.1 5)) x.toInt.toNat (.int y))) = (zH (kA κ 5 x.toInt.toNat y) μ ω D) := by
  rw [hz_upI]
  funext i
  match i with
  | 0 => rfl
  | 1 => rfl
  | 2 => rfl
  | 3 => rfl
  | 4 => rfl
  | 5 => rfl
  | 6 => rfl
  | 7 => rfl
  | 8 => rfl
  | 9 => rfl
  | 10 => rfl
  | 11 => rfl
  | 12 => rfl
  | 13 => rfl
  | 14 => rfl
  | 15 => rfl
  | 16 => rfl
  | 17 => rfl
  | 18 => rfl
  | 19 => rfl
  | 20 => rfl
  | 21 => rfl
  | 22 => rfl
  | 23 => rfl
  | 24 => rfl
  | 25 => rfl
  | 26 => rfl
  | 27 => rfl
  | 28 => rfl
  | 29 => rfl
  | 30 => rfl
  | 31 => rfl
  | 32 => rfl
  | 33 => rfl
  | 34 => rfl
  | 35 => rfl
  | 36 => rfl
  | 37 => rfl
  | 38 => rfl
  | 39 => rfl
  | j + 40 => exact if_neg (by omega)
theorem es_5 {κ : zK} {μ : zM} {ω : Nat → Int64} {D : hz_H} {x y : Int32} {K : hz_H → Prop} : hz_es zKT hz_kI (zH κ μ ω D) 5 x (.int y) K = ((0 ≤ x.toInt ∧ x.toInt.toNat < 26) ∧ K (zH (kA κ 5 x.toInt.toNat y) μ ω D)) := by
  rw [← sa_5]
  rfl
theorem ea_6 {κ : zK} {μ : zM} {ω : Nat → Int64} {D : hz_H} {x : Int32} {K : Value → Prop} : hz_ea zKT hz_kI (zH κ μ ω D) 6 x K = ((0 ≤ x.toInt ∧ x.toInt.toNat < 2001) ∧ K (.int (κ.2.1 6 x.toInt.toNat))) := propext Iff.rfl
theorem sa_6 {κ : zK} {μ : zM} {ω : Nat → Int64} {D : hz_H} {x y : Int32} : hz_set (zH κ μ ω D) 6 (.inl (1, 2001, updV (hz_i (κ.2.1 6)) x.toInt.toNat (.int y))) = (zH (kA κ 6 x.toInt.toNat y) μ ω D) := by
  rw [hz_upI]
  funext i
  match i with
  | 0 => rfl
  | 1 => rfl
  | 2 => rfl
  | 3 => rfl
  | 4 => rfl
  | 5 => rfl
  | 6 => rfl
  | 7 => rfl
  | 8 => rfl
  | 9 => rfl
  | 10 => rfl
  | 11 => rfl
  | 12 => rfl
  | 13 => rfl
  | 14 => rfl
  | 15 => rfl
  | 16 => rfl
  | 17 => rfl
  | 18 => rfl
  | 19 => rfl
  | 20 => rfl
  | 21 => rfl
  | 22 => rfl
  | 23 => rfl
  | 24 => rfl
  | 25 => rfl
  | 26 => rfl
  | 27 => rfl
  | 28 => rfl
  | 29 => rfl
  | 30 => rfl
  | 31 => rfl
  | 32 => rfl
  | 33 => rfl
  | 34 => rfl
  | 35 => rfl
  | 36 => rfl
  | 37 => rfl
  | 38 => rfl
  | 39 => rfl
  | j + 40 => exact if_neg (by omega)
theorem es_6 {κ : zK} {μ : zM} {ω : Nat → Int64} {D : hz_H} {x y : Int32} {K : hz_H → Prop} : hz_es zKT hz_kI (zH κ μ ω D) 6 x (.int y) K = ((0 ≤ x.toInt ∧ x.toInt.toNat < 2001) ∧ K (zH (kA κ 6 x.toInt.toNat y) μ ω D)) := by
  rw [← sa_6]
  rfl
theorem ea_7 {κ : zK} {μ : zM} {ω : Nat → Int64} {D : hz_H} {x : Int32} {K : Value → Prop} : hz_ea zKT hz_kI (zH κ μ ω D) 7 x K = ((0 ≤ x.toInt ∧ x.toInt.toNat < 2001) ∧ K (.int (κ.2.1 7 x.toInt.toNat))) := propext Iff.rfl
theorem sa_7 {κ : zK} {μ : zM} {ω : Nat → Int64} {D : hz_H} {x y : Int32} : hz_set (zH κ μ ω D) 7 (.inl (1, 2001, updV (hz_i (κ.2.1 7)) x.toInt.toNat (.int y))) = (zH (kA κ 7 x.toInt.toNat y) μ ω D) := by
  rw [hz_upI]
  funext i
  match i with
  | 0 => rfl
  | 1 => rfl
  | 2 => rfl
  | 3 => rfl
  | 4 => rfl
  | 5 => rfl
  | 6 => rfl
  | 7 => rfl
  | 8 => rfl
  | 9 => rfl
  | 10 => rfl
  | 11 => rfl
  | 12 => rfl
  | 13 => rfl
  | 14 => rfl
  | 15 => rfl
  | 16 => rfl
  | 17 => rfl
  | 18 => rfl
  | 19 => rfl
  | 20 => rfl
  | 21 => rfl
  | 22 => rfl
  | 23 => rfl
  | 24 => rfl
  | 25 => rfl
  | 26 => rfl
  | 27 => rfl
  | 28 => rfl
  | 29 => rfl
  | 30 => rfl
  | 31 => rfl
  | 32 => rfl
  | 33 => rfl
  | 34 => rfl
  | 35 => rfl
  | 36 => rfl
  | 37 => rfl
  | 38 => rfl
  | 39 => rfl
  | j + 40 => exact if_neg (by omega)
theorem es_7 {κ : zK} {μ : zM} {ω : Nat → Int64} {D : hz_H} {x y : Int32} {K : hz_H → Prop} : hz_es zKT hz_kI (zH κ μ ω D) 7 x (.int y) K = ((0 ≤ x.toInt ∧ x.toInt.toNat < 2001) ∧ K (zH (kA κ 7 x.toInt.toNat y) μ ω D)) := by
  rw [← sa_7]
  rfl
theorem ea_8 {κ : zK} {μ : zM} {ω : Nat → Int64} {D : hz_H} {x : Int32} {K : Value → Prop} : hz_ea zKT hz_kI (zH κ μ ω D) 8 x K = ((0 ≤ x.toInt ∧ x.toInt.toNat < 2001) ∧ K (.int (κ.2.1 8 x.toInt.toNat))) := propext Iff.rfl
theorem sa_8 {κ : zK} {μ : zM} {ω : Nat → Int64} {D : hz_H} {x y : Int32} : hz_set (zH κ μ ω D) 8 (.inl (1, 2001, updV (hz_i (κ.2.1 8)) x.toInt.toNat (.int y))) = (zH (kA κ 8 x.toInt.toNat y) μ ω D) := by
  rw [hz_upI]
  funext i
  match i with
  | 0 => rfl
  | 1 => rfl
  | 2 => rfl
  | 3 => rfl
  | 4 => rfl
  | 5 => rfl
  | 6 => rfl
  | 7 => rfl
  | 8 => rfl
  | 9 => rfl
  | 10 => rfl
  | 11 => rfl
  | 12 => rfl
  | 13 => rfl
  | 14 => rfl
  | 15 => rfl
  | 16 => rfl
  | 17 => rfl
  | 18 => rfl
  | 19 => rfl
  | 20 => rfl
  | 21 => rfl
  | 22 => rfl
  | 23 => rfl
  | 24 => rfl
  | 25 => rfl
  | 26 => rfl
  | 27 => rfl
  | 28 => rfl
  | 29 => rfl
  | 30 => rfl
  | 31 => rfl
  | 32 => rfl
  | 33 => rfl
  | 34 => rfl
  | 35 => rfl
  | 36 => rfl
  | 37 => rfl
  | 38 => rfl
  | 39 => rfl
  | j + 40 => exact if_neg (by omega)
theorem es_8 {κ : zK} {μ : zM} {ω : Nat → Int64} {D : hz_H} {x y : Int32} {K : hz_H → Prop} : hz_es zKT hz_kI (zH κ μ ω D) 8 x (.int y) K = ((0 ≤ x.toInt ∧ x.toInt.toNat < 2001) ∧ K (zH (kA κ 8 x.toInt.toNat y) μ ω D)) := by
  rw [← sa_8]
  rfl
theorem ea_9 {κ : zK} {μ : zM} {ω : Nat → Int64} {D : hz_H} {x : Int32} {K : Value → Prop} : hz_ea zKT hz_kI (zH κ μ ω D) 9 x K = ((0 ≤ x.toInt ∧ x.toInt.toNat < 2001) ∧ K (.int (κ.2.1 9 x.toInt.toNat))) := propext Iff.rfl
theorem sa_9 {κ : zK} {μ : zM} {ω : Nat → Int64} {D : hz_H} {x y : Int32} : hz_set (zH κ μ ω D) 9 (.inl (1, 2001, updV (hz_i (κ.2.1 9)) x.toInt.toNat (.int y))) = (zH (kA κ 9 x.toInt.toNat y) μ ω D) := by
  rw [hz_upI]
  funext i
  match i with
  | 0 => rfl
  | 1 => rfl
  | 2 => rfl
  | 3 => rfl
  | 4 => rfl
  | 5 => rfl
  | 6 => rfl
  | 7 => rfl
  | 8 => rfl
  | 9 => rfl
  | 10 => rfl
  | 11 => rfl
  | 12 => rfl
  | 13 => rfl
  | 14 => rfl
  | 15 => rfl
  | 16 => rfl
  | 17 => rfl
  | 18 => rfl
  | 19 => rfl
  | 20 => rfl
  | 21 => rfl
  | 22 => rfl
  | 23 => rfl
  | 24 => rfl
  | 25 => rfl
  | 26 => rfl
  | 27 => rfl
  | 28 => rfl
  | 29 => rfl
  | 30 => rfl
  | 31 => rfl
  | 32 => rfl
  | 33 => rfl
  | 34 => rfl
  | 35 => rfl
  | 36 => rfl
  | 37 => rfl
  | 38 => rfl
  | 39 => rfl
  | j + 40 => exact if_neg (by omega)
theorem es_9 {κ : zK} {μ : zM} {ω : Nat → Int64} {D : hz_H} {x y : Int32} {K : hz_H → Prop} : hz_es zKT hz_kI (zH κ μ ω D) 9 x (.int y) K = ((0 ≤ x.toInt ∧ x.toInt.toNat < 2001) ∧ K (zH (kA κ 9 x.toInt.toNat y) μ ω D)) := by
  rw [← sa_9]
  rfl
theorem ea_10 {κ : zK} {μ : zM} {ω : Nat → Int64} {D : hz_H} {x : Int32} {K : Value → Prop} : hz_ea zKT hz_kI (zH κ μ ω D) 10 x K = ((0 ≤ x.toInt ∧ x.toInt.toNat < 2001) ∧ K (.int (κ.2.1 10 x.toInt.toNat))) := propext Iff.rfl
theorem sa_10 {κ : zK} {μ : zM} {ω : Nat → Int64} {D : hz_H} {x y : Int32} : hz_set (zH κ μ ω D) 10 (.inl (1, 2001, updV (hz_i (κ.2.1 10)) x.toInt.toNat (.int y))) = (zH (kA κ 10 x.toInt.toNat y) μ ω D) := by
  rw [hz_upI]
  funext i
  match i with
  | 0 => rfl
  | 1 => rfl
  | 2 => rfl
  | 3 => rfl
  | 4 => rfl
  | 5 => rfl
  | 6 => rfl
  | 7 => rfl
  | 8 => rfl
  | 9 => rfl
  | 10 => rfl
  | 11 => rfl
  | 12 => rfl
  | 13 => rfl
  | 14 => rfl
  | 15 => rfl
  | 16 => rfl
  | 17 => rfl
  | 18 => rfl
  | 19 => rfl
  | 20 => rfl
  | 21 => rfl
  | 22 => rfl
  | 23 => rfl
  | 24 => rfl
  | 25 => rfl
  | 26 => rfl
  | 27 => rfl
  | 28 => rfl
  | 29 => rfl
  | 30 => rfl
  | 31 => rfl
  | 32 => rfl
  | 33 => rfl
  | 34 => rfl
  | 35 => rfl
  | 36 => rfl
  | 37 => rfl
  | 38 => rfl
  | 39 => rfl
  | j + 40 => exact if_neg (by omega)
theorem es_10 {κ : zK} {μ : zM} {ω : Nat → Int64} {D : hz_H} {x y : Int32} {K : hz_H → Prop} : hz_es zKT hz_kI (zH κ μ ω D) 10 x (.int y) K = ((0 ≤ x.toInt ∧ x.toInt.toNat < 2001) ∧ K (zH (kA κ 10 x.toInt.toNat y) μ ω D)) := by
  rw [← sa_10]
  rfl
theorem ea_11 {κ : zK} {μ : zM} {ω : Nat → Int64} {D : hz_H} {x : Int32} {K : Value → Prop} : hz_ea zKT hz_kI (zH κ μ ω D) 11 x K = ((0 ≤ x.toInt ∧ x.toInt.toNat < 2001) ∧ K (.int (κ.2.1 11 x.toInt.toNat))) := propext Iff.rfl
theorem sa_11 {κ : zK} {μ : zM} {ω : Nat → Int64} {D : hz_H} {x y : Int32} : hz_set (zH κ μ ω D) 11 (.inl (1, 2001, updV (hz_i (κ.2.1 11)) x.toInt.toNat (.int y))) = (zH (kA κ 11 x.toInt.toNat y) μ ω D) := by
  rw [hz_upI]
  funext i
  match i with
  | 0 => rfl
  | 1 => rfl
  | 2 => rfl
  | 3 => rfl
  | 4 => rfl
  | 5 => rfl
  | 6 => rfl
  | 7 => rfl
  | 8 => rfl
  | 9 => rfl
  | 10 => rfl
  | 11 => rfl
  | 12 => rfl
  | 13 => rfl
  | 14 => rfl
  | 15 => rfl
  | 16 => rfl
  | 17 => rfl
  | 18 => rfl
  | 19 => rfl
  | 20 => rfl
  | 21 => rfl
  | 22 => rfl
  | 23 => rfl
  | 24 => rfl
  | 25 => rfl
  | 26 => rfl
  | 27 => rfl
  | 28 => rfl
  | 29 => rfl
  | 30 => rfl
  | 31 => rfl
  | 32 => rfl
  | 33 => rfl
  | 34 => rfl
  | 35 => rfl
  | 36 => rfl
  | 37 => rfl
  | 38 => rfl
  | 39 => rfl
  | j + 40 => exact if_neg (by omega)
theorem es_11 {κ : zK} {μ : zM} {ω : Nat → Int64} {D : hz_H} {x y : Int32} {K : hz_H → Prop} : hz_es zKT hz_kI (zH κ μ ω D) 11 x (.int y) K = ((0 ≤ x.toInt ∧ x.toInt.toNat < 2001) ∧ K (zH (kA κ 11 x.toInt.toNat y) μ ω D)) := by
  rw [← sa_11]
  rfl
theorem ea_13 {κ : zK} {μ : zM} {ω : Nat → Int64} {D : hz_H} {x : Int32} {K : Value → Prop} : hz_ea zKT hz_kC (zH κ μ ω D) 13 x K = ((0 ≤ x.toInt ∧ x.toInt.toNat < 60) ∧ K (.int (κ.2.1 13 x.toInt.toNat))) := propext Iff.rfl
theorem sa_13 {κ : zK} {μ : zM} {ω : Nat → Int64} {D : hz_H} {x y : Int32} : hz_set (zH κ μ ω D) 13 (.inl (0, 60, updV (hz_i (κ.2.1 13)) x.toInt.toNat (.int y))) = (zH (kA κ 13 x.toInt.toNat y) μ ω D) := by
  rw [hz_upI]
  funext i
  match i with
  | 0 => rfl
  | 1 => rfl
  | 2 => rfl
  | 3 => rfl
  | 4 => rfl
  | 5 => rfl
  | 6 => rfl
  | 7 => rfl
  | 8 => rfl
  | 9 => rfl
  | 10 => rfl
  | 11 => rfl
  | 12 => rfl
  | 13 => rfl
  | 14 => rfl
  | 15 => rfl
  | 16 => rfl
  | 17 => rfl
  | 18 => rfl
  | 19 => rfl
  | 20 => rfl
  | 21 => rfl
  | 22 => rfl
  | 23 => rfl
  | 24 => rfl
  | 25 => rfl
  | 26 => rfl
  | 27 => rfl
  | 28 => rfl
  | 29 => rfl
  | 30 => rfl
  | 31 => rfl
  | 32 => rfl
  | 33 => rfl
  | 34 => rfl
  | 35 => rfl
  | 36 => rfl
  | 37 => rfl
  | 38 => rfl
  | 39 => rfl
  | j + 40 => exact if_neg (by omega)
theorem es_13 {κ : zK} {μ : zM} {ω : Nat → Int64} {D : hz_H} {x y : Int32} {K : hz_H → Prop} : hz_es zKT hz_kC (zH κ μ ω D) 13 x (.int y) K = ((0 ≤ x.toInt ∧ x.toInt.toNat < 60) ∧ K (zH (kA κ 13 x.toInt.toNat y) μ ω D)) := by
  rw [← sa_13]
  rfl
theorem ea_14 {κ : zK} {μ : zM} {ω : Nat → Int64} {D : hz_H} {x : Int32} {K : Value → Prop} : hz_ea zKT hz_kI (zH κ μ ω D) 14 x K = ((0 ≤ x.toInt ∧ x.toInt.toNat < 60) ∧ K (.int (κ.2.1 14 x.toInt.toNat))) := propext Iff.rfl
theorem sa_14 {κ : zK} {μ : zM} {ω : Nat → Int64} {D : hz_H} {x y : Int32} : hz_set (zH κ μ ω D) 14 (.inl (1, 60, updV (hz_i (κ.2.1 14)) x.toInt.toNat (.int y))) = (zH (kA κ 14 x.toInt.toNat y) μ ω D) := by
  rw [hz_upI]
  funext i
  match i with
  | 0 => rfl
  | 1 => rfl
  | 2 => rfl
  | 3 => rfl
  | 4 => rfl
  | 5 => rfl
  | 6 => rfl
  | 7 => rfl
  | 8 => rfl
  | 9 => rfl
  | 10 => rfl
  | 11 => rfl
  | 12 => rfl
  | 13 => rfl
  | 14 => rfl
  | 15 => rfl
  | 16 => rfl
  | 17 => rfl
  | 18 => rfl
  | 19 => rfl
  | 20 => rfl
  | 21 => rfl
  | 22 => rfl
  | 23 => rfl
  | 24 => rfl
  | 25 => rfl
  | 26 => rfl
  | 27 => rfl
  | 28 => rfl
  | 29 => rfl
  | 30 => rfl
  | 31 => rfl
  | 32 => rfl
  | 33 => rfl
  | 34 => rfl
  | 35 => rfl
  | 36 => rfl
  | 37 => rfl
  | 38 => rfl
  | 39 => rfl
  | j + 40 => exact if_neg (by omega)
theorem es_14 {κ : zK} {μ : zM} {ω : Nat → Int64} {D : hz_H} {x y : Int32} {K : hz_H → Prop} : hz_es zKT hz_kI (zH κ μ ω D) 14 x (.int y) K = ((0 ≤ x.toInt ∧ x.toInt.toNat < 60) ∧ K (zH (kA κ 14 x.toInt.toNat y) μ ω D)) := by
  rw [← sa_14]
  rfl
theorem ea_16 {κ : zK} {μ : zM} {ω : Nat → Int64} {D : hz_H} {x : Int32} {K : Value → Prop} : hz_ea zKT hz_kI (zH κ μ ω D) 16 x K = ((0 ≤ x.toInt ∧ x.toInt.toNat < 40) ∧ K (.int (μ.2 16 x.toInt.toNat))) := propext Iff.rfl
theorem sa_16 {κ : zK} {μ : zM} {ω : Nat → Int64} {D : hz_H} {x y : Int32} : hz_set (zH κ μ ω D) 16 (.inl (1, 40, updV (hz_i (μ.2 16)) x.toInt.toNat (.int y))) = (zH κ (mA μ 16 x.toInt.toNat y) ω D) := by
  rw [hz_upI]
  funext i
  match i with
  | 0 => rfl
  | 1 => rfl
  | 2 => rfl
  | 3 => rfl
  | 4 => rfl
  | 5 => rfl
  | 6 => rfl
  | 7 => rfl
  | 8 => rfl
  | 9 => rfl
  | 10 => rfl
  | 11 => rfl
  | 12 => rfl
  | 13 => rfl
  | 14 => rfl
  | 15 => rfl
  | 16 => rfl
  | 17 => rfl
  | 18 => rfl
  | 19 => rfl
  | 20 => rfl
  | 21 => rfl
  | 22 => rfl
  | 23 => rfl
  | 24 => rfl
  | 25 => rfl
  | 26 => rfl
  | 27 => rfl
  | 28 => rfl
  | 29 => rfl
  | 30 => rfl
  | 31 => rfl
  | 32 => rfl
  | 33 => rfl
  | 34 => rfl
  | 35 => rfl
  | 36 => rfl
  | 37 => rfl
  | 38 => rfl
  | 39 => rfl
  | j + 40 => exact if_neg (by omega)
theorem es_16 {κ : zK} {μ : zM} {ω : Nat → Int64} {D : hz_H} {x y : Int32} {K : hz_H → Prop} : hz_es zKT hz_kI (zH κ μ ω D) 16 x (.int y) K = ((0 ≤ x.toInt ∧ x.toInt.toNat < 40) ∧ K (zH κ (mA μ 16 x.toInt.toNat y) ω D)) := by
  rw [← sa_16]
  rfl
theorem ea_17 {κ : zK} {μ : zM} {ω : Nat → Int64} {D : hz_H} {x : Int32} {K : Value → Prop} : hz_ea zKT hz_kI (zH κ μ ω D) 17 x K = ((0 ≤ x.toInt ∧ x.toInt.toNat < 60) ∧ K (.int (μ.2 17 x.toInt.toNat))) := propext Iff.rfl
theorem sa_17 {κ : zK} {μ : zM} {ω : Nat → Int64} {D : hz_H} {x y : Int32} : hz_set (zH κ μ ω D) 17 (.inl (1, 60, updV (hz_i (μ.2 17)) x.toInt.toNat (.int y))) = (zH κ (mA μ 17 x.toInt.toNat y) ω D) := by
  rw [hz_upI]
  funext i
  match i with
  | 0 => rfl
  | 1 => rfl
  | 2 => rfl
  | 3 => rfl
  | 4 => rfl
  | 5 => rfl
  | 6 => rfl
  | 7 => rfl
  | 8 => rfl
  | 9 => rfl
  | 10 => rfl
  | 11 => rfl
  | 12 => rfl
  | 13 => rfl
  | 14 => rfl
  | 15 => rfl
  | 16 => rfl
  | 17 => rfl
  | 18 => rfl
  | 19 => rfl
  | 20 => rfl
  | 21 => rfl
  | 22 => rfl
  | 23 => rfl
  | 24 => rfl
  | 25 => rfl
  | 26 => rfl
  | 27 => rfl
  | 28 => rfl
  | 29 => rfl
  | 30 => rfl
  | 31 => rfl
  | 32 => rfl
  | 33 => rfl
  | 34 => rfl
  | 35 => rfl
  | 36 => rfl
  | 37 => rfl
  | 38 => rfl
  | 39 => rfl
  | j + 40 => exact if_neg (by omega)
theorem es_17 {κ : zK} {μ : zM} {ω : Nat → Int64} {D : hz_H} {x y : Int32} {K : hz_H → Prop} : hz_es zKT hz_kI (zH κ μ ω D) 17 x (.int y) K = ((0 ≤ x.toInt ∧ x.toInt.toNat < 60) ∧ K (zH κ (mA μ 17 x.toInt.toNat y) ω D)) := by
  rw [← sa_17]
  rfl
theorem ea_18 {κ : zK} {μ : zM} {ω : Nat → Int64} {D : hz_H} {x : Int32} {K : Value → Prop} : hz_ea zKT hz_kZ (zH κ μ ω D) 18 x K = ((0 ≤ x.toInt ∧ x.toInt.toNat < 26) ∧ K (.int (μ.2 18 x.toInt.toNat))) := propext Iff.rfl
theorem sa_18 {κ : zK} {μ : zM} {ω : Nat → Int64} {D : hz_H} {x y : Int32} : hz_set (zH κ μ ω D) 18 (.inl (3, 26, updV (hz_i (μ.2 18)) x.toInt.toNat (.int y))) = (zH κ (mA μ 18 x.toInt.toNat y) ω D) := by
  rw [hz_upI]
  funext i
  match i with
  | 0 => rfl
  | 1 => rfl
  | 2 => rfl
  | 3 => rfl
  | 4 => rfl
  | 5 => rfl
  | 6 => rfl
  | 7 => rfl
  | 8 => rfl
  | 9 => rfl
  | 10 => rfl
  | 11 => rfl
  | 12 => rfl
  | 13 => rfl
  | 14 => rfl
  | 15 => rfl
  | 16 => rfl
  | 17 => rfl
  | 18 => rfl
  | 19 => rfl
  | 20 => rfl
  | 21 => rfl
  | 22 => rfl
  | 23 => rfl
  | 24 => rfl
  | 25 => rfl
  | 26 => rfl
  | 27 => rfl
  | 28 => rfl
  | 29 => rfl
  | 30 => rfl
  | 31 => rfl
  | 32 => rfl
  | 33 => rfl
  | 34 => rfl
  | 35 => rfl
  | 36 => rfl
  | 37 => rfl
  | 38 => rfl
  | 39 => rfl
  | j + 40 => exact if_neg (by omega)
theorem es_18 {κ : zK} {μ : zM} {ω : Nat → Int64} {D : hz_H} {x y : Int32} {K : hz_H → Prop} : hz_es zKT hz_kZ (zH κ μ ω D) 18 x (.int y) K = ((0 ≤ x.toInt ∧ x.toInt.toNat < 26) ∧ K (zH κ (mA μ 18 x.toInt.toNat y) ω D)) := by
  rw [← sa_18]
  rfl
theorem ea_19 {κ : zK} {μ : zM} {ω : Nat → Int64} {D : hz_H} {x : Int32} {K : Value → Prop} : hz_ea zKT hz_kI (zH κ μ ω D) 19 x K = ((0 ≤ x.toInt ∧ x.toInt.toNat < 27) ∧ K (.int (μ.2 19 x.toInt.toNat))) := propext Iff.rfl
theorem sa_19 {κ : zK} {μ : zM} {ω : Nat → Int64} {D : hz_H} {x y : Int32} : hz_set (zH κ μ ω D) 19 (.inl (1, 27, updV (hz_i (μ.2 19)) x.toInt.toNat (.int y))) = (zH κ (mA μ 19 x.toInt.toNat y) ω D) := by
  rw [hz_upI]
  funext i
  match i with
  | 0 => rfl
  | 1 => rfl
  | 2 => rfl
  | 3 => rfl
  | 4 => rfl
  | 5 => rfl
  | 6 => rfl
  | 7 => rfl
  | 8 => rfl
  | 9 => rfl
  | 10 => rfl
  | 11 => rfl
  | 12 => rfl
  | 13 => rfl
  | 14 => rfl
  | 15 => rfl
  | 16 => rfl
  | 17 => rfl
  | 18 => rfl
  | 19 => rfl
  | 20 => rfl
  | 21 => rfl
  | 22 => rfl
  | 23 => rfl
  | 24 => rfl
  | 25 => rfl
  | 26 => rfl
  | 27 => rfl
  | 28 => rfl
  | 29 => rfl
  | 30 => rfl
  | 31 => rfl
  | 32 => rfl
  | 33 => rfl
  | 34 => rfl
  | 35 => rfl
  | 36 => rfl
  | 37 => rfl
  | 38 => rfl
  | 39 => rfl
  | j + 40 => exact if_neg (by omega)
theorem es_19 {κ : zK} {μ : zM} {ω : Nat → Int64} {D : hz_H} {x y : Int32} {K : hz_H → Prop} : hz_es zKT hz_kI (zH κ μ ω D) 19 x (.int y) K = ((0 ≤ x.toInt ∧ x.toInt.toNat < 27) ∧ K (zH κ (mA μ 19 x.toInt.toNat y) ω D)) := by
  rw [← sa_19]
  rfl
theorem ea_20 {κ : zK} {μ : zM} {ω : Nat → Int64} {D : hz_H} {x : Int32} {K : Value → Prop} : hz_ea zKT hz_kI (zH κ μ ω D) 20 x K = ((0 ≤ x.toInt ∧ x.toInt.toNat < 108) ∧ K (.int (μ.2 20 x.toInt.toNat))) := propext Iff.rfl
theorem sa_20 {κ : zK} {μ : zM} {ω : Nat → Int64} {D : hz_H} {x y : Int32} : hz_set (zH κ μ ω D) 20 (.inl (1, 108, updV (hz_i (μ.2 20)) x.toInt.toNat (.int y))) = (zH κ (mA μ 20 x.toInt.toNat y) ω D) := by
  rw [hz_upI]
  funext i
  match i with
  | 0 => rfl
  | 1 => rfl
  | 2 => rfl
  | 3 => rfl
  | 4 => rfl
  | 5 => rfl
  | 6 => rfl
  | 7 => rfl
  | 8 => rfl
  | 9 => rfl
  | 10 => rfl
  | 11 => rfl
  | 12 => rfl
  | 13 => rfl
  | 14 => rfl
  | 15 => rfl
  | 16 => rfl
  | 17 => rfl
  | 18 => rfl
  | 19 => rfl
  | 20 => rfl
  | 21 => rfl
  | 22 => rfl
  | 23 => rfl
  | 24 => rfl
  | 25 => rfl
  | 26 => rfl
  | 27 => rfl
  | 28 => rfl
  | 29 => rfl
  | 30 => rfl
  | 31 => rfl
  | 32 => rfl
  | 33 => rfl
  | 34 => rfl
  | 35 => rfl
  | 36 => rfl
  | 37 => rfl
  | 38 => rfl
  | 39 => rfl
  | j + 40 => exact if_neg (by omega)
theorem es_20 {κ : zK} {μ : zM} {ω : Nat → Int64} {D : hz_H} {x y : Int32} {K : hz_H → Prop} : hz_es zKT hz_kI (zH κ μ ω D) 20 x (.int y) K = ((0 ≤ x.toInt ∧ x.toInt.toNat < 108) ∧ K (zH κ (mA μ 20 x.toInt.toNat y) ω D)) := by
  rw [← sa_20]
  rfl
theorem ea_21 {κ : zK} {μ : zM} {ω : Nat → Int64} {D : hz_H} {x : Int32} {K : Value → Prop} : hz_ea zKT hz_kI (zH κ μ ω D) 21 x K = ((0 ≤ x.toInt ∧ x.toInt.toNat < 1080) ∧ K (.int (μ.2 21 x.toInt.toNat))) := propext Iff.rfl
theorem sa_21 {κ : zK} {μ : zM} {ω : Nat → Int64} {D : hz_H} {x y : Int32} : hz_set (zH κ μ ω D) 21 (.inl (1, 1080, updV (hz_i (μ.2 21)) x.toInt.toNat (.int y))) = (zH κ (mA μ 21 x.toInt.toNat y) ω D) := by
  rw [hz_upI]
  funext i
  match i with
  | 0 => rfl
  | 1 => rfl
  | 2 => rfl
  | 3 => rfl
  | 4 => rfl
  | 5 => rfl
  | 6 => rfl
  | 7 => rfl
  | 8 => rfl
  | 9 => rfl
  | 10 => rfl
  | 11 => rfl
  | 12 => rfl
  | 13 => rfl
  | 14 => rfl
  | 15 => rfl
  | 16 => rfl
  | 17 => rfl
  | 18 => rfl
  | 19 => rfl
  | 20 => rfl
  | 21 => rfl
  | 22 => rfl
  | 23 => rfl
  | 24 => rfl
  | 25 => rfl
  | 26 => rfl
  | 27 => rfl
  | 28 => rfl
  | 29 => rfl
  | 30 => rfl
  | 31 => rfl
  | 32 => rfl
  | 33 => rfl
  | 34 => rfl
  | 35 => rfl
  | 36 => rfl
  | 37 => rfl
  | 38 => rfl
  | 39 => rfl
  | j + 40 => exact if_neg (by omega)
theorem es_21 {κ : zK} {μ : zM} {ω : Nat → Int64} {D : hz_H} {x y : Int32} {K : hz_H → Prop} : hz_es zKT hz_kI (zH κ μ ω D) 21 x (.int y) K = ((0 ≤ x.toInt ∧ x.toInt.toNat < 1080) ∧ K (zH κ (mA μ 21 x.toInt.toNat y) ω D)) := by
  rw [← sa_21]
  rfl
theorem ea_22 {κ : zK} {μ : zM} {ω : Nat → Int64} {D : hz_H} {x : Int32} {K : Value → Prop} : hz_ea zKT hz_kI (zH κ μ ω D) 22 x K = ((0 ≤ x.toInt ∧ x.toInt.toNat < 1080) ∧ K (.int (μ.2 22 x.toInt.toNat))) := propext Iff.rfl
theorem sa_22 {κ : zK} {μ : zM} {ω : Nat → Int64} {D : hz_H} {x y : Int32} : hz_set (zH κ μ ω D) 22 (.inl (1, 1080, updV (hz_i (μ.2 22)) x.toInt.toNat (.int y))) = (zH κ (mA μ 22 x.toInt.toNat y) ω D) := by
  rw [hz_upI]
  funext i
  match i with
  | 0 => rfl
  | 1 => rfl
  | 2 => rfl
  | 3 => rfl
  | 4 => rfl
  | 5 => rfl
  | 6 => rfl
  | 7 => rfl
  | 8 => rfl
  | 9 => rfl
  | 10 => rfl
  | 11 => rfl
  | 12 => rfl
  | 13 => rfl
  | 14 => rfl
  | 15 => rfl
  | 16 => rfl
  | 17 => rfl
  | 18 => rfl
  | 19 => rfl
  | 20 => rfl
  | 21 => rfl
  | 22 => rfl
  | 23 => rfl
  | 24 => rfl
  | 25 => rfl
  | 26 => rfl
  | 27 => rfl
  | 28 => rfl
  | 29 => rfl
  | 30 => rfl
  | 31 => rfl
  | 32 => rfl
  | 33 => rfl
  | 34 => rfl
  | 35 => rfl
  | 36 => rfl
  | 37 => rfl
  | 38 => rfl
  | 39 => rfl
  | j + 40 => exact if_neg (by omega)
theorem es_22 {κ : zK} {μ : zM} {ω : Nat → Int64} {D : hz_H} {x y : Int32} {K : hz_H → Prop} : hz_es zKT hz_kI (zH κ μ ω D) 22 x (.int y) K = ((0 ≤ x.toInt ∧ x.toInt.toNat < 1080) ∧ K (zH κ (mA μ 22 x.toInt.toNat y) ω D)) := by
  rw [← sa_22]
  rfl
theorem ea_23 {κ : zK} {μ : zM} {ω : Nat → Int64} {D : hz_H} {x : Int32} {K : Value → Prop} : hz_ea zKT hz_kI (zH κ μ ω D) 23 x K = ((0 ≤ x.toInt ∧ x.toInt.toNat < 1080) ∧ K (.int (μ.2 23 x.toInt.toNat))) := propext Iff.rfl
theorem sa_23 {κ : zK} {μ : zM} {ω : Nat → Int64} {D : hz_H} {x y : Int32} : hz_set (zH κ μ ω D) 23 (.inl (1, 1080, updV (hz_i (μ.2 23)) x.toInt.toNat (.int y))) = (zH κ (mA μ 23 x.toInt.toNat y) ω D) := by
  rw [hz_upI]
  funext i
  match i with
  | 0 => rfl
  | 1 => rfl
  | 2 => rfl
  | 3 => rfl
  | 4 => rfl
  | 5 => rfl
  | 6 => rfl
  | 7 => rfl
  | 8 => rfl
  | 9 => rfl
  | 10 => rfl
  | 11 => rfl
  | 12 => rfl
  | 13 => rfl
  | 14 => rfl
  | 15 => rfl
  | 16 => rfl
  | 17 => rfl
  | 18 => rfl
  | 19 => rfl
  | 20 => rfl
  | 21 => rfl
  | 22 => rfl
  | 23 => rfl
  | 24 => rfl
  | 25 => rfl
  | 26 => rfl
  | 27 => rfl
  | 28 => rfl
  | 29 => rfl
  | 30 => rfl
  | 31 => rfl
  | 32 => rfl
  | 33 => rfl
  | 34 => rfl
  | 35 => rfl
  | 36 => rfl
  | 37 => rfl
  | 38 => rfl
  | 39 => rfl
  | j + 40 => exact if_neg (by omega)
theorem es_23 {κ : zK} {μ : zM} {ω : Nat → Int64} {D : hz_H} {x y : Int32} {K : hz_H → Prop} : hz_es zKT hz_kI (zH κ μ ω D) 23 x (.int y) K = ((0 ≤ x.toInt ∧ x.toInt.toNat < 1080) ∧ K (zH κ (mA μ 23 x.toInt.toNat y) ω D)) := by
  rw [← sa_23]
  rfl
theorem ea_24 {κ : zK} {μ : zM} {ω : Nat → Int64} {D : hz_H} {x : Int32} {K : Value → Prop} : hz_ea zKT hz_kI (zH κ μ ω D) 24 x K = ((0 ≤ x.toInt ∧ x.toInt.toNat < 40) ∧ K (.int (μ.2 24 x.toInt.toNat))) := propext Iff.rfl
theorem sa_24 {κ : zK} {μ : zM} {ω : Nat → Int64} {D : hz_H} {x y : Int32} : hz_set (zH κ μ ω D) 24 (.inl (1, 40, updV (hz_i (μ.2 24)) x.toInt.toNat (.int y))) = (zH κ (mA μ 24 x.toInt.toNat y) ω D) := by
  rw [hz_upI]
  funext i
  match i with
  | 0 => rfl
  | 1 => rfl
  | 2 => rfl
  | 3 => rfl
  | 4 => rfl
  | 5 => rfl
  | 6 => rfl
  | 7 => rfl
  | 8 => rfl
  | 9 => rfl
  | 10 => rfl
  | 11 => rfl
  | 12 => rfl
  | 13 => rfl
  | 14 => rfl
  | 15 => rfl
  | 16 => rfl
  | 17 => rfl
  | 18 => rfl
  | 19 => rfl
  | 20 => rfl
  | 21 => rfl
  | 22 => rfl
  | 23 => rfl
  | 24 => rfl
  | 25 => rfl
  | 26 => rfl
  | 27 => rfl
  | 28 => rfl
  | 29 => rfl
  | 30 => rfl
  | 31 => rfl
  | 32 => rfl
  | 33 => rfl
  | 34 => rfl
  | 35 => rfl
  | 36 => rfl
  | 37 => rfl
  | 38 => rfl
  | 39 => rfl
  | j + 40 => exact if_neg (by omega)
theorem es_24 {κ : zK} {μ : zM} {ω : Nat → Int64} {D : hz_H} {x y : Int32} {K : hz_H → Prop} : hz_es zKT hz_kI (zH κ μ ω D) 24 x (.int y) K = ((0 ≤ x.toInt ∧ x.toInt.toNat < 40) ∧ K (zH κ (mA μ 24 x.toInt.toNat y) ω D)) := by
  rw [← sa_24]
  rfl
theorem ea_25 {κ : zK} {μ : zM} {ω : Nat → Int64} {D : hz_H} {x : Int32} {K : Value → Prop} : hz_ea zKT hz_kI (zH κ μ ω D) 25 x K = ((0 ≤ x.toInt ∧ x.toInt.toNat < 120) ∧ K (.int (μ.2 25 x.toInt.toNat))) := propext Iff.rfl
theorem sa_25 {κ : zK} {μ : zM} {ω : Nat → Int64} {D : hz_H} {x y : Int32} : hz_set (zH κ μ ω D) 25 (.inl (1, 120, updV (hz_i (μ.2 25)) x.toInt.toNat (.int y))) = (zH κ (mA μ 25 x.toInt.toNat y) ω D) := by
  rw [hz_upI]
  funext i
  match i with
  | 0 => rfl
  | 1 => rfl
  | 2 => rfl
  | 3 => rfl
  | 4 => rfl
  | 5 => rfl
  | 6 => rfl
  | 7 => rfl
  | 8 => rfl
  | 9 => rfl
  | 10 => rfl
  | 11 => rfl
  | 12 => rfl
  | 13 => rfl
  | 14 => rfl
  | 15 => rfl
  | 16 => rfl
  | 17 => rfl
  | 18 => rfl
  | 19 => rfl
  | 20 => rfl
  | 21 => rfl
  | 22 => rfl
  | 23 => rfl
  | 24 => rfl
  | 25 => rfl
  | 26 => rfl
  | 27 => rfl
  | 28 => rfl
  | 29 => rfl
  | 30 => rfl
  | 31 => rfl
  | 32 => rfl
  | 33 => rfl
  | 34 => rfl
  | 35 => rfl
  | 36 => rfl
  | 37 => rfl
  | 38 => rfl
  | 39 => rfl
  | j + 40 => exact if_neg (by omega)
theorem es_25 {κ : zK} {μ : zM} {ω : Nat → Int64} {D : hz_H} {x y : Int32} {K : hz_H → Prop} : hz_es zKT hz_kI (zH κ μ ω D) 25 x (.int y) K = ((0 ≤ x.toInt ∧ x.toInt.toNat < 120) ∧ K (zH κ (mA μ 25 x.toInt.toNat y) ω D)) := by
  rw [← sa_25]
  rfl
theorem ea_26 {κ : zK} {μ : zM} {ω : Nat → Int64} {D : hz_H} {x : Int32} {K : Value → Prop} : hz_ea zKT hz_kI (zH κ μ ω D) 26 x K = ((0 ≤ x.toInt ∧ x.toInt.toNat < 120) ∧ K (.int (μ.2 26 x.toInt.toNat))) := propext Iff.rfl
theorem sa_26 {κ : zK} {μ : zM} {ω : Nat → Int64} {D : hz_H} {x y : Int32} : hz_set (zH κ μ ω D) 26 (.inl (1, 120, updV (hz_i (μ.2 26)) x.toInt.toNat (.int y))) = (zH κ (mA μ 26 x.toInt.toNat y) ω D) := by
  rw [hz_upI]
  funext i
  match i with
  | 0 => rfl
  | 1 => rfl
  | 2 => rfl
  | 3 => rfl
  | 4 => rfl
  | 5 => rfl
  | 6 => rfl
  | 7 => rfl
  | 8 => rfl
  | 9 => rfl
  | 10 => rfl
  | 11 => rfl
  | 12 => rfl
  | 13 => rfl
  | 14 => rfl
  | 15 => rfl
  | 16 => rfl
  | 17 => rfl
  | 18 => rfl
  | 19 => rfl
  | 20 => rfl
  | 21 => rfl
  | 22 => rfl
  | 23 => rfl
  | 24 => rfl
  | 25 => rfl
  | 26 => rfl
  | 27 => rfl
  | 28 => rfl
  | 29 => rfl
  | 30 => rfl
  | 31 => rfl
  | 32 => rfl
  | 33 => rfl
  | 34 => rfl
  | 35 => rfl
  | 36 => rfl
  | 37 => rfl
  | 38 => rfl
  | 39 => rfl
  | j + 40 => exact if_neg (by omega)
theorem es_26 {κ : zK} {μ : zM} {ω : Nat → Int64} {D : hz_H} {x y : Int32} {K : hz_H → Prop} : hz_es zKT hz_kI (zH κ μ ω D) 26 x (.int y) K = ((0 ≤ x.toInt ∧ x.toInt.toNat < 120) ∧ K (zH κ (mA μ 26 x.toInt.toNat y) ω D)) := by
  rw [← sa_26]
  rfl
theorem ea_27 {κ : zK} {μ : zM} {ω : Nat → Int64} {D : hz_H} {x : Int32} {K : Value → Prop} : hz_ea zKT hz_kI (zH κ μ ω D) 27 x K = ((0 ≤ x.toInt ∧ x.toInt.toNat < 120) ∧ K (.int (μ.2 27 x.toInt.toNat))) := propext Iff.rfl
theorem sa_27 {κ : zK} {μ : zM} {ω : Nat → Int64} {D : hz_H} {x y : Int32} : hz_set (zH κ μ ω D) 27 (.inl (1, 120, updV (hz_i (μ.2 27)) x.toInt.toNat (.int y))) = (zH κ (mA μ 27 x.toInt.toNat y) ω D) := by
  rw [hz_upI]
  funext i
  match i with
  | 0 => rfl
  | 1 => rfl
  | 2 => rfl
  | 3 => rfl
  | 4 => rfl
  | 5 => rfl
  | 6 => rfl
  | 7 => rfl
  | 8 => rfl
  | 9 => rfl
  | 10 => rfl
  | 11 => rfl
  | 12 => rfl
  | 13 => rfl
  | 14 => rfl
  | 15 => rfl
  | 16 => rfl
  | 17 => rfl
  | 18 => rfl
  | 19 => rfl
  | 20 => rfl
  | 21 => rfl
  | 22 => rfl
  | 23 => rfl
  | 24 => rfl
  | 25 => rfl
  | 26 => rfl
  | 27 => rfl
  | 28 => rfl
  | 29 => rfl
  | 30 => rfl
  | 31 => rfl
  | 32 => rfl
  | 33 => rfl
  | 34 => rfl
  | 35 => rfl
  | 36 => rfl
  | 37 => rfl
  | 38 => rfl
  | 39 => rfl
  | j + 40 => exact if_neg (by omega)
theorem es_27 {κ : zK} {μ : zM} {ω : Nat → Int64} {D : hz_H} {x y : Int32} {K : hz_H → Prop} : hz_es zKT hz_kI (zH κ μ ω D) 27 x (.int y) K = ((0 ≤ x.toInt ∧ x.toInt.toNat < 120) ∧ K (zH κ (mA μ 27 x.toInt.toNat y) ω D)) := by
  rw [← sa_27]
  rfl
theorem ea_28 {κ : zK} {μ : zM} {ω : Nat → Int64} {D : hz_H} {x : Int32} {K : Value → Prop} : hz_ea zKT hz_kI (zH κ μ ω D) 28 x K = ((0 ≤ x.toInt ∧ x.toInt.toNat < 1000) ∧ K (.int (μ.2 28 x.toInt.toNat))) := propext Iff.rfl
theorem sa_28 {κ : zK} {μ : zM} {ω : Nat → Int64} {D : hz_H} {x y : Int32} : hz_set (zH κ μ ω D) 28 (.inl (1, 1000, updV (hz_i (μ.2 28)) x.toInt.toNat (.int y))) = (zH κ (mA μ 28 x.toInt.toNat y) ω D) := by
  rw [hz_upI]
  funext i
  match i with
  | 0 => rfl
  | 1 => rfl
  | 2 => rfl
  | 3 => rfl
  | 4 => rfl
  | 5 => rfl
  | 6 => rfl
  | 7 => rfl
  | 8 => rfl
  | 9 => rfl
  | 10 => rfl
  | 11 => rfl
  | 12 => rfl
  | 13 => rfl
  | 14 => rfl
  | 15 => rfl
  | 16 => rfl
  | 17 => rfl
  | 18 => rfl
  | 19 => rfl
  | 20 => rfl
  | 21 => rfl
  | 22 => rfl
  | 23 => rfl
  | 24 => rfl
  | 25 => rfl
  | 26 => rfl
  | 27 => rfl
  | 28 => rfl
  | 29 => rfl
  | 30 => rfl
  | 31 => rfl
  | 32 => rfl
  | 33 => rfl
  | 34 => rfl
  | 35 => rfl
  | 36 => rfl
  | 37 => rfl
  | 38 => rfl
  | 39 => rfl
  | j + 40 => exact if_neg (by omega)
theorem es_28 {κ : zK} {μ : zM} {ω : Nat → Int64} {D : hz_H} {x y : Int32} {K : hz_H → Prop} : hz_es zKT hz_kI (zH κ μ ω D) 28 x (.int y) K = ((0 ≤ x.toInt ∧ x.toInt.toNat < 1000) ∧ K (zH κ (mA μ 28 x.toInt.toNat y) ω D)) := by
  rw [← sa_28]
  rfl
theorem ea_29 {κ : zK} {μ : zM} {ω : Nat → Int64} {D : hz_H} {x : Int32} {K : Value → Prop} : hz_ea zKT hz_kI (zH κ μ ω D) 29 x K = ((0 ≤ x.toInt ∧ x.toInt.toNat < 1000) ∧ K (.int (μ.2 29 x.toInt.toNat))) := propext Iff.rfl
theorem sa_29 {κ : zK} {μ : zM} {ω : Nat → Int64} {D : hz_H} {x y : Int32} : hz_set (zH κ μ ω D) 29 (.inl (1, 1000, updV (hz_i (μ.2 29)) x.toInt.toNat (.int y))) = (zH κ (mA μ 29 x.toInt.toNat y) ω D) := by
  rw [hz_upI]
  funext i
  match i with
  | 0 => rfl
  | 1 => rfl
  | 2 => rfl
  | 3 => rfl
  | 4 => rfl
  | 5 => rfl
  | 6 => rfl
  | 7 => rfl
  | 8 => rfl
  | 9 => rfl
  | 10 => rfl
  | 11 => rfl
  | 12 => rfl
  | 13 => rfl
  | 14 => rfl
  | 15 => rfl
  | 16 => rfl
  | 17 => rfl
  | 18 => rfl
  | 19 => rfl
  | 20 => rfl
  | 21 => rfl
  | 22 => rfl
  | 23 => rfl
  | 24 => rfl
  | 25 => rfl
  | 26 => rfl
  | 27 => rfl
  | 28 => rfl
  | 29 => rfl
  | 30 => rfl
  | 31 => rfl
  | 32 => rfl
  | 33 => rfl
  | 34 => rfl
  | 35 => rfl
  | 36 => rfl
  | 37 => rfl
  | 38 => rfl
  | 39 => rfl
  | j + 40 => exact if_neg (by omega)
theorem es_29 {κ : zK} {μ : zM} {ω : Nat → Int64} {D : hz_H} {x y : Int32} {K : hz_H → Prop} : hz_es zKT hz_kI (zH κ μ ω D) 29 x (.int y) K = ((0 ≤ x.toInt ∧ x.toInt.toNat < 1000) ∧ K (zH κ (mA μ 29 x.toInt.toNat y) ω D)) := by
  rw [← sa_29]
  rfl
theorem ea_30 {κ : zK} {μ : zM} {ω : Nat → Int64} {D : hz_H} {x : Int32} {K : Value → Prop} : hz_ea zKT hz_kI (zH κ μ ω D) 30 x K = ((0 ≤ x.toInt ∧ x.toInt.toNat < 1000) ∧ K (.int (μ.2 30 x.toInt.toNat))) := propext Iff.rfl
theorem sa_30 {κ : zK} {μ : zM} {ω : Nat → Int64} {D : hz_H} {x y : Int32} : hz_set (zH κ μ ω D) 30 (.inl (1, 1000, updV (hz_i (μ.2 30)) x.toInt.toNat (.int y))) = (zH κ (mA μ 30 x.toInt.toNat y) ω D) := by
  rw [hz_upI]
  funext i
  match i with
  | 0 => rfl
  | 1 => rfl
  | 2 => rfl
  | 3 => rfl
  | 4 => rfl
  | 5 => rfl
  | 6 => rfl
  | 7 => rfl
  | 8 => rfl
  | 9 => rfl
  | 10 => rfl
  | 11 => rfl
  | 12 => rfl
  | 13 => rfl
  | 14 => rfl
  | 15 => rfl
  | 16 => rfl
  | 17 => rfl
  | 18 => rfl
  | 19 => rfl
  | 20 => rfl
  | 21 => rfl
  | 22 => rfl
  | 23 => rfl
  | 24 => rfl
  | 25 => rfl
  | 26 => rfl
  | 27 => rfl
  | 28 => rfl
  | 29 => rfl
  | 30 => rfl
  | 31 => rfl
  | 32 => rfl
  | 33 => rfl
  | 34 => rfl
  | 35 => rfl
  | 36 => rfl
  | 37 => rfl
  | 38 => rfl
  | 39 => rfl
  | j + 40 => exact if_neg (by omega)
theorem es_30 {κ : zK} {μ : zM} {ω : Nat → Int64} {D : hz_H} {x y : Int32} {K : hz_H → Prop} : hz_es zKT hz_kI (zH κ μ ω D) 30 x (.int y) K = ((0 ≤ x.toInt ∧ x.toInt.toNat < 1000) ∧ K (zH κ (mA μ 30 x.toInt.toNat y) ω D)) := by
  rw [← sa_30]
  rfl
theorem ea_31 {κ : zK} {μ : zM} {ω : Nat → Int64} {D : hz_H} {x : Int32} {K : Value → Prop} : hz_ea zKT hz_kI (zH κ μ ω D) 31 x K = ((0 ≤ x.toInt ∧ x.toInt.toNat < 1000) ∧ K (.int (μ.2 31 x.toInt.toNat))) := propext Iff.rfl
theorem sa_31 {κ : zK} {μ : zM} {ω : Nat → Int64} {D : hz_H} {x y : Int32} : hz_set (zH κ μ ω D) 31 (.inl (1, 1000, updV (hz_i (μ.2 31)) x.toInt.toNat (.int y))) = (zH κ (mA μ 31 x.toInt.toNat y) ω D) := by
  rw [hz_upI]
  funext i
  match i with
  | 0 => rfl
  | 1 => rfl
  | 2 => rfl
  | 3 => rfl
  | 4 => rfl
  | 5 => rfl
  | 6 => rfl
  | 7 => rfl
  | 8 => rfl
  | 9 => rfl
  | 10 => rfl
  | 11 => rfl
  | 12 => rfl
  | 13 => rfl
  | 14 => rfl
  | 15 => rfl
  | 16 => rfl
  | 17 => rfl
  | 18 => rfl
  | 19 => rfl
  | 20 => rfl
  | 21 => rfl
  | 22 => rfl
  | 23 => rfl
  | 24 => rfl
  | 25 => rfl
  | 26 => rfl
  | 27 => rfl
  | 28 => rfl
  | 29 => rfl
  | 30 => rfl
  | 31 => rfl
  | 32 => rfl
  | 33 => rfl
  | 34 => rfl
  | 35 => rfl
  | 36 => rfl
  | 37 => rfl
  | 38 => rfl
  | 39 => rfl
  | j + 40 => exact if_neg (by omega)
theorem es_31 {κ : zK} {μ : zM} {ω : Nat → Int64} {D : hz_H} {x y : Int32} {K : hz_H → Prop} : hz_es zKT hz_kI (zH κ μ ω D) 31 x (.int y) K = ((0 ≤ x.toInt ∧ x.toInt.toNat < 1000) ∧ K (zH κ (mA μ 31 x.toInt.toNat y) ω D)) := by
  rw [← sa_31]
  rfl
theorem ea_32 {κ : zK} {μ : zM} {ω : Nat → Int64} {D : hz_H} {x : Int32} {K : Value → Prop} : hz_ea zKT hz_kI (zH κ μ ω D) 32 x K = ((0 ≤ x.toInt ∧ x.toInt.toNat < 26) ∧ K (.int (μ.2 32 x.toInt.toNat))) := propext Iff.rfl
theorem sa_32 {κ : zK} {μ : zM} {ω : Nat → Int64} {D : hz_H} {x y : Int32} : hz_set (zH κ μ ω D) 32 (.inl (1, 26, updV (hz_i (μ.2 32)) x.toInt.toNat (.int y))) = (zH κ (mA μ 32 x.toInt.toNat y) ω D) := by
  rw [hz_upI]
  funext i
  match i with
  | 0 => rfl
  | 1 => rfl
  | 2 => rfl
  | 3 => rfl
  | 4 => rfl
  | 5 => rfl
  | 6 => rfl
  | 7 => rfl
  | 8 => rfl
  | 9 => rfl
  | 10 => rfl
  | 11 => rfl
  | 12 => rfl
  | 13 => rfl
  | 14 => rfl
  | 15 => rfl
  | 16 => rfl
  | 17 => rfl
  | 18 => rfl
  | 19 => rfl
  | 20 => rfl
  | 21 => rfl
  | 22 => rfl
  | 23 => rfl
  | 24 => rfl
  | 25 => rfl
  | 26 => rfl
  | 27 => rfl
  | 28 => rfl
  | 29 => rfl
  | 30 => rfl
  | 31 => rfl
  | 32 => rfl
  | 33 => rfl
  | 34 => rfl
  | 35 => rfl
  | 36 => rfl
  | 37 => rfl
  | 38 => rfl
  | 39 => rfl
  | j + 40 => exact if_neg (by omega)
theorem es_32 {κ : zK} {μ : zM} {ω : Nat → Int64} {D : hz_H} {x y : Int32} {K : hz_H → Prop} : hz_es zKT hz_kI (zH κ μ ω D) 32 x (.int y) K = ((0 ≤ x.toInt ∧ x.toInt.toNat < 26) ∧ K (zH κ (mA μ 32 x.toInt.toNat y) ω D)) := by
  rw [← sa_32]
  rfl
theorem ea_33 {κ : zK} {μ : zM} {ω : Nat → Int64} {D : hz_H} {x : Int32} {K : Value → Prop} : hz_ea zKT hz_kI (zH κ μ ω D) 33 x K = ((0 ≤ x.toInt ∧ x.toInt.toNat < 2600) ∧ K (.int (μ.2 33 x.toInt.toNat))) := propext Iff.rfl
theorem sa_33 {κ : zK} {μ : zM} {ω : Nat → Int64} {D : hz_H} {x y : Int32} : hz_set (zH κ μ ω D) 33 (.inl (1, 2600, updV (hz_i (μ.2 33)) x.toInt.toNat (.int y))) = (zH κ (mA μ 33 x.toInt.toNat y) ω D) := by
  rw [hz_upI]
  funext i
  match i with
  | 0 => rfl
  | 1 => rfl
  | 2 => rfl
  | 3 => rfl
  | 4 => rfl
  | 5 => rfl
  | 6 => rfl
  | 7 => rfl
  | 8 => rfl
  | 9 => rfl
  | 10 => rfl
  | 11 => rfl
  | 12 => rfl
  | 13 => rfl
  | 14 => rfl
  | 15 => rfl
  | 16 => rfl
  | 17 => rfl
  | 18 => rfl
  | 19 => rfl
  | 20 => rfl
  | 21 => rfl
  | 22 => rfl
  | 23 => rfl
  | 24 => rfl
  | 25 => rfl
  | 26 => rfl
  | 27 => rfl
  | 28 => rfl
  | 29 => rfl
  | 30 => rfl
  | 31 => rfl
  | 32 => rfl
  | 33 => rfl
  | 34 => rfl
  | 35 => rfl
  | 36 => rfl
  | 37 => rfl
  | 38 => rfl
  | 39 => rfl
  | j + 40 => exact if_neg (by omega)
theorem es_33 {κ : zK} {μ : zM} {ω : Nat → Int64} {D : hz_H} {x y : Int32} {K : hz_H → Prop} : hz_es zKT hz_kI (zH κ μ ω D) 33 x (.int y) K = ((0 ≤ x.toInt ∧ x.toInt.toNat < 2600) ∧ K (zH κ (mA μ 33 x.toInt.toNat y) ω D)) := by
  rw [← sa_33]
  rfl
theorem ea_34 {κ : zK} {μ : zM} {ω : Nat → Int64} {D : hz_H} {x : Int32} {K : Value → Prop} : hz_ea zKT hz_kI (zH κ μ ω D) 34 x K = ((0 ≤ x.toInt ∧ x.toInt.toNat < 950) ∧ K (.int (μ.2 34 x.toInt.toNat))) := propext Iff.rfl
theorem sa_34 {κ : zK} {μ : zM} {ω : Nat → Int64} {D : hz_H} {x y : Int32} : hz_set (zH κ μ ω D) 34 (.inl (1, 950, updV (hz_i (μ.2 34)) x.toInt.toNat (.int y))) = (zH κ (mA μ 34 x.toInt.toNat y) ω D) := by
  rw [hz_upI]
  funext i
  match i with
  | 0 => rfl
  | 1 => rfl
  | 2 => rfl
  | 3 => rfl
  | 4 => rfl
  | 5 => rfl
  | 6 => rfl
  | 7 => rfl
  | 8 => rfl
  | 9 => rfl
  | 10 => rfl
  | 11 => rfl
  | 12 => rfl
  | 13 => rfl
  | 14 => rfl
  | 15 => rfl
  | 16 => rfl
  | 17 => rfl
  | 18 => rfl
  | 19 => rfl
  | 20 => rfl
  | 21 => rfl
  | 22 => rfl
  | 23 => rfl
  | 24 => rfl
  | 25 => rfl
  | 26 => rfl
  | 27 => rfl
  | 28 => rfl
  | 29 => rfl
  | 30 => rfl
  | 31 => rfl
  | 32 => rfl
  | 33 => rfl
  | 34 => rfl
  | 35 => rfl
  | 36 => rfl
  | 37 => rfl
  | 38 => rfl
  | 39 => rfl
  | j + 40 => exact if_neg (by omega)
theorem es_34 {κ : zK} {μ : zM} {ω : Nat → Int64} {D : hz_H} {x y : Int32} {K : hz_H → Prop} : hz_es zKT hz_kI (zH κ μ ω D) 34 x (.int y) K = ((0 ≤ x.toInt ∧ x.toInt.toNat < 950) ∧ K (zH κ (mA μ 34 x.toInt.toNat y) ω D)) := by
  rw [← sa_34]
  rfl
theorem ea_35 {κ : zK} {μ : zM} {ω : Nat → Int64} {D : hz_H} {x : Int32} {K : Value → Prop} : hz_ea zKT hz_kI (zH κ μ ω D) 35 x K = ((0 ≤ x.toInt ∧ x.toInt.toNat < 950) ∧ K (.int (μ.2 35 x.toInt.toNat))) := propext Iff.rfl
theorem sa_35 {κ : zK} {μ : zM} {ω : Nat → Int64} {D : hz_H} {x y : Int32} : hz_set (zH κ μ ω D) 35 (.inl (1, 950, updV (hz_i (μ.2 35)) x.toInt.toNat (.int y))) = (zH κ (mA μ 35 x.toInt.toNat y) ω D) := by
  rw [hz_upI]
  funext i
  match i with
  | 0 => rfl
  | 1 => rfl
  | 2 => rfl
  | 3 => rfl
  | 4 => rfl
  | 5 => rfl
  | 6 => rfl
  | 7 => rfl
  | 8 => rfl
  | 9 => rfl
  | 10 => rfl
  | 11 => rfl
  | 12 => rfl
  | 13 => rfl
  | 14 => rfl
  | 15 => rfl
  | 16 => rfl
  | 17 => rfl
  | 18 => rfl
  | 19 => rfl
  | 20 => rfl
  | 21 => rfl
  | 22 => rfl
  | 23 => rfl
  | 24 => rfl
  | 25 => rfl
  | 26 => rfl
  | 27 => rfl
  | 28 => rfl
  | 29 => rfl
  | 30 => rfl
  | 31 => rfl
  | 32 => rfl
  | 33 => rfl
  | 34 => rfl
  | 35 => rfl
  | 36 => rfl
  | 37 => rfl
  | 38 => rfl
  | 39 => rfl
  | j + 40 => exact if_neg (by omega)
theorem es_35 {κ : zK} {μ : zM} {ω : Nat → Int64} {D : hz_H} {x y : Int32} {K : hz_H → Prop} : hz_es zKT hz_kI (zH κ μ ω D) 35 x (.int y) K = ((0 ≤ x.toInt ∧ x.toInt.toNat < 950) ∧ K (zH κ (mA μ 35 x.toInt.toNat y) ω D)) := by
  rw [← sa_35]
  rfl
theorem ea_36 {κ : zK} {μ : zM} {ω : Nat → Int64} {D : hz_H} {x : Int32} {K : Value → Prop} : hz_ea zKT hz_kI (zH κ μ ω D) 36 x K = ((0 ≤ x.toInt ∧ x.toInt.toNat < 950) ∧ K (.int (μ.2 36 x.toInt.toNat))) := propext Iff.rfl
theorem sa_36 {κ : zK} {μ : zM} {ω : Nat → Int64} {D : hz_H} {x y : Int32} : hz_set (zH κ μ ω D) 36 (.inl (1, 950, updV (hz_i (μ.2 36)) x.toInt.toNat (.int y))) = (zH κ (mA μ 36 x.toInt.toNat y) ω D) := by
  rw [hz_upI]
  funext i
  match i with
  | 0 => rfl
  | 1 => rfl
  | 2 => rfl
  | 3 => rfl
  | 4 => rfl
  | 5 => rfl
  | 6 => rfl
  | 7 => rfl
  | 8 => rfl
  | 9 => rfl
  | 10 => rfl
  | 11 => rfl
  | 12 => rfl
  | 13 => rfl
  | 14 => rfl
  | 15 => rfl
  | 16 => rfl
  | 17 => rfl
  | 18 => rfl
  | 19 => rfl
  | 20 => rfl
  | 21 => rfl
  | 22 => rfl
  | 23 => rfl
  | 24 => rfl
  | 25 => rfl
  | 26 => rfl
  | 27 => rfl
  | 28 => rfl
  | 29 => rfl
  | 30 => rfl
  | 31 => rfl
  | 32 => rfl
  | 33 => rfl
  | 34 => rfl
  | 35 => rfl
  | 36 => rfl
  | 37 => rfl
  | 38 => rfl
  | 39 => rfl
  | j + 40 => exact if_neg (by omega)
theorem es_36 {κ : zK} {μ : zM} {ω : Nat → Int64} {D : hz_H} {x y : Int32} {K : hz_H → Prop} : hz_es zKT hz_kI (zH κ μ ω D) 36 x (.int y) K = ((0 ≤ x.toInt ∧ x.toInt.toNat < 950) ∧ K (zH κ (mA μ 36 x.toInt.toNat y) ω D)) := by
  rw [← sa_36]
  rfl
theorem ea_37 {κ : zK} {μ : zM} {ω : Nat → Int64} {D : hz_H} {x : Int32} {K : Value → Prop} : hz_ea zKT hz_kI (zH κ μ ω D) 37 x K = ((0 ≤ x.toInt ∧ x.toInt.toNat < 2150) ∧ K (.int (μ.2 37 x.toInt.toNat))) := propext Iff.rfl
theorem sa_37 {κ : zK} {μ : zM} {ω : Nat → Int64} {D : hz_H} {x y : Int32} : hz_set (zH κ μ ω D) 37 (.inl (1, 2150, updV (hz_i (μ.2 37)) x.toInt.toNat (.int y))) = (zH κ (mA μ 37 x.toInt.toNat y) ω D) := by
  rw [hz_upI]
  funext i
  match i with
  | 0 => rfl
  | 1 => rfl
  | 2 => rfl
  | 3 => rfl
  | 4 => rfl
  | 5 => rfl
  | 6 => rfl
  | 7 => rfl
  | 8 => rfl
  | 9 => rfl
  | 10 => rfl
  | 11 => rfl
  | 12 => rfl
  | 13 => rfl
  | 14 => rfl
  | 15 => rfl
  | 16 => rfl
  | 17 => rfl
  | 18 => rfl
  | 19 => rfl
  | 20 => rfl
  | 21 => rfl
  | 22 => rfl
  | 23 => rfl
  | 24 => rfl
  | 25 => rfl
  | 26 => rfl
  | 27 => rfl
  | 28 => rfl
  | 29 => rfl
  | 30 => rfl
  | 31 => rfl
  | 32 => rfl
  | 33 => rfl
  | 34 => rfl
  | 35 => rfl
  | 36 => rfl
  | 37 => rfl
  | 38 => rfl
  | 39 => rfl
  | j + 40 => exact if_neg (by omega)
theorem es_37 {κ : zK} {μ : zM} {ω : Nat → Int64} {D : hz_H} {x y : Int32} {K : hz_H → Prop} : hz_es zKT hz_kI (zH κ μ ω D) 37 x (.int y) K = ((0 ≤ x.toInt ∧ x.toInt.toNat < 2150) ∧ K (zH κ (mA μ 37 x.toInt.toNat y) ω D)) := by
  rw [← sa_37]
  rfl
theorem ea_38 {κ : zK} {μ : zM} {ω : Nat → Int64} {D : hz_H} {x : Int32} {K : Value → Prop} : hz_ea zKT hz_kI (zH κ μ ω D) 38 x K = ((0 ≤ x.toInt ∧ x.toInt.toNat < 2150) ∧ K (.int (μ.2 38 x.toInt.toNat))) := propext Iff.rfl
theorem sa_38 {κ : zK} {μ : zM} {ω : Nat → Int64} {D : hz_H} {x y : Int32} : hz_set (zH κ μ ω D) 38 (.inl (1, 2150, updV (hz_i (μ.2 38)) x.toInt.toNat (.int y))) = (zH κ (mA μ 38 x.toInt.toNat y) ω D) := by
  rw [hz_upI]
  funext i
  match i with
  | 0 => rfl
  | 1 => rfl
  | 2 => rfl
  | 3 => rfl
  | 4 => rfl
  | 5 => rfl
  | 6 => rfl
  | 7 => rfl
  | 8 => rfl
  | 9 => rfl
  | 10 => rfl
  | 11 => rfl
  | 12 => rfl
  | 13 => rfl
  | 14 => rfl
  | 15 => rfl
  | 16 => rfl
  | 17 => rfl
  | 18 => rfl
  | 19 => rfl
  | 20 => rfl
  | 21 => rfl
  | 22 => rfl
  | 23 => rfl
  | 24 => rfl
  | 25 => rfl
  | 26 => rfl
  | 27 => rfl
  | 28 => rfl
  | 29 => rfl
  | 30 => rfl
  | 31 => rfl
  | 32 => rfl
  | 33 => rfl
  | 34 => rfl
  | 35 => rfl
  | 36 => rfl
  | 37 => rfl
  | 38 => rfl
  | 39 => rfl
  | j + 40 => exact if_neg (by omega)
theorem es_38 {κ : zK} {μ : zM} {ω : Nat → Int64} {D : hz_H} {x y : Int32} {K : hz_H → Prop} : hz_es zKT hz_kI (zH κ μ ω D) 38 x (.int y) K = ((0 ≤ x.toInt ∧ x.toInt.toNat < 2150) ∧ K (zH κ (mA μ 38 x.toInt.toNat y) ω D)) := by
  rw [← sa_38]
  rfl
theorem ea_39 {κ : zK} {μ : zM} {ω : Nat → Int64} {D : hz_H} {x : Int32} {K : Value → Prop} : hz_ea zKT hz_kJ (zH κ μ ω D) 39 x K = ((0 ≤ x.toInt ∧ x.toInt.toNat < 1) ∧ K (.long (ω x.toInt.toNat))) := propext Iff.rfl
