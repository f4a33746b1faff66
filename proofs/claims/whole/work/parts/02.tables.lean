/-! tables of the program, by wip/whole/gen_print.py: class names, fields, methods, links -/
def k_cnL : List String := ["ApprovalRoutes$Desk", "ApprovalRoutes$Letter", "ApprovalRoutes$Matter", "ApprovalRoutes$Past", "ApprovalRoutes$Reader", "ApprovalRoutes$Route", "ApprovalRoutes$State", "ApprovalRoutes$Tape", "ApprovalRoutes$Web", "ApprovalRoutes", "ApprovalRoutesModel", "ApprovalRoutesLaw", "java/lang/String", "java/lang/StringLatin1", "java/lang/Long", "jdk/internal/util/Preconditions", "java/lang/StringUTF16", "java/lang/Math"]
def k_cn (k : Nat) : String := k_cnL.getD k ""
def k_T0 : u_T := fun k => match k with
  | 0 => ("ApprovalRoutes$Desk", "state", "LApprovalRoutes$State;", true)
  | 1 => ("ApprovalRoutes$Desk", "line", "[I", true)
  | 2 => ("ApprovalRoutes$Desk", "asker", "I", false)
  | 3 => ("ApprovalRoutes$Desk", "day", "I", false)
  | 4 => ("ApprovalRoutes$Desk", "barred", "I", false)
  | 5 => ("ApprovalRoutes$Desk", "asked", "I", false)
  | 6 => ("ApprovalRoutes$Desk", "depth", "I", false)
  | 7 => ("ApprovalRoutes$Desk", "limit", "I", false)
  | _ => ("ApprovalRoutes$Desk", "reason", "I", false)
def k_y0 : List FieldType := [(.object "ApprovalRoutes$State"), (.array .int), .int, .int, .int, .int, .int, .int, .int]
def k_T1 : u_T := fun k => match k with
  | 0 => ("ApprovalRoutes$Letter", "wanted", "I", false)
  | 1 => ("ApprovalRoutes$Letter", "size", "I", false)
  | _ => ("ApprovalRoutes$Letter", "found", "I", false)
def k_y1 : List FieldType := [.int, .int, .int]
def k_T2 : u_T := fun k => match k with
  | 0 => ("ApprovalRoutes$Matter", "person", "I", false)
  | 1 => ("ApprovalRoutes$Matter", "vendor", "I", false)
  | 2 => ("ApprovalRoutes$Matter", "kind", "I", false)
  | 3 => ("ApprovalRoutes$Matter", "post", "I", false)
  | 4 => ("ApprovalRoutes$Matter", "day", "I", false)
  | 5 => ("ApprovalRoutes$Matter", "whole", "I", false)
  | 6 => ("ApprovalRoutes$Matter", "absent", "I", false)
  | _ => ("ApprovalRoutes$Matter", "spared", "I", false)
def k_y2 : List FieldType := [.int, .int, .int, .int, .int, .int, .int, .int]
def k_T3 : u_T := fun k => match k with
  | 0 => ("ApprovalRoutes$Past", "states", "[LApprovalRoutes$State;", true)
  | 1 => ("ApprovalRoutes$Past", "first", "I", false)
  | _ => ("ApprovalRoutes$Past", "size", "I", false)
def k_y3 : List FieldType := [(.array (.object "ApprovalRoutes$State")), .int, .int]
def k_T4 : u_T := fun k => match k with
  | 0 => ("ApprovalRoutes$Reader", "tape", "LApprovalRoutes$Tape;", true)
  | 1 => ("ApprovalRoutes$Reader", "draft", "LApprovalRoutes$State;", true)
  | 2 => ("ApprovalRoutes$Reader", "numbers", "[I", true)
  | 3 => ("ApprovalRoutes$Reader", "at", "I", false)
  | 4 => ("ApprovalRoutes$Reader", "fault", "I", false)
  | _ => ("ApprovalRoutes$Reader", "settingsTold", "I", false)
def k_y4 : List FieldType := [(.object "ApprovalRoutes$Tape"), (.object "ApprovalRoutes$State"), (.array .int), .int, .int, .int]
def k_T5 : u_T := fun k => match k with
  | 0 => ("ApprovalRoutes$Route", "state", "LApprovalRoutes$State;", true)
  | 1 => ("ApprovalRoutes$Route", "desk", "LApprovalRoutes$Desk;", true)
  | 2 => ("ApprovalRoutes$Route", "steps", "[I", true)
  | 3 => ("ApprovalRoutes$Route", "lines", "[I", true)
  | _ => ("ApprovalRoutes$Route", "length", "I", false)
def k_y5 : List FieldType := [(.object "ApprovalRoutes$State"), (.object "ApprovalRoutes$Desk"), (.array .int), (.array .int), .int]
def k_T6 : u_T := fun k => match k with
  | 0 => ("ApprovalRoutes$State", "cells", "[I", true)
  | 1 => ("ApprovalRoutes$State", "sizes", "[I", true)
  | _ => ("ApprovalRoutes$State", "settings", "[I", true)
def k_y6 : List FieldType := [(.array .int), (.array .int), (.array .int)]
def k_T7 : u_T := fun k => match k with
  | 0 => ("ApprovalRoutes$Tape", "bytes", "[B", true)
  | _ => ("ApprovalRoutes$Tape", "size", "I", false)
def k_y7 : List FieldType := [(.array .byte), .int]
def k_T8 : u_T := fun k => match k with
  | _ => ("ApprovalRoutes$Web", "takers", "[I", true)
def k_y8 : List FieldType := [(.array .int)]
def k_T9 : u_T := fun k => match k with
  | 0 => ("ApprovalRoutes", "now", "LApprovalRoutes$State;", true)
  | 1 => ("ApprovalRoutes", "past", "LApprovalRoutes$Past;", true)
  | 2 => ("ApprovalRoutes", "shelves", "[LApprovalRoutes$State;", true)
  | 3 => ("ApprovalRoutes", "keptShelves", "I", false)
  | 4 => ("ApprovalRoutes", "tape", "LApprovalRoutes$Tape;", true)
  | 5 => ("ApprovalRoutes", "draft", "LApprovalRoutes$State;", true)
  | 6 => ("ApprovalRoutes", "reader", "LApprovalRoutes$Reader;", true)
  | 7 => ("ApprovalRoutes", "text", "LApprovalRoutes$Letter;", true)
  | 8 => ("ApprovalRoutes", "matter", "LApprovalRoutes$Matter;", true)
  | 9 => ("ApprovalRoutes", "desk", "LApprovalRoutes$Desk;", true)
  | 10 => ("ApprovalRoutes", "route", "LApprovalRoutes$Route;", true)
  | 11 => ("ApprovalRoutes", "web", "LApprovalRoutes$Web;", true)
  | 12 => ("ApprovalRoutes", "tally", "[I", true)
  | _ => ("ApprovalRoutes", "partLimits", "[I", true)
def k_y9 : List FieldType := [(.object "ApprovalRoutes$State"), (.object "ApprovalRoutes$Past"), (.array (.object "ApprovalRoutes$State")), .int, (.object "ApprovalRoutes$Tape"), (.object "ApprovalRoutes$State"), (.object "ApprovalRoutes$Reader"), (.object "ApprovalRoutes$Letter"), (.object "ApprovalRoutes$Matter"), (.object "ApprovalRoutes$Desk"), (.object "ApprovalRoutes$Route"), (.object "ApprovalRoutes$Web"), (.array .int), (.array .int)]
def k_T10 : u_T := fun k => match k with
  | 0 => ("ApprovalRoutesModel", "now", "[I", true)
  | 1 => ("ApprovalRoutesModel", "was", "[I", true)
  | 2 => ("ApprovalRoutesModel", "undone", "I", false)
  | 3 => ("ApprovalRoutesModel", "kept", "[I", true)
  | 4 => ("ApprovalRoutesModel", "isKept", "[Z", true)
  | 5 => ("ApprovalRoutesModel", "gone", "I", false)
  | 6 => ("ApprovalRoutesModel", "leftOut", "I", false)
  | 7 => ("ApprovalRoutesModel", "asker", "I", false)
  | 8 => ("ApprovalRoutesModel", "vendor", "I", false)
  | 9 => ("ApprovalRoutesModel", "day", "I", false)
  | 10 => ("ApprovalRoutesModel", "askedOnes", "I", false)
  | 11 => ("ApprovalRoutesModel", "line", "[I", true)
  | 12 => ("ApprovalRoutesModel", "lineMany", "I", false)
  | 13 => ("ApprovalRoutesModel", "limit", "I", false)
  | 14 => ("ApprovalRoutesModel", "reason", "I", false)
  | 15 => ("ApprovalRoutesModel", "step", "[I", true)
  | 16 => ("ApprovalRoutesModel", "lines", "[I", true)
  | 17 => ("ApprovalRoutesModel", "steps", "I", false)
  | 18 => ("ApprovalRoutesModel", "isApproved", "Z", false)
  | 19 => ("ApprovalRoutesModel", "loads", "[I", true)
  | 20 => ("ApprovalRoutesModel", "tape", "[B", true)
  | 21 => ("ApprovalRoutesModel", "taped", "I", false)
  | 22 => ("ApprovalRoutesModel", "spot", "I", false)
  | 23 => ("ApprovalRoutesModel", "wrong", "I", false)
  | 24 => ("ApprovalRoutesModel", "number", "I", false)
  | 25 => ("ApprovalRoutesModel", "numberAt", "I", false)
  | 26 => ("ApprovalRoutesModel", "read", "[I", true)
  | 27 => ("ApprovalRoutesModel", "settled", "I", false)
  | 28 => ("ApprovalRoutesModel", "spelt", "I", false)
  | 29 => ("ApprovalRoutesModel", "wanted", "I", false)
  | _ => ("ApprovalRoutesModel", "found", "I", false)
def k_y10 : List FieldType := [(.array .int), (.array .int), .int, (.array .int), (.array .boolean), .int, .int, .int, .int, .int, .int, (.array .int), .int, .int, .int, (.array .int), (.array .int), .int, .boolean, (.array .int), (.array .byte), .int, .int, .int, .int, .int, (.array .int), .int, .int, .int, .int]
def k_cl : List vw_C := [("ApprovalRoutes$Desk", k_T0, 9), ("ApprovalRoutes$Letter", k_T1, 3), ("ApprovalRoutes$Matter", k_T2, 8), ("ApprovalRoutes$Past", k_T3, 3), ("ApprovalRoutes$Reader", k_T4, 6), ("ApprovalRoutes$Route", k_T5, 5), ("ApprovalRoutes$State", k_T6, 3), ("ApprovalRoutes$Tape", k_T7, 2), ("ApprovalRoutes$Web", k_T8, 1), ("ApprovalRoutes", k_T9, 14), ("ApprovalRoutesModel", k_T10, 31)]
def k_tyL : List (List FieldType) := [k_y0, k_y1, k_y2, k_y3, k_y4, k_y5, k_y6, k_y7, k_y8, k_y9, k_y10]
def k_fty (ci k : Nat) : FieldType := (k_tyL.getD ci []).getD k .int
def k_new : List (List Value) := [[.null, .null, .int 0, .int 0, .int 0, .int 0, .int 0, .int 0, .int 0], [.int 0, .int 0, .int 0], [.int 0, .int 0, .int 0, .int 0, .int 0, .int 0, .int 0, .int 0], [.null, .int 0, .int 0], [.null, .null, .null, .int 0, .int 0, .int 0], [.null, .null, .null, .null, .int 0], [.null, .null, .null], [.null, .int 0], [.null], [.null, .null, .null, .int 0, .null, .null, .null, .null, .null, .null, .null, .null, .null, .null], [.null, .null, .int 0, .null, .null, .int 0, .int 0, .int 0, .int 0, .int 0, .int 0, .null, .int 0, .int 0, .int 0, .null, .null, .int 0, .int 0, .null, .null, .int 0, .int 0, .int 0, .int 0, .int 0, .null, .int 0, .int 0, .int 0, .int 0]]
abbrev k_M : Type := Nat × String × String × ByteArray × Nat × Option FieldType × Nat × Nat
def k_mL0 : List k_M := [(0, "<init>", "(LApprovalRoutes$State;)V", prog_2_method_1_code, 2, none, 2, 2),
  (0, "ask", "(LApprovalRoutes$Matter;II)Z", prog_2_method_2_code, 6, (some .boolean), 4, 0),
  (0, "askOne", "(III)Z", prog_2_method_3_code, 7, (some .boolean), 4, 0),
  (0, "inLine", "(I)I", prog_2_method_4_code, 2, (some .int), 2, 0),
  (0, "decider", "()I", prog_2_method_5_code, 1, (some .int), 1, 0),
  (1, "<init>", "()V", prog_3_method_1_code, 1, none, 1, 2),
  (1, "byteOf", "(LApprovalRoutes$State;I)I", prog_3_method_2_code, 4, (some .int), 3, 0),
  (1, "tellRows", "(LApprovalRoutes$State;I)V", prog_3_method_3_code, 5, none, 3, 0),
  (1, "beginPart", "(I)V", prog_3_method_4_code, 2, none, 2, 0),
  (1, "writeNumber", "(I)V", prog_3_method_5_code, 3, none, 2, 0),
  (1, "writeWord", "(Ljava/lang/String;)V", prog_3_method_6_code, 3, none, 2, 0),
  (1, "write", "(C)V", prog_3_method_7_code, 2, none, 2, 0),
  (2, "<init>", "()V", prog_4_method_1_code, 1, none, 1, 2),
  (2, "begin", "(III)V", prog_4_method_2_code, 4, none, 4, 0),
  (3, "<init>", "()V", prog_5_method_1_code, 2, none, 1, 2),
  (3, "forget", "()V", prog_5_method_2_code, 1, none, 1, 0),
  (3, "remember", "(LApprovalRoutes$State;)V", prog_5_method_3_code, 2, none, 2, 0),
  (3, "takeBack", "(LApprovalRoutes$State;)I", prog_5_method_4_code, 2, (some .int), 2, 0),
  (4, "<init>", "(LApprovalRoutes$Tape;LApprovalRoutes$State;)V", prog_6_method_1_code, 3, none, 3, 2),
  (4, "read", "()I", prog_6_method_2_code, 3, (some .int), 1, 0),
  (4, "fail", "(II)V", prog_6_method_3_code, 3, none, 3, 0),
  (4, "skipBlanks", "()V", prog_6_method_4_code, 1, none, 1, 0),
  (4, "readSemicolon", "()Z", prog_6_method_5_code, 1, (some .boolean), 1, 0),
  (4, "readPart", "()V", prog_6_method_6_code, 5, none, 1, 0),
  (4, "wordLength", "()I", prog_6_method_7_code, 2, (some .int), 1, 0),
  (4, "partNamed", "(I)I", prog_6_method_8_code, 3, (some .int), 2, 0),
  (4, "isWord", "(Ljava/lang/String;I)Z", prog_6_method_9_code, 4, (some .boolean), 3, 0),
  (4, "isTold", "(I)Z", prog_6_method_10_code, 2, (some .boolean), 2, 0),
  (4, "signsOf", "(I)Ljava/lang/String;", prog_6_method_11_code, 1, (some (.object "java/lang/String")), 1, 1),
  (4, "fits", "(CII)Z", prog_6_method_12_code, 4, (some .boolean), 4, 0),
  (4, "readNumber", "(CII)V", prog_6_method_13_code, 6, none, 4, 0),
  (4, "take", "(I)V", prog_6_method_14_code, 2, none, 2, 0),
  (5, "<init>", "(LApprovalRoutes$State;LApprovalRoutes$Desk;)V", prog_7_method_1_code, 3, none, 3, 2),
  (5, "follow", "(LApprovalRoutes$Matter;)V", prog_7_method_2_code, 5, none, 2, 0),
  (5, "climb", "(LApprovalRoutes$Matter;)V", prog_7_method_3_code, 2, none, 2, 0),
  (5, "limitOfFirstStep", "(LApprovalRoutes$Matter;II)I", prog_7_method_4_code, 4, (some .int), 4, 0),
  (5, "takeStep", "(LApprovalRoutes$Matter;II)V", prog_7_method_5_code, 10, none, 4, 0),
  (5, "has", "(I)Z", prog_7_method_6_code, 2, (some .boolean), 2, 0),
  (5, "cell", "(II)I", prog_7_method_7_code, 3, (some .int), 3, 0),
  (5, "lastCell", "(I)I", prog_7_method_8_code, 2, (some .int), 2, 0)]
def k_mL1 : List k_M := [(5, "inLine", "(II)I", prog_7_method_9_code, 3, (some .int), 3, 0),
  (5, "isApproved", "()Z", prog_7_method_10_code, 1, (some .boolean), 1, 0),
  (5, "outcome", "(I)I", prog_7_method_11_code, 2, (some .int), 2, 0),
  (5, "firstCovering", "(I)I", prog_7_method_12_code, 3, (some .int), 2, 0),
  (5, "greatestLimit", "(I)I", prog_7_method_13_code, 4, (some .int), 2, 0),
  (5, "doers", "()I", prog_7_method_14_code, 3, (some .int), 1, 0),
  (5, "countsAs", "(II)Z", prog_7_method_15_code, 3, (some .boolean), 3, 0),
  (6, "<init>", "()V", prog_8_method_1_code, 1, none, 1, 2),
  (6, "clear", "()V", prog_8_method_2_code, 2, none, 1, 0),
  (6, "copyFrom", "(LApprovalRoutes$State;)V", prog_8_method_3_code, 4, none, 2, 0),
  (6, "has", "(II)Z", prog_8_method_4_code, 3, (some .boolean), 3, 0),
  (6, "isFull", "(I)Z", prog_8_method_5_code, 2, (some .boolean), 2, 0),
  (6, "cell", "(III)I", prog_8_method_6_code, 4, (some .int), 4, 0),
  (6, "put", "(IIII)V", prog_8_method_7_code, 5, none, 5, 0),
  (6, "addRow", "(IIIIII)I", prog_8_method_8_code, 9, (some .int), 7, 0),
  (6, "addRequest", "(IIIIII)I", prog_8_method_9_code, 8, (some .int), 7, 0),
  (6, "removeRow", "(II)V", prog_8_method_10_code, 5, none, 3, 0),
  (6, "isRecalled", "(I)Z", prog_8_method_11_code, 2, (some .boolean), 2, 0),
  (6, "postsAbove", "(I)I", prog_8_method_12_code, 4, (some .int), 2, 0),
  (6, "postsBelow", "(I)I", prog_8_method_13_code, 4, (some .int), 2, 0),
  (6, "covers", "(III)Z", prog_8_method_14_code, 5, (some .boolean), 4, 0),
  (6, "holderAt", "(II)I", prog_8_method_15_code, 4, (some .int), 3, 0),
  (6, "awayBits", "(II)I", prog_8_method_16_code, 5, (some .int), 3, 0),
  (6, "foeBits", "(I)I", prog_8_method_17_code, 4, (some .int), 2, 0),
  (6, "nextChange", "(I)I", prog_8_method_18_code, 7, (some .int), 2, 0),
  (6, "joinedBits", "(II)J", prog_8_method_19_code, 12, (some .long), 3, 0),
  (6, "canJoin", "(III)Z", prog_8_method_20_code, 5, (some .boolean), 4, 0),
  (6, "amountOf", "(J)I", prog_8_method_21_code, 5, (some .int), 2, 0),
  (7, "<init>", "()V", prog_9_method_1_code, 1, none, 1, 2),
  (7, "add", "(I)V", prog_9_method_2_code, 3, none, 2, 0),
  (7, "byteAt", "(I)I", prog_9_method_3_code, 2, (some .int), 2, 0),
  (8, "<init>", "()V", prog_10_method_1_code, 1, none, 1, 2),
  (8, "spin", "(LApprovalRoutes$State;I)V", prog_10_method_2_code, 4, none, 3, 0),
  (8, "ringBits", "()I", prog_10_method_3_code, 3, (some .int), 1, 0),
  (8, "reachedFrom", "(I)I", prog_10_method_4_code, 5, (some .int), 2, 0),
  (8, "longestLine", "()I", prog_10_method_5_code, 3, (some .int), 1, 0),
  (8, "lineFrom", "(III)I", prog_10_method_6_code, 7, (some .int), 4, 0),
  (9, "<init>", "()V", prog_1_method_1_code, 2, none, 1, 2),
  (9, "feed", "(IIIII)I", prog_1_method_2_code, 6, (some .int), 6, 0),
  (9, "end", "(I)I", prog_1_method_3_code, 2, (some .int), 2, 0)]
def k_mL2 : List k_M := [(9, "tell", "()I", prog_1_method_4_code, 2, (some .int), 1, 0),
  (9, "request", "(IIIII)I", prog_1_method_5_code, 6, (some .int), 6, 0),
  (9, "recall", "(II)I", prog_1_method_6_code, 4, (some .int), 3, 0),
  (9, "amend", "(III)I", prog_1_method_7_code, 5, (some .int), 4, 0),
  (9, "hold", "(IIII)I", prog_1_method_8_code, 5, (some .int), 5, 0),
  (9, "away", "(III)I", prog_1_method_9_code, 4, (some .int), 4, 0),
  (9, "stand", "(IIIII)I", prog_1_method_10_code, 6, (some .int), 6, 0),
  (9, "foe", "(II)I", prog_1_method_11_code, 3, (some .int), 3, 0),
  (9, "drop", "(II)I", prog_1_method_12_code, 3, (some .int), 3, 0),
  (9, "limit", "(III)I", prog_1_method_13_code, 5, (some .int), 4, 0),
  (9, "set", "(II)I", prog_1_method_14_code, 4, (some .int), 3, 0),
  (9, "undo", "()I", prog_1_method_15_code, 1, (some .int), 1, 0),
  (9, "keep", "(I)I", prog_1_method_16_code, 2, (some .int), 2, 0),
  (9, "back", "(I)I", prog_1_method_17_code, 2, (some .int), 2, 0),
  (9, "post", "(II)I", prog_1_method_18_code, 3, (some .int), 3, 0),
  (9, "entry", "(III)I", prog_1_method_19_code, 4, (some .int), 4, 0),
  (9, "asked", "(II)I", prog_1_method_20_code, 3, (some .int), 3, 0),
  (9, "joined", "(I)J", prog_1_method_21_code, 2, (some .long), 2, 0),
  (9, "step", "(III)I", prog_1_method_22_code, 4, (some .int), 4, 0),
  (9, "chain", "(III)I", prog_1_method_23_code, 4, (some .int), 4, 0),
  (9, "ends", "(II)I", prog_1_method_24_code, 3, (some .int), 3, 0),
  (9, "decides", "(IIII)I", prog_1_method_25_code, 5, (some .int), 5, 0),
  (9, "power", "(III)I", prog_1_method_26_code, 6, (some .int), 4, 0),
  (9, "ring", "(I)I", prog_1_method_27_code, 2, (some .int), 2, 0),
  (9, "split", "(I)I", prog_1_method_28_code, 4, (some .int), 2, 0),
  (9, "without", "(III)I", prog_1_method_29_code, 4, (some .int), 4, 0),
  (9, "cure", "(II)I", prog_1_method_30_code, 6, (some .int), 3, 0),
  (9, "most", "(II)I", prog_1_method_31_code, 5, (some .int), 3, 0),
  (9, "soonest", "(IIII)I", prog_1_method_32_code, 8, (some .int), 5, 0),
  (9, "instead", "(III)I", prog_1_method_33_code, 4, (some .int), 4, 0),
  (9, "pillar", "(I)I", prog_1_method_34_code, 3, (some .int), 2, 0),
  (9, "dodge", "(IIIII)I", prog_1_method_35_code, 9, (some .int), 6, 0),
  (9, "load", "(II)I", prog_1_method_36_code, 3, (some .int), 3, 0),
  (9, "busiest", "(I)I", prog_1_method_37_code, 2, (some .int), 2, 0),
  (9, "approved", "(I)I", prog_1_method_38_code, 8, (some .int), 2, 0),
  (9, "could", "(I)I", prog_1_method_39_code, 5, (some .int), 2, 0),
  (9, "manned", "(IIII)I", prog_1_method_40_code, 9, (some .int), 5, 0),
  (9, "gap", "(IIII)I", prog_1_method_41_code, 11, (some .int), 5, 0),
  (9, "letter", "(I)I", prog_1_method_42_code, 2, (some .int), 2, 0),
  (9, "tangle", "(I)I", prog_1_method_43_code, 2, (some .int), 2, 0)]
def k_mL3 : List k_M := [(9, "count", "(I)I", prog_1_method_44_code, 2, (some .int), 2, 0),
  (9, "isPerson", "(I)Z", prog_1_method_45_code, 1, (some .boolean), 1, 1),
  (9, "isDay", "(I)Z", prog_1_method_46_code, 1, (some .boolean), 1, 1),
  (9, "areDays", "(II)Z", prog_1_method_47_code, 2, (some .boolean), 2, 1),
  (9, "isKind", "(I)Z", prog_1_method_48_code, 1, (some .boolean), 1, 1),
  (9, "isEntryKind", "(I)Z", prog_1_method_49_code, 1, (some .boolean), 1, 1),
  (9, "isWhich", "(I)Z", prog_1_method_50_code, 1, (some .boolean), 1, 1),
  (9, "isAmount", "(I)Z", prog_1_method_51_code, 1, (some .boolean), 1, 1),
  (9, "isLimit", "(I)Z", prog_1_method_52_code, 1, (some .boolean), 1, 1),
  (9, "isShelf", "(I)Z", prog_1_method_53_code, 1, (some .boolean), 1, 1),
  (9, "isIn", "(II)Z", prog_1_method_54_code, 2, (some .boolean), 2, 1),
  (9, "bitOf", "(I)I", prog_1_method_55_code, 1, (some .int), 1, 1),
  (9, "addEntry", "(IIIIII)I", prog_1_method_56_code, 7, (some .int), 7, 0),
  (9, "refusalOfRecall", "(II)I", prog_1_method_57_code, 3, (some .int), 3, 0),
  (9, "wholeOn", "(II)I", prog_1_method_58_code, 3, (some .int), 3, 0),
  (9, "matterOf", "(I)LApprovalRoutes$Matter;", prog_1_method_59_code, 2, (some (.object "ApprovalRoutes$Matter")), 2, 0),
  (9, "isApprovedNow", "(I)Z", prog_1_method_60_code, 2, (some .boolean), 2, 0),
  (9, "countRecalled", "()I", prog_1_method_61_code, 3, (some .int), 1, 0),
  (9, "countStuck", "()I", prog_1_method_62_code, 3, (some .int), 1, 0),
  (9, "nextDay", "(II)I", prog_1_method_63_code, 3, (some .int), 3, 0),
  (9, "clearTally", "()V", prog_1_method_64_code, 2, none, 1, 0),
  (9, "tallySteps", "(I)V", prog_1_method_65_code, 5, none, 2, 0),
  (9, "tallyPillars", "(I)V", prog_1_method_66_code, 4, none, 2, 0),
  (9, "ofTally", "(I)I", prog_1_method_67_code, 4, (some .int), 2, 0),
  (9, "coverParts", "(II)Z", prog_1_method_68_code, 6, (some .boolean), 3, 0),
  (9, "wordOf", "(I)Ljava/lang/String;", prog_1_method_69_code, 1, (some (.object "java/lang/String")), 1, 1),
  (10, "<init>", "()V", prog_12_method_1_code, 1, none, 1, 2),
  (10, "begins", "([I)V", prog_12_method_2_code, 2, none, 1, 1),
  (10, "in", "(JJJ)Z", prog_12_method_3_code, 6, (some .boolean), 3, 1),
  (10, "has", "(II)Z", prog_12_method_4_code, 2, (some .boolean), 2, 1),
  (10, "posts", "()I", prog_12_method_5_code, 1, (some .int), 1, 0),
  (10, "requests", "()I", prog_12_method_6_code, 1, (some .int), 1, 0),
  (10, "isPost", "(I)Z", prog_12_method_7_code, 2, (some .boolean), 2, 0),
  (10, "isRequest", "(I)Z", prog_12_method_8_code, 2, (some .boolean), 2, 0),
  (10, "isPerson", "(I)Z", prog_12_method_9_code, 1, (some .boolean), 1, 1),
  (10, "isDay", "(I)Z", prog_12_method_10_code, 1, (some .boolean), 1, 1),
  (10, "areDays", "(II)Z", prog_12_method_11_code, 2, (some .boolean), 2, 1),
  (10, "upper", "(I)I", prog_12_method_12_code, 2, (some .int), 2, 0),
  (10, "limitOf", "(II)I", prog_12_method_13_code, 3, (some .int), 3, 0),
  (10, "of", "(II)I", prog_12_method_14_code, 3, (some .int), 3, 0)]
def k_mL4 : List k_M := [(10, "longOf", "(I)I", prog_12_method_15_code, 1, (some .int), 1, 1),
  (10, "beginOf", "(I)I", prog_12_method_16_code, 1, (some .int), 1, 1),
  (10, "many", "(I)I", prog_12_method_17_code, 2, (some .int), 2, 0),
  (10, "entryOf", "(III)I", prog_12_method_18_code, 4, (some .int), 4, 0),
  (10, "isAway", "(II)Z", prog_12_method_19_code, 4, (some .boolean), 3, 0),
  (10, "isFoe", "(I)Z", prog_12_method_20_code, 3, (some .boolean), 2, 0),
  (10, "holderOf", "(II)I", prog_12_method_21_code, 4, (some .int), 3, 0),
  (10, "asks", "(II)Z", prog_12_method_22_code, 5, (some .boolean), 3, 0),
  (10, "decider", "(III)I", prog_12_method_23_code, 5, (some .int), 4, 0),
  (10, "asksFor", "(II)V", prog_12_method_24_code, 3, none, 3, 0),
  (10, "joinedTo", "(I)J", prog_12_method_25_code, 6, (some .long), 2, 0),
  (10, "mayJoin", "(II)Z", prog_12_method_26_code, 4, (some .boolean), 3, 0),
  (10, "isNear", "(IIJ)Z", prog_12_method_27_code, 6, (some .boolean), 4, 0),
  (10, "bits", "(J)I", prog_12_method_28_code, 5, (some .int), 1, 1),
  (10, "wholeOf", "(I)I", prog_12_method_29_code, 6, (some .int), 2, 0),
  (10, "puts", "(IIII)V", prog_12_method_30_code, 7, none, 5, 0),
  (10, "climbs", "(IIII)I", prog_12_method_31_code, 9, (some .int), 5, 0),
  (10, "routesBy", "(II)V", prog_12_method_32_code, 5, none, 3, 0),
  (10, "routes", "(I)V", prog_12_method_33_code, 2, none, 2, 0),
  (10, "last", "(I)I", prog_12_method_34_code, 2, (some .int), 2, 0),
  (10, "isRecalled", "(I)Z", prog_12_method_35_code, 2, (some .boolean), 2, 0),
  (10, "aboveOf", "(I)I", prog_12_method_36_code, 4, (some .int), 2, 0),
  (10, "belowOf", "(I)I", prog_12_method_37_code, 4, (some .int), 2, 0),
  (10, "post", "(II)I", prog_12_method_38_code, 3, (some .int), 3, 0),
  (10, "isEntry", "(II)Z", prog_12_method_39_code, 3, (some .boolean), 3, 0),
  (10, "entry", "(III)I", prog_12_method_40_code, 4, (some .int), 4, 0),
  (10, "asked", "(II)I", prog_12_method_41_code, 3, (some .int), 3, 0),
  (10, "joined", "(I)J", prog_12_method_42_code, 2, (some .long), 2, 0),
  (10, "step", "(III)I", prog_12_method_43_code, 4, (some .int), 4, 0),
  (10, "chain", "(III)I", prog_12_method_44_code, 4, (some .int), 4, 0),
  (10, "ends", "(II)I", prog_12_method_45_code, 3, (some .int), 3, 0),
  (10, "endBy", "(I)I", prog_12_method_46_code, 2, (some .int), 2, 0),
  (10, "isWhich", "(I)Z", prog_12_method_47_code, 1, (some .boolean), 1, 1),
  (10, "decides", "(IIII)I", prog_12_method_48_code, 6, (some .int), 5, 0),
  (10, "power", "(III)I", prog_12_method_49_code, 6, (some .int), 4, 0),
  (10, "behind", "(II)I", prog_12_method_50_code, 7, (some .int), 3, 0),
  (10, "ring", "(I)I", prog_12_method_51_code, 4, (some .int), 2, 0),
  (10, "split", "(I)I", prog_12_method_52_code, 4, (some .int), 2, 0),
  (10, "without", "(III)I", prog_12_method_53_code, 4, (some .int), 4, 0),
  (10, "cure", "(II)I", prog_12_method_54_code, 6, (some .int), 3, 0)]
def k_mL5 : List k_M := [(10, "most", "(II)I", prog_12_method_55_code, 6, (some .int), 3, 0),
  (10, "laysLoads", "()V", prog_12_method_56_code, 3, none, 1, 0),
  (10, "counts", "(I)V", prog_12_method_57_code, 3, none, 2, 0),
  (10, "load", "(II)I", prog_12_method_58_code, 3, (some .int), 3, 0),
  (10, "busiest", "(I)I", prog_12_method_59_code, 4, (some .int), 2, 0),
  (10, "approved", "(I)I", prog_12_method_60_code, 8, (some .int), 2, 0),
  (10, "could", "(I)I", prog_12_method_61_code, 6, (some .int), 2, 0),
  (10, "isManned", "(II)Z", prog_12_method_62_code, 4, (some .boolean), 3, 0),
  (10, "manned", "(IIII)I", prog_12_method_63_code, 7, (some .int), 5, 0),
  (10, "recalledMany", "()I", prog_12_method_64_code, 3, (some .int), 1, 0),
  (10, "stuckMany", "()I", prog_12_method_65_code, 3, (some .int), 1, 0),
  (10, "count", "(I)I", prog_12_method_66_code, 2, (some .int), 2, 0),
  (10, "keepsAct", "()V", prog_12_method_67_code, 2, none, 1, 0),
  (10, "comes", "(IIIIII)I", prog_12_method_68_code, 9, (some .int), 7, 0),
  (10, "request", "(IIIII)I", prog_12_method_69_code, 6, (some .int), 6, 0),
  (10, "mayRecall", "(II)I", prog_12_method_70_code, 3, (some .int), 3, 0),
  (10, "recall", "(II)I", prog_12_method_71_code, 4, (some .int), 3, 0),
  (10, "amend", "(III)I", prog_12_method_72_code, 5, (some .int), 4, 0),
  (10, "mostOf", "(I)I", prog_12_method_73_code, 1, (some .int), 1, 1),
  (10, "comesEntry", "(IIIIII)I", prog_12_method_74_code, 10, (some .int), 7, 0),
  (10, "hold", "(IIII)I", prog_12_method_75_code, 5, (some .int), 5, 0),
  (10, "away", "(III)I", prog_12_method_76_code, 4, (some .int), 4, 0),
  (10, "stand", "(IIIII)I", prog_12_method_77_code, 7, (some .int), 6, 0),
  (10, "foe", "(II)I", prog_12_method_78_code, 4, (some .int), 3, 0),
  (10, "drop", "(II)I", prog_12_method_79_code, 6, (some .int), 3, 0),
  (10, "becomes", "(II)I", prog_12_method_80_code, 4, (some .int), 3, 0),
  (10, "limit", "(III)I", prog_12_method_81_code, 4, (some .int), 4, 0),
  (10, "highest", "(I)I", prog_12_method_82_code, 1, (some .int), 1, 1),
  (10, "set", "(II)I", prog_12_method_83_code, 3, (some .int), 3, 0),
  (10, "undo", "()I", prog_12_method_84_code, 2, (some .int), 1, 0),
  (10, "keep", "(I)I", prog_12_method_85_code, 3, (some .int), 2, 0),
  (10, "back", "(I)I", prog_12_method_86_code, 3, (some .int), 2, 0),
  (10, "puts4", "(I)V", prog_12_method_87_code, 3, none, 2, 0),
  (10, "feed", "(IIIII)I", prog_12_method_88_code, 6, (some .int), 6, 0),
  (10, "end", "(I)I", prog_12_method_89_code, 2, (some .int), 2, 0),
  (10, "byteAt", "(I)I", prog_12_method_90_code, 2, (some .int), 2, 0),
  (10, "nextByte", "()I", prog_12_method_91_code, 1, (some .int), 1, 0),
  (10, "fails", "(II)Z", prog_12_method_92_code, 3, (some .boolean), 3, 0),
  (10, "isWord", "(Ljava/lang/String;)Z", prog_12_method_93_code, 4, (some .boolean), 2, 0),
  (10, "takes", "(Ljava/lang/String;Z)Z", prog_12_method_94_code, 3, (some .boolean), 3, 0)]
def k_mL6 : List k_M := [(10, "readsNumber", "(II)Z", prog_12_method_95_code, 3, (some .boolean), 3, 0),
  (10, "readsTo", "(III)Z", prog_12_method_96_code, 4, (some .boolean), 4, 0),
  (10, "readsDays", "(I)Z", prog_12_method_97_code, 2, (some .boolean), 2, 0),
  (10, "readsPost", "()Z", prog_12_method_98_code, 4, (some .boolean), 1, 0),
  (10, "readsHold", "(I)Z", prog_12_method_99_code, 2, (some .boolean), 2, 0),
  (10, "readsStand", "(I)Z", prog_12_method_100_code, 2, (some .boolean), 2, 0),
  (10, "entryWord", "(I)Ljava/lang/String;", prog_12_method_101_code, 1, (some (.object "java/lang/String")), 1, 1),
  (10, "readsEntry", "(I)Z", prog_12_method_102_code, 5, (some .boolean), 2, 0),
  (10, "setWord", "(I)Ljava/lang/String;", prog_12_method_103_code, 1, (some (.object "java/lang/String")), 1, 1),
  (10, "readsSet", "(I)Z", prog_12_method_104_code, 2, (some .boolean), 2, 0),
  (10, "readsPart", "()Z", prog_12_method_105_code, 2, (some .boolean), 1, 0),
  (10, "readsAll", "()Z", prog_12_method_106_code, 2, (some .boolean), 1, 0),
  (10, "tell", "()I", prog_12_method_107_code, 3, (some .int), 1, 0),
  (10, "soonest", "(IIII)I", prog_12_method_108_code, 10, (some .int), 5, 0),
  (10, "instead", "(III)I", prog_12_method_109_code, 6, (some .int), 4, 0),
  (10, "isApprovedNow", "(I)Z", prog_12_method_110_code, 2, (some .boolean), 2, 0),
  (10, "fallsBy", "(I)I", prog_12_method_111_code, 4, (some .int), 2, 0),
  (10, "pillar", "(I)I", prog_12_method_112_code, 6, (some .int), 2, 0),
  (10, "gap", "(IIII)I", prog_12_method_113_code, 10, (some .int), 5, 0),
  (10, "isDodged", "(IIIII)Z", prog_12_method_114_code, 9, (some .boolean), 6, 0),
  (10, "dodge", "(IIIII)I", prog_12_method_115_code, 7, (some .int), 6, 0),
  (10, "lineFrom", "(III)I", prog_12_method_116_code, 8, (some .int), 4, 0),
  (10, "tangle", "(I)I", prog_12_method_117_code, 5, (some .int), 2, 0),
  (10, "spell", "(I)V", prog_12_method_118_code, 2, none, 2, 0),
  (10, "spellWord", "(Ljava/lang/String;)V", prog_12_method_119_code, 3, none, 2, 0),
  (10, "spellPart", "(Ljava/lang/String;)V", prog_12_method_120_code, 2, none, 2, 0),
  (10, "spellNumber", "(I)V", prog_12_method_121_code, 3, none, 2, 0),
  (10, "spellPost", "(I)V", prog_12_method_122_code, 3, none, 2, 0),
  (10, "spellEntry", "(II)V", prog_12_method_123_code, 4, none, 3, 0),
  (10, "spellSet", "(I)V", prog_12_method_124_code, 2, none, 2, 0),
  (10, "letter", "(I)I", prog_12_method_125_code, 4, (some .int), 2, 0),
  (14, "bitCount", "(J)I", prog_13_method_50_code, 2, (some .int), 1, 1),
  (12, "charAt", "(I)C", prog_15_method_56_code, 2, (some .char), 2, 0),
  (12, "checkIndex", "(II)V", prog_15_method_155_code, 2, none, 2, 1),
  (12, "coder", "()B", prog_15_method_152_code, 1, (some .byte), 1, 0),
  (12, "isLatin1", "()Z", prog_15_method_154_code, 1, (some .boolean), 1, 0),
  (12, "length", "()I", prog_15_method_54_code, 1, (some .int), 1, 0),
  (13, "charAt", "([BI)C", prog_16_method_2_code, 2, (some .char), 2, 1),
  (15, "checkIndex", "(IILjava/util/function/BiFunction;)I", prog_19_method_11_code, 3, (some .int), 3, 1),
  (11, "law", "([I)Z", code, 4, some .boolean, 1, 1)]
def k_mL : List k_M := k_mL0 ++ k_mL1 ++ k_mL2 ++ k_mL3 ++ k_mL4 ++ k_mL5 ++ k_mL6
def k_m (j : Nat) : k_M := k_mL.getD j (0, "", "", code, 0, none, 0, 9)
def k_y (j : Nat) : MethodName := ⟨k_cn (k_m j).1, (k_m j).2.1, (k_m j).2.2.1⟩
def k_ci (j : Nat) : Nat := (k_m j).1
def k_co (j : Nat) : ByteArray := (k_m j).2.2.2.1
def k_nL (j : Nat) : Nat := (k_m j).2.2.2.2.1
def k_re (j : Nat) : Option FieldType := (k_m j).2.2.2.2.2.1
def k_na (j : Nat) : Nat := (k_m j).2.2.2.2.2.2.1
def k_ki (j : Nat) : Nat := (k_m j).2.2.2.2.2.2.2
/-! number of methods that may be called: the last row is the law -/
def k_nM : Nat := 279
def k_LM : List (Nat × Nat × Nat) := [(0, 41, 61), (0, 52, 62), (0, 72, 63), (0, 78, 52), (0, 82, 2), (0, 89, 60), (1, 21, 7), (1, 34, 8), (1, 38, 9), (1, 47, 52), (1, 51, 11), (1, 59, 10), (1, 65, 276), (1, 71, 272), (2, 9, 13), (3, 17, 47), (3, 25, 49), (4, 33, 48), (4, 38, 21), (4, 46, 23), (4, 49, 22), (4, 53, 70), (4, 57, 20), (4, 61, 24), (4, 65, 25), (4, 68, 27), (4, 72, 28), (4, 76, 276), (4, 81, 272), (4, 85, 30), (4, 89, 31), (4, 96, 26), (4, 100, 51), (4, 140, 29), (4, 144, 54), (5, 38, 50), (5, 44, 36), (5, 48, 41), (5, 52, 52), (5, 56, 39), (5, 66, 33), (5, 70, 38), (5, 78, 1), (5, 87, 64), (5, 93, 4), (5, 103, 3), (6, 21, 48), (6, 42, 51), (6, 46, 53), (6, 50, 54), (6, 54, 50), (6, 58, 52), (6, 65, 60), (6, 75, 66), (8, 20, 60), (8, 24, 52), (8, 28, 74), (8, 36, 76), (9, 9, 47), (9, 18, 14), (9, 33, 68), (9, 43, 18), (9, 52, 5), (9, 59, 12), (9, 66, 0), (9, 75, 32), (9, 84, 71), (9, 99, 69), (9, 103, 19), (9, 107, 49), (9, 110, 15), (9, 116, 121), (9, 120, 50), (9, 124, 126), (9, 127, 127), (9, 130, 122), (9, 133, 51), (9, 136, 16), (9, 139, 55), (9, 143, 133), (9, 147, 53), (9, 151, 52), (9, 155, 123), (9, 158, 132), (9, 161, 128), (9, 164, 63), (9, 168, 130), (9, 171, 125), (9, 174, 56), (9, 178, 124), (9, 187, 17), (9, 191, 129), (9, 194, 58), (9, 197, 59), (9, 203, 134), (9, 206, 97), (9, 210, 271), (9, 218, 65), (9, 222, 135), (9, 226, 33), (9, 233, 37), (9, 235, 38), (9, 237, 40), (9, 240, 39), (9, 243, 57), (9, 246, 42), (9, 249, 13), (9, 253, 1), (9, 257, 4), (9, 271, 72), (9, 275, 73), (9, 278, 34), (9, 281, 43), (9, 290, 41), (9, 294, 67), (9, 297, 44), (9, 312, 140), (9, 315, 142), (9, 318, 143), (9, 321, 35), (9, 325, 144), (9, 328, 141), (9, 331, 136), (9, 334, 131), (9, 337, 139), (9, 340, 61), (9, 343, 6), (9, 347, 75), (9, 350, 137), (9, 353, 138), (9, 357, 54), (9, 360, 64), (9, 363, 46), (9, 366, 45), (10, 49, 147), (10, 53, 150), (10, 57, 148), (10, 61, 151), (10, 68, 155), (10, 72, 161), (10, 76, 160), (10, 79, 162), (10, 82, 163), (10, 101, 164), (10, 105, 165), (10, 111, 149), (10, 114, 167), (10, 117, 166), (10, 124, 158), (10, 127, 171), (10, 130, 172), (10, 134, 159), (10, 137, 170), (10, 144, 168), (10, 151, 175), (10, 155, 169), (10, 159, 176), (10, 163, 157), (10, 166, 174), (10, 169, 177), (10, 172, 152), (10, 175, 181), (10, 178, 182), (10, 183, 184), (10, 186, 153), (10, 189, 173), (10, 195, 178), (10, 201, 179), (10, 204, 180), (10, 207, 191), (10, 212, 154), (10, 215, 192), (10, 220, 195), (10, 223, 202), (10, 226, 201), (10, 229, 156), (10, 232, 207), (10, 235, 209), (10, 238, 210), (10, 249, 212), (10, 252, 213), (10, 256, 215), (10, 259, 218), (10, 262, 219), (10, 267, 225), (10, 270, 227), (10, 273, 232), (10, 279, 235), (10, 285, 236), (10, 288, 276), (10, 293, 272), (10, 301, 237), (10, 315, 240), (10, 318, 241), (10, 324, 239), (10, 330, 238), (10, 334, 242), (10, 345, 246), (10, 349, 244), (10, 352, 245), (10, 361, 248), (10, 367, 243), (10, 371, 247), (10, 374, 249), (10, 377, 250), (10, 380, 251), (10, 383, 255), (10, 386, 256), (10, 389, 259), (10, 393, 261), (10, 405, 263), (10, 408, 264), (10, 412, 265), (10, 417, 266), (10, 420, 267), (10, 423, 268), (10, 426, 269), (12, 492, 275), (12, 495, 277), (12, 1059, 278), (12, 335, 274), (13, 9, 273), (11, 9, 77), (11, 12, 146), (11, 13, 78), (11, 17, 233), (11, 18, 79), (11, 22, 234), (11, 23, 80), (11, 27, 252), (11, 28, 81), (11, 31, 214), (11, 32, 82), (11, 36, 216), (11, 37, 83), (11, 41, 217), (11, 42, 84), (11, 46, 220), (11, 47, 85), (11, 50, 221), (11, 51, 86), (11, 54, 222), (11, 55, 87), (11, 58, 223), (11, 59, 88), (11, 62, 224), (11, 63, 89), (11, 66, 226), (11, 67, 90), (11, 70, 228), (11, 71, 91), (11, 74, 229), (11, 75, 92), (11, 78, 230), (11, 79, 93), (11, 82, 231), (11, 83, 94), (11, 86, 183), (11, 87, 95), (11, 90, 185), (11, 91, 96), (11, 94, 186), (11, 95, 97), (11, 99, 187), (11, 100, 98), (11, 103, 188), (11, 104, 99), (11, 107, 189), (11, 108, 100), (11, 111, 190), (11, 112, 101), (11, 115, 193), (11, 116, 102), (11, 119, 194), (11, 120, 103), (11, 123, 196), (11, 124, 104), (11, 127, 197), (11, 128, 105), (11, 131, 198), (11, 132, 106), (11, 135, 199), (11, 136, 107), (11, 139, 200), (11, 140, 112), (11, 143, 203), (11, 144, 113), (11, 147, 204), (11, 148, 114), (11, 151, 205), (11, 152, 115), (11, 155, 206), (11, 156, 116), (11, 159, 208), (11, 160, 118), (11, 163, 270), (11, 164, 108), (11, 167, 253), (11, 168, 109), (11, 171, 254), (11, 172, 110), (11, 175, 257), (11, 176, 117), (11, 179, 258), (11, 180, 111), (11, 183, 260), (11, 184, 119), (11, 187, 262), (11, 188, 120), (11, 191, 211)]
def k_LMN : List (Nat × Nat × Nat) := [(0, 58, 131), (0, 65, 130), (1, 55, 145), (4, 93, 145), (4, 103, 130), (5, 106, 131), (8, 32, 130)]
def k_LX : List (Nat × Nat × Nat) := [(0, 3, 1003), (0, 92, 1001), (1, 3, 1003), (2, 3, 1003), (3, 3, 1003), (4, 3, 1003), (4, 134, 1001), (5, 3, 1003), (5, 73, 1001), (5, 90, 1000), (6, 3, 1003), (6, 33, 1002), (6, 69, 1001), (6, 78, 1000), (7, 3, 1003), (8, 3, 1003), (8, 39, 1000), (9, 1, 1003), (9, 266, 1000), (9, 300, 1001), (10, 1, 1003)]
def k_LF : List (Nat × Nat × Nat × Nat) := [(0, 9, 0, 0), (0, 15, 0, 1), (0, 19, 0, 2), (0, 23, 0, 3), (0, 26, 0, 4), (0, 29, 0, 5), (0, 32, 0, 6), (0, 35, 0, 7), (0, 38, 0, 8), (0, 47, 2, 7), (0, 55, 2, 6), (0, 62, 2, 0), (0, 69, 2, 1), (0, 75, 2, 2), (0, 86, 6, 1), (1, 9, 1, 0), (1, 15, 1, 1), (1, 18, 1, 2), (1, 25, 6, 2), (1, 41, 6, 1), (2, 15, 2, 0), (2, 19, 2, 1), (2, 22, 2, 2), (2, 25, 2, 3), (2, 28, 2, 4), (2, 31, 2, 5), (2, 34, 2, 6), (2, 37, 2, 7), (3, 11, 3, 0), (3, 18, 3, 1), (3, 22, 3, 2), (4, 9, 4, 0), (4, 15, 4, 1), (4, 19, 4, 2), (4, 23, 4, 3), (4, 27, 4, 4), (4, 30, 4, 5), (4, 41, 7, 1), (4, 125, 6, 1), (4, 148, 6, 2), (5, 9, 5, 0), (5, 15, 5, 1), (5, 19, 5, 2), (5, 23, 5, 3), (5, 26, 5, 4), (5, 30, 2, 3), (5, 35, 2, 4), (5, 60, 6, 2), (5, 63, 2, 5), (5, 84, 0, 8), (5, 97, 0, 7), (5, 100, 0, 6), (6, 9, 6, 0), (6, 15, 6, 1), (6, 18, 6, 2), (7, 9, 7, 0), (7, 15, 7, 1), (8, 9, 8, 0), (8, 15, 6, 1), (9, 10, 9, 0), (9, 19, 9, 1), (9, 23, 9, 2), (9, 27, 9, 3), (9, 34, 9, 4), (9, 38, 9, 5), (9, 46, 9, 6), (9, 53, 9, 7), (9, 60, 9, 8), (9, 69, 9, 9), (9, 78, 9, 10), (9, 85, 9, 11), (9, 89, 9, 12), (9, 93, 9, 13), (9, 96, 7, 1), (9, 113, 6, 1), (9, 184, 6, 2), (9, 230, 5, 4), (9, 260, 0, 8), (9, 263, 0, 7), (9, 284, 2, 6), (9, 287, 2, 7), (9, 303, 2, 4), (9, 306, 2, 5), (9, 309, 2, 3), (9, 356, 3, 2), (10, 7, 10, 0), (10, 13, 10, 1), (10, 16, 10, 3), (10, 19, 10, 4), (10, 23, 10, 5), (10, 27, 10, 6), (10, 30, 10, 11), (10, 33, 10, 15), (10, 36, 10, 16), (10, 39, 10, 19), (10, 42, 10, 20), (10, 46, 10, 26), (10, 86, 10, 8), (10, 89, 10, 10), (10, 92, 10, 7), (10, 95, 10, 12), (10, 98, 10, 9), (10, 108, 10, 13), (10, 121, 10, 14), (10, 141, 10, 17), (10, 147, 10, 18), (10, 241, 10, 2), (10, 244, 10, 21), (10, 276, 10, 22), (10, 282, 10, 23), (10, 308, 10, 25), (10, 311, 10, 24), (10, 364, 10, 27), (10, 396, 10, 28), (10, 399, 10, 29), (10, 402, 10, 30), (12, 9, 12, 0), (12, 15, 12, 1)]
def k_LS : List (Nat × Nat × Nat) := [(9, 181, 5), (9, 200, 0), (12, 1053, 7), (12, 38, 6)]
def k_LSN : List (Nat × Nat × Nat) := [(1, 31, 4), (1, 44, 0), (4, 128, 5), (6, 24, 4), (6, 27, 0), (6, 30, 2), (6, 39, 1), (6, 62, 3)]
def k_LC : List (Nat × Nat × Nat) := [(3, 9, 6), (9, 7, 6), (9, 16, 3), (9, 31, 7), (9, 41, 4), (9, 50, 1), (9, 57, 2), (9, 64, 0), (9, 73, 5), (9, 82, 8), (11, 7, 9), (11, 10, 10)]
def k_LK : List (Nat × Nat × Nat) := [(4, 133, 100000), (10, 314, 100000)]
def k_LKL : List (Nat × Nat × Nat × Nat) := [(9, 216, 1, 3), (10, 64, 15, 2), (10, 66, 999, 2), (10, 181, 3, 2), (10, 193, 1, 3), (10, 199, 5, 2), (10, 210, 29, 2), (10, 218, 2, 2), (10, 247, 9999, 2), (10, 265, 9, 2), (10, 297, 97, 2), (10, 299, 122, 2), (10, 304, 48, 2), (10, 306, 57, 2), (14, 314, 6148914691236517205, 2), (14, 316, 3689348814741910323, 2), (14, 318, 1085102592571150095, 2)]
def k_LT : List (Nat × Nat × Nat) := [(1, 63, 14), (4, 107, 11), (4, 109, 7), (4, 111, 8), (4, 113, 9), (4, 115, 15), (4, 117, 16), (4, 119, 3), (4, 121, 6), (4, 123, 0), (4, 131, 14), (9, 369, 5), (9, 371, 2), (9, 373, 13), (9, 375, 4), (9, 377, 12), (9, 378, 18), (9, 380, 10), (9, 382, 17), (9, 384, 0), (10, 322, 12), (10, 328, 14), (10, 337, 5), (10, 339, 2), (10, 341, 13), (10, 343, 4), (10, 355, 18), (10, 357, 10), (10, 359, 17), (10, 415, 1)]
def k_SA : List (List Nat) := [[4, 3, 5, 2, 4, 7], [24, 24, 24, 16, 12, 40], [0, 96, 168, 288, 320, 368], [2, 1, 2], [0, 1, 2], [99, 9, 30]]
def k_SN : List String := ["WIDTH", "MOST_ROWS", "ROWS_START", "FROM_COLUMN", "FIRST_SETTING", "HIGHEST_SETTING"]
def k_str : List (List Nat) := [[], [32, 116, 111, 112], [97, 119, 97, 121], [99], [102, 111, 101], [104, 111, 108, 100], [105], [110, 102, 100], [110, 116, 102, 100, 108], [110, 118], [112, 97, 99, 101], [112, 110, 102, 100], [112, 111, 115, 116], [115, 116, 97, 110, 100], [116, 111, 112], [117, 108, 108, 108], [119], [119, 97, 105, 116], [119, 105, 110, 100, 111, 119]]
def k_strT : List String := ["", " top", "away", "c", "foe", "hold", "i", "nfd", "ntfdl", "nv", "pace", "pnfd", "post", "stand", "top", "ulll", "w", "wait", "window"]
def k_xn (x : Nat) : MethodName := match x with
  | 1000 => Lib.Math.max.name
  | 1001 => Lib.Math.min.name
  | 1002 => arraycopyName
  | _ => Lib.objectInit
