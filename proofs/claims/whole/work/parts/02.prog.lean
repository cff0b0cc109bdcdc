/-! the program as tables: classes, methods, links, constants, rooms (written by a program out of the listing) -/
def ev_N : List String := ["LanternChess$Board", "LanternChess$Field", "LanternChess$Fogs", "LanternChess$Game", "LanternChess$History", "LanternChess$Log", "LanternChess$MoveList", "LanternChess$Sending", "LanternChess$SetupText", "LanternChess$Walk", "LanternChess", "LanternChessModel", "LanternChessLaw", "java/util/Arrays", "java/lang/Integer"]
def ev_own (k : Nat) : String := ev_N.getD k ""
def ev_T0 : u_T := fun k => match k with
  | 0 => ("LanternChess$Board", "now", "LLanternChess$Field;", true)
  | 1 => ("LanternChess$Board", "before", "LLanternChess$Field;", true)
  | 2 => ("LanternChess$Board", "made", "I", false)
  | 3 => ("LanternChess$Board", "latestSide", "I", false)
  | 4 => ("LanternChess$Board", "latestFrom", "I", false)
  | _ => ("LanternChess$Board", "latestTo", "I", false)
def ev_T1 : u_T := fun k => match k with
  | 0 => ("LanternChess$Field", "cells", "[I", true)
  | 1 => ("LanternChess$Field", "width", "I", false)
  | _ => ("LanternChess$Field", "height", "I", false)
def ev_T2 : u_T := fun k => match k with
  | 0 => ("LanternChess$Fogs", "first", "[I", true)
  | 1 => ("LanternChess$Fogs", "lasting", "[I", true)
  | 2 => ("LanternChess$Fogs", "every", "[I", true)
  | _ => ("LanternChess$Fogs", "size", "I", false)
def ev_T3 : u_T := fun k => match k with
  | 0 => ("LanternChess$Game", "white", "LLanternChess$Board;", true)
  | 1 => ("LanternChess$Game", "black", "LLanternChess$Board;", true)
  | 2 => ("LanternChess$Game", "fogs", "LLanternChess$Fogs;", true)
  | 3 => ("LanternChess$Game", "sendings", "LLanternChess$Log;", true)
  | 4 => ("LanternChess$Game", "answers", "LLanternChess$Log;", true)
  | 5 => ("LanternChess$Game", "time", "I", false)
  | 6 => ("LanternChess$Game", "toMove", "I", false)
  | 7 => ("LanternChess$Game", "outcome", "I", false)
  | 8 => ("LanternChess$Game", "pause", "I", false)
  | 9 => ("LanternChess$Game", "waiting", "I", false)
  | 10 => ("LanternChess$Game", "tries", "I", false)
  | 11 => ("LanternChess$Game", "whiteClock", "I", false)
  | _ => ("LanternChess$Game", "blackClock", "I", false)
def ev_T4 : u_T := fun k => match k with
  | 0 => ("LanternChess$History", "games", "[LLanternChess$Game;", true)
  | 1 => ("LanternChess$History", "next", "I", false)
  | _ => ("LanternChess$History", "size", "I", false)
def ev_T5 : u_T := fun k => match k with
  | 0 => ("LanternChess$Log", "numbers", "[I", true)
  | 1 => ("LanternChess$Log", "kept", "I", false)
  | _ => ("LanternChess$Log", "total", "I", false)
def ev_T6 : u_T := fun k => match k with
  | 0 => ("LanternChess$MoveList", "froms", "[I", true)
  | 1 => ("LanternChess$MoveList", "tos", "[I", true)
  | 2 => ("LanternChess$MoveList", "worths", "[I", true)
  | 3 => ("LanternChess$MoveList", "behind", "LLanternChess$Field;", true)
  | _ => ("LanternChess$MoveList", "size", "I", false)
def ev_T7 : u_T := fun k => match k with
  | 0 => ("LanternChess$Sending", "flashes", "[I", true)
  | 1 => ("LanternChess$Sending", "looks", "[I", true)
  | 2 => ("LanternChess$Sending", "messageLength", "I", false)
  | 3 => ("LanternChess$Sending", "reading", "I", false)
  | 4 => ("LanternChess$Sending", "answer", "I", false)
  | 5 => ("LanternChess$Sending", "answerSeen", "I", false)
  | 6 => ("LanternChess$Sending", "isAnswered", "Z", false)
  | _ => ("LanternChess$Sending", "ticks", "I", false)
def ev_T8 : u_T := fun k => match k with
  | 0 => ("LanternChess$SetupText", "text", "[B", true)
  | 1 => ("LanternChess$SetupText", "length", "I", false)
  | 2 => ("LanternChess$SetupText", "code", "I", false)
  | 3 => ("LanternChess$SetupText", "offset", "I", false)
  | 4 => ("LanternChess$SetupText", "pieces", "I", false)
  | 5 => ("LanternChess$SetupText", "told", "I", false)
  | 6 => ("LanternChess$SetupText", "position", "I", false)
  | 7 => ("LanternChess$SetupText", "tokenKind", "I", false)
  | 8 => ("LanternChess$SetupText", "tokenStart", "I", false)
  | _ => ("LanternChess$SetupText", "takenStart", "I", false)
def ev_T9 : u_T := fun k => match k with
  | 0 => ("LanternChess$Walk", "others", "LLanternChess$Field;", true)
  | 1 => ("LanternChess$Walk", "distance", "[I", true)
  | 2 => ("LanternChess$Walk", "queue", "[I", true)
  | _ => ("LanternChess$Walk", "queued", "I", false)
def ev_T10 : u_T := fun k => match k with
  | 0 => ("LanternChess", "setup", "LLanternChess$SetupText;", true)
  | 1 => ("LanternChess", "game", "LLanternChess$Game;", true)
  | 2 => ("LanternChess", "trial", "LLanternChess$Game;", true)
  | 3 => ("LanternChess", "saved", "LLanternChess$Game;", true)
  | 4 => ("LanternChess", "isSaved", "Z", false)
  | 5 => ("LanternChess", "history", "LLanternChess$History;", true)
  | 6 => ("LanternChess", "foretold", "LLanternChess$Sending;", true)
  | 7 => ("LanternChess", "list", "LLanternChess$MoveList;", true)
  | 8 => ("LanternChess", "walk", "LLanternChess$Walk;", true)
  | 9 => ("LanternChess", "output", "[B", true)
  | _ => ("LanternChess", "outputLength", "I", false)
def ev_T11 : u_T := fun k => match k with
  | 0 => ("LanternChessModel", "told", "I", false)
  | 1 => ("LanternChessModel", "now", "[I", true)
  | 2 => ("LanternChessModel", "aside", "[I", true)
  | 3 => ("LanternChessModel", "tried", "[I", true)
  | 4 => ("LanternChessModel", "unsent", "[I", true)
  | 5 => ("LanternChessModel", "parsed", "[I", true)
  | 6 => ("LanternChessModel", "saved", "[I", true)
  | 7 => ("LanternChessModel", "history", "[I", true)
  | 8 => ("LanternChessModel", "historyMany", "I", false)
  | 9 => ("LanternChessModel", "isSaved", "Z", false)
  | 10 => ("LanternChessModel", "firsts", "[I", true)
  | 11 => ("LanternChessModel", "lasts", "[I", true)
  | 12 => ("LanternChessModel", "worths", "[I", true)
  | 13 => ("LanternChessModel", "far", "[I", true)
  | 14 => ("LanternChessModel", "queue", "[I", true)
  | 15 => ("LanternChessModel", "groups", "[I", true)
  | 16 => ("LanternChessModel", "glimpsed", "[I", true)
  | 17 => ("LanternChessModel", "buffer", "[B", true)
  | 18 => ("LanternChessModel", "filled", "I", false)
  | 19 => ("LanternChessModel", "length", "I", false)
  | 20 => ("LanternChessModel", "place", "I", false)
  | 21 => ("LanternChessModel", "from", "I", false)
  | 22 => ("LanternChessModel", "token", "I", false)
  | 23 => ("LanternChessModel", "word", "I", false)
  | 24 => ("LanternChessModel", "value", "I", false)
  | 25 => ("LanternChessModel", "code", "I", false)
  | 26 => ("LanternChessModel", "offset", "I", false)
  | 27 => ("LanternChessModel", "once", "I", false)
  | 28 => ("LanternChessModel", "pieces", "I", false)
  | 29 => ("LanternChessModel", "output", "[B", true)
  | _ => ("LanternChessModel", "written", "I", false)
def ev_y0 : Nat → FieldType := fun k => match k with
  | 0 => .object "LanternChess$Field"
  | 1 => .object "LanternChess$Field"
  | 2 => .int
  | 3 => .int
  | 4 => .int
  | _ => .int
def ev_y1 : Nat → FieldType := fun k => match k with
  | 0 => .array .int
  | 1 => .int
  | _ => .int
def ev_y2 : Nat → FieldType := fun k => match k with
  | 0 => .array .int
  | 1 => .array .int
  | 2 => .array .int
  | _ => .int
def ev_y3 : Nat → FieldType := fun k => match k with
  | 0 => .object "LanternChess$Board"
  | 1 => .object "LanternChess$Board"
  | 2 => .object "LanternChess$Fogs"
  | 3 => .object "LanternChess$Log"
  | 4 => .object "LanternChess$Log"
  | 5 => .int
  | 6 => .int
  | 7 => .int
  | 8 => .int
  | 9 => .int
  | 10 => .int
  | 11 => .int
  | _ => .int
def ev_y4 : Nat → FieldType := fun k => match k with
  | 0 => .array (.object "LanternChess$Game")
  | 1 => .int
  | _ => .int
def ev_y5 : Nat → FieldType := fun k => match k with
  | 0 => .array .int
  | 1 => .int
  | _ => .int
def ev_y6 : Nat → FieldType := fun k => match k with
  | 0 => .array .int
  | 1 => .array .int
  | 2 => .array .int
  | 3 => .object "LanternChess$Field"
  | _ => .int
def ev_y7 : Nat → FieldType := fun k => match k with
  | 0 => .array .int
  | 1 => .array .int
  | 2 => .int
  | 3 => .int
  | 4 => .int
  | 5 => .int
  | 6 => .boolean
  | _ => .int
def ev_y8 : Nat → FieldType := fun k => match k with
  | 0 => .array .byte
  | 1 => .int
  | 2 => .int
  | 3 => .int
  | 4 => .int
  | 5 => .int
  | 6 => .int
  | 7 => .int
  | 8 => .int
  | _ => .int
def ev_y9 : Nat → FieldType := fun k => match k with
  | 0 => .object "LanternChess$Field"
  | 1 => .array .int
  | 2 => .array .int
  | _ => .int
def ev_y10 : Nat → FieldType := fun k => match k with
  | 0 => .object "LanternChess$SetupText"
  | 1 => .object "LanternChess$Game"
  | 2 => .object "LanternChess$Game"
  | 3 => .object "LanternChess$Game"
  | 4 => .boolean
  | 5 => .object "LanternChess$History"
  | 6 => .object "LanternChess$Sending"
  | 7 => .object "LanternChess$MoveList"
  | 8 => .object "LanternChess$Walk"
  | 9 => .array .byte
  | _ => .int
def ev_y11 : Nat → FieldType := fun k => match k with
  | 0 => .int
  | 1 => .array .int
  | 2 => .array .int
  | 3 => .array .int
  | 4 => .array .int
  | 5 => .array .int
  | 6 => .array .int
  | 7 => .array .int
  | 8 => .int
  | 9 => .boolean
  | 10 => .array .int
  | 11 => .array .int
  | 12 => .array .int
  | 13 => .array .int
  | 14 => .array .int
  | 15 => .array .int
  | 16 => .array .int
  | 17 => .array .byte
  | 18 => .int
  | 19 => .int
  | 20 => .int
  | 21 => .int
  | 22 => .int
  | 23 => .int
  | 24 => .int
  | 25 => .int
  | 26 => .int
  | 27 => .int
  | 28 => .int
  | 29 => .array .byte
  | _ => .int
abbrev ev_cl : List vw_C := [("LanternChess$Board", ev_T0, 6), ("LanternChess$Field", ev_T1, 3), ("LanternChess$Fogs", ev_T2, 4), ("LanternChess$Game", ev_T3, 13), ("LanternChess$History", ev_T4, 3), ("LanternChess$Log", ev_T5, 3), ("LanternChess$MoveList", ev_T6, 5), ("LanternChess$Sending", ev_T7, 8), ("LanternChess$SetupText", ev_T8, 10), ("LanternChess$Walk", ev_T9, 4), ("LanternChess", ev_T10, 11), ("LanternChessModel", ev_T11, 31)]
def ev_ty (k : Nat) : Nat → FieldType := match k with
  | 0 => ev_y0
  | 1 => ev_y1
  | 2 => ev_y2
  | 3 => ev_y3
  | 4 => ev_y4
  | 5 => ev_y5
  | 6 => ev_y6
  | 7 => ev_y7
  | 8 => ev_y8
  | 9 => ev_y9
  | 10 => ev_y10
  | _ => ev_y11
/-- a new object: its fields -/
def ev_new (k : Nat) : List Value := match k with
  | 0 => [.null, .null, .int 0, .int 0, .int 0, .int 0]
  | 1 => [.null, .int 0, .int 0]
  | 2 => [.null, .null, .null, .int 0]
  | 3 => [.null, .null, .null, .null, .null, .int 0, .int 0, .int 0, .int 0, .int 0, .int 0, .int 0, .int 0]
  | 4 => [.null, .int 0, .int 0]
  | 5 => [.null, .int 0, .int 0]
  | 6 => [.null, .null, .null, .null, .int 0]
  | 7 => [.null, .null, .int 0, .int 0, .int 0, .int 0, .int 0, .int 0]
  | 8 => [.null, .int 0, .int 0, .int 0, .int 0, .int 0, .int 0, .int 0, .int 0, .int 0]
  | 9 => [.null, .null, .null, .int 0]
  | 10 => [.null, .null, .null, .null, .int 0, .null, .null, .null, .null, .null, .int 0]
  | _ => [.int 0, .null, .null, .null, .null, .null, .null, .null, .int 0, .int 0, .null, .null, .null, .null, .null, .null, .null, .null, .int 0, .int 0, .int 0, .int 0, .int 0, .int 0, .int 0, .int 0, .int 0, .int 0, .int 0, .null, .int 0]
/-- a method: name, code, locals, answer, class, kind (0 static, 1 of an object, 2 a constructor), depth, locals of its callees, cells, slots, places of its words, handlers -/
abbrev ev_R : Type := MethodName × Nat × Option FieldType × Nat × Nat × (Nat × Nat × Nat × Nat) × (Nat × Nat × Nat) × List (Nat × Nat × Nat × Nat) × List (Nat × Nat × Nat × Nat × Nat)
def ev_mt0 : List ev_R := [
(⟨"LanternChess$Board", "<init>", "()V"⟩, 1, none, 0, 2, (3, 50, 4, 134), (11088, 11087, 0), [], []),
  (⟨"LanternChess$Board", "begin", "(II)V"⟩, 3, none, 0, 1, (3, 75, 0, 0), (12103, 12101, 12102), [], []),
  (⟨"LanternChess$Board", "copyFrom", "(LLanternChess$Board;)V"⟩, 2, none, 0, 1, (3, 81, 0, 0), (13098, 13096, 13097), [], []),
  (⟨"LanternChess$Board", "carryOut", "(III)V"⟩, 4, none, 0, 1, (5, 118, 0, 0), (16049, 16047, 16048), [], []),
  (⟨"LanternChess$Board", "putRight", "(II)V"⟩, 3, none, 0, 1, (5, 118, 0, 0), (16054, 16053, 3000), [], []),
  (⟨"LanternChess$Board", "turnFlashes", "()I"⟩, 1, some (.int), 0, 1, (1, 30, 0, 0), (15131, 15129, 15130), [], []),
  (⟨"LanternChess$Board", "readingOf", "(IIII)I"⟩, 5, some (.int), 0, 1, (4, 112, 0, 0), (15167, 15165, 15166), [], []),
  (⟨"LanternChess$Board", "totalBehind", "(III)I"⟩, 4, some (.int), 0, 1, (5, 117, 0, 0), (15173, 15171, 15172), [], []),
  (⟨"LanternChess$Board", "follow", "(IIII)V"⟩, 5, none, 0, 1, (6, 141, 0, 0), (16045, 16043, 16044), [], []),
  (⟨"LanternChess$Field", "<init>", "()V"⟩, 1, none, 1, 2, (2, 30, 1, 64), (11094, 11093, 0), [], []),
  (⟨"LanternChess$Field", "begin", "(II)V"⟩, 3, none, 1, 1, (2, 53, 0, 0), (12107, 12105, 12106), [], []),
  (⟨"LanternChess$Field", "copyFrom", "(LLanternChess$Field;)V"⟩, 2, none, 1, 1, (2, 60, 0, 0), (13102, 13100, 13101), [], []),
  (⟨"LanternChess$Field", "cellOf", "(II)I"⟩, 2, some (.int), 1, 0, (1, 30, 0, 0), (12117, 12116, 0), [], []),
  (⟨"LanternChess$Field", "columnOf", "(I)I"⟩, 1, some (.int), 1, 0, (1, 30, 0, 0), (13163, 13162, 0), [], []),
  (⟨"LanternChess$Field", "rowOf", "(I)I"⟩, 1, some (.int), 1, 0, (1, 30, 0, 0), (13166, 13165, 0), [], []),
  (⟨"LanternChess$Field", "hasCell", "(II)Z"⟩, 3, some (.boolean), 1, 1, (1, 30, 0, 0), (14056, 14054, 14055), [], []),
  (⟨"LanternChess$Field", "numberOf", "(I)I"⟩, 2, some (.int), 1, 1, (1, 30, 0, 0), (14150, 14148, 14149), [], []),
  (⟨"LanternChess$Field", "at", "(I)I"⟩, 2, some (.int), 1, 1, (1, 30, 0, 0), (13071, 13069, 13070), [], []),
  (⟨"LanternChess$Field", "put", "(II)V"⟩, 3, none, 1, 1, (1, 30, 0, 0), (12125, 12123, 12124), [], []),
  (⟨"LanternChess$Field", "isOf", "(II)Z"⟩, 2, some (.boolean), 1, 0, (1, 30, 0, 0), (14081, 14080, 0), [], []),
  (⟨"LanternChess$Field", "valueOf", "(I)I"⟩, 2, some (.int), 1, 0, (1, 30, 0, 0), (14157, 14156, 0), [], []),
  (⟨"LanternChess$Field", "allows", "(III)Z"⟩, 6, some (.boolean), 1, 1, (3, 87, 0, 0), (14077, 14075, 14076), [], []),
  (⟨"LanternChess$Field", "reaches", "(IIIZ)Z"⟩, 13, some (.boolean), 1, 1, (2, 55, 0, 0), (14088, 14086, 14087), [], []),
  (⟨"LanternChess$Field", "isClear", "(III)Z"⟩, 6, some (.boolean), 1, 1, (1, 30, 0, 0), (14101, 14100, 2004), [], []),
  (⟨"LanternChess$Field", "becomesQueen", "(II)Z"⟩, 3, some (.boolean), 1, 1, (2, 50, 0, 0), (14163, 14162, 2007), [], []),
  (⟨"LanternChess$Field", "arriving", "(II)I"⟩, 4, some (.int), 1, 1, (3, 72, 0, 0), (14177, 14176, 2008), [], []),
  (⟨"LanternChess$Field", "carryOut", "(II)V"⟩, 4, none, 1, 1, (4, 95, 0, 0), (14173, 14171, 14172), [], []),
  (⟨"LanternChess$Field", "gainOf", "(II)I"⟩, 3, some (.int), 1, 1, (3, 72, 0, 0), (14154, 14152, 14153), [], []),
  (⟨"LanternChess$Field", "greatestGain", "(I)I"⟩, 6, some (.int), 1, 1, (4, 112, 0, 0), (14182, 14180, 14181), [], []),
  (⟨"LanternChess$Field", "attacksOn", "(II)I"⟩, 5, some (.int), 1, 1, (3, 87, 0, 0), (14215, 14213, 14214), [], []),
  (⟨"LanternChess$Field", "isKingExposed", "(I)Z"⟩, 3, some (.boolean), 1, 1, (4, 111, 0, 0), (14226, 14224, 14225), [], []),
  (⟨"LanternChess$Field", "valuesOf", "(I)I"⟩, 4, some (.int), 1, 1, (2, 51, 0, 0), (14238, 14236, 14237), [], []),
  (⟨"LanternChess$Field", "weightOf", "(II)I"⟩, 3, some (.int), 1, 1, (2, 51, 0, 0), (15013, 15012, 2010), [], []),
  (⟨"LanternChess$Field", "total", "()I"⟩, 3, some (.int), 1, 1, (3, 73, 0, 0), (15009, 15007, 15008), [], []),
  (⟨"LanternChess$Field", "totalWith", "(II)I"⟩, 3, some (.int), 1, 1, (4, 95, 0, 0), (15177, 15175, 15176), [], []),
  (⟨"LanternChess$Field", "differences", "(LLanternChess$Field;)I"⟩, 4, some (.int), 1, 1, (1, 30, 0, 0), (15029, 15027, 15028), [], []),
  (⟨"LanternChess$Field", "firstDifference", "(LLanternChess$Field;)I"⟩, 3, some (.int), 1, 1, (2, 51, 0, 0), (15037, 15035, 15036), [], []),
  (⟨"LanternChess$Fogs", "<init>", "()V"⟩, 1, none, 2, 2, (2, 30, 3, 24), (11138, 11137, 0), [], []),
  (⟨"LanternChess$Fogs", "copyFrom", "(LLanternChess$Fogs;)V"⟩, 2, none, 2, 1, (2, 60, 0, 0), (13109, 13107, 13108), [], []),
  (⟨"LanternChess$Fogs", "isFull", "()Z"⟩, 1, some (.boolean), 2, 1, (1, 30, 0, 0), (13082, 13080, 13081), [], [])]
def ev_mt1 : List ev_R := [
(⟨"LanternChess$Fogs", "beginsAt", "(I)Z"⟩, 3, some (.boolean), 2, 1, (1, 30, 0, 0), (13086, 13084, 13085), [], []),
  (⟨"LanternChess$Fogs", "put", "(III)I"⟩, 6, some (.int), 2, 1, (1, 30, 0, 0), (13090, 13088, 13089), [], []),
  (⟨"LanternChess$Fogs", "take", "(I)V"⟩, 3, none, 2, 1, (1, 30, 0, 0), (16150, 16148, 16149), [], []),
  (⟨"LanternChess$Fogs", "partOf", "(II)I"⟩, 3, some (.int), 2, 1, (1, 30, 0, 0), (15111, 15109, 15110), [], []),
  (⟨"LanternChess$Fogs", "hides", "(I)Z"⟩, 4, some (.boolean), 2, 1, (1, 30, 0, 0), (15077, 15075, 15076), [], []),
  (⟨"LanternChess$Fogs", "clearOnes", "(II)I"⟩, 5, some (.int), 2, 1, (2, 53, 0, 0), (15088, 15086, 15087), [], []),
  (⟨"LanternChess$Fogs", "clearRun", "(II)I"⟩, 6, some (.int), 2, 1, (2, 53, 0, 0), (15100, 15098, 15099), [], []),
  (⟨"LanternChess$Game", "<init>", "()V"⟩, 1, none, 3, 2, (4, 70, 18, 634), (11082, 11081, 0), [], []),
  (⟨"LanternChess$Game", "begin", "(II)V"⟩, 3, none, 3, 1, (4, 97, 0, 0), (12099, 12097, 12098), [], []),
  (⟨"LanternChess$Game", "copyFrom", "(LLanternChess$Game;)V"⟩, 2, none, 3, 1, (4, 102, 0, 0), (13094, 13092, 13093), [], []),
  (⟨"LanternChess$Game", "place", "(II)V"⟩, 3, none, 3, 1, (2, 52, 0, 0), (12121, 12119, 12120), [], []),
  (⟨"LanternChess$Game", "boardOf", "(I)LLanternChess$Board;"⟩, 2, some ((Jvm.ClassFile.FieldType.object "LanternChess$Board")), 3, 1, (1, 30, 0, 0), (14061, 14059, 14060), [], []),
  (⟨"LanternChess$Game", "clockOf", "(I)I"⟩, 2, some (.int), 3, 1, (1, 30, 0, 0), (14041, 14039, 14040), [], []),
  (⟨"LanternChess$Game", "setClock", "(II)V"⟩, 3, none, 3, 1, (1, 30, 0, 0), (13044, 13042, 13043), [], []),
  (⟨"LanternChess$Game", "differences", "()I"⟩, 1, some (.int), 3, 1, (2, 53, 0, 0), (15025, 15023, 15024), [], []),
  (⟨"LanternChess$Game", "firstDifference", "()I"⟩, 1, some (.int), 3, 1, (3, 73, 0, 0), (15033, 15031, 15032), [], []),
  (⟨"LanternChess$Game", "canMove", "(II)Z"⟩, 3, some (.boolean), 3, 1, (4, 112, 0, 0), (16003, 16001, 16002), [], []),
  (⟨"LanternChess$Game", "endWith", "(I)V"⟩, 2, none, 3, 1, (1, 30, 0, 0), (16018, 16016, 16017), [], []),
  (⟨"LanternChess$Game", "spend", "(I)Z"⟩, 4, some (.boolean), 3, 1, (2, 52, 0, 0), (16009, 16007, 16008), [], []),
  (⟨"LanternChess$Game", "foretell", "(LLanternChess$Sending;III)V"⟩, 8, none, 3, 1, (6, 140, 0, 0), (15126, 15124, 15125), [], []),
  (⟨"LanternChess$Game", "tell", "(LLanternChess$Sending;II)I"⟩, 7, some (.int), 3, 1, (7, 167, 0, 0), (15239, 15237, 15238), [], []),
  (⟨"LanternChess$Game", "noteSending", "(LLanternChess$Sending;I)V"⟩, 3, none, 3, 1, (3, 80, 0, 0), (16022, 16021, 2015), [], []),
  (⟨"LanternChess$Game", "finishMove", "(III)V"⟩, 7, none, 3, 1, (6, 141, 0, 0), (16058, 16057, 3001), [], []),
  (⟨"LanternChess$History", "<init>", "()V"⟩, 2, none, 4, 2, (5, 90, 153, 5184), (11233, 11232, 0), [], []),
  (⟨"LanternChess$History", "forget", "()V"⟩, 1, none, 4, 1, (1, 30, 0, 0), (13119, 13117, 13118), [], []),
  (⟨"LanternChess$History", "keep", "(LLanternChess$Game;)V"⟩, 3, none, 4, 1, (5, 123, 0, 0), (16093, 16091, 16092), [], []),
  (⟨"LanternChess$History", "takeBack", "(LLanternChess$Game;)V"⟩, 3, none, 4, 1, (5, 123, 0, 0), (16197, 16195, 16196), [], []),
  (⟨"LanternChess$Log", "<init>", "()V"⟩, 1, none, 5, 2, (2, 30, 1, 160), (11159, 11158, 0), [], []),
  (⟨"LanternChess$Log", "copyFrom", "(LLanternChess$Log;)V"⟩, 2, none, 5, 1, (2, 60, 0, 0), (13114, 13112, 13113), [], []),
  (⟨"LanternChess$Log", "clear", "()V"⟩, 1, none, 5, 1, (1, 30, 0, 0), (12114, 12112, 12113), [], []),
  (⟨"LanternChess$Log", "openRow", "()V"⟩, 1, none, 5, 1, (2, 60, 0, 0), (16026, 16024, 16025), [], []),
  (⟨"LanternChess$Log", "note", "(II)V"⟩, 4, none, 5, 1, (1, 30, 0, 0), (16030, 16028, 16029), [], []),
  (⟨"LanternChess$Log", "partOf", "(II)I"⟩, 4, some (.int), 5, 1, (1, 30, 0, 0), (13139, 13137, 13138), [], []),
  (⟨"LanternChess$Log", "partSum", "(I)I"⟩, 4, some (.int), 5, 1, (2, 53, 0, 0), (13135, 13133, 13134), [], []),
  (⟨"LanternChess$MoveList", "<init>", "()V"⟩, 1, none, 6, 2, (3, 50, 5, 2578), (12054, 12053, 0), [], []),
  (⟨"LanternChess$MoveList", "fill", "(LLanternChess$Field;I)V"⟩, 4, none, 6, 1, (5, 136, 0, 0), (14112, 14110, 14111), [], []),
  (⟨"LanternChess$MoveList", "fillFrom", "(LLanternChess$Field;II)V"⟩, 5, none, 6, 1, (4, 112, 0, 0), (14118, 14117, 2005), [], []),
  (⟨"LanternChess$MoveList", "fromOf", "(I)I"⟩, 2, some (.int), 6, 1, (1, 30, 0, 0), (14142, 14140, 14141), [], []),
  (⟨"LanternChess$MoveList", "toOf", "(I)I"⟩, 2, some (.int), 6, 1, (1, 30, 0, 0), (14146, 14144, 14145), [], []),
  (⟨"LanternChess$MoveList", "worthOf", "(LLanternChess$Field;III)I"⟩, 6, some (.int), 6, 1, (5, 137, 0, 0), (14167, 14165, 14166), [], [])]
def ev_mt2 : List ev_R := [
(⟨"LanternChess$MoveList", "weigh", "(LLanternChess$Field;I)V"⟩, 4, none, 6, 1, (6, 162, 0, 0), (14195, 14193, 14194), [], []),
  (⟨"LanternChess$MoveList", "placeOf", "(I)I"⟩, 3, some (.int), 6, 1, (2, 53, 0, 0), (14200, 14198, 14199), [], []),
  (⟨"LanternChess$MoveList", "rankOf", "(I)I"⟩, 4, some (.int), 6, 1, (1, 30, 0, 0), (14204, 14203, 2009), [], []),
  (⟨"LanternChess$Sending", "<init>", "()V"⟩, 1, none, 7, 2, (2, 30, 2, 12), (12013, 12012, 0), [], []),
  (⟨"LanternChess$Sending", "flashesOf", "(I)I"⟩, 2, some (.int), 7, 1, (1, 30, 0, 0), (15185, 15183, 15184), [], []),
  (⟨"LanternChess$Sending", "lookOf", "(I)I"⟩, 2, some (.int), 7, 1, (1, 30, 0, 0), (15154, 15152, 15153), [], []),
  (⟨"LanternChess$Sending", "compose", "(III)V"⟩, 4, none, 7, 1, (2, 52, 0, 0), (15135, 15133, 15134), [], []),
  (⟨"LanternChess$Sending", "checkOf", "([I)I"⟩, 3, some (.int), 7, 0, (1, 30, 0, 0), (15140, 15139, 0), [], []),
  (⟨"LanternChess$Sending", "watch", "(LLanternChess$Fogs;II)V"⟩, 6, none, 7, 1, (3, 77, 0, 0), (15144, 15142, 15143), [], []),
  (⟨"LanternChess$Sending", "isWhole", "(LLanternChess$Field;)Z"⟩, 5, some (.boolean), 7, 1, (2, 52, 0, 0), (15149, 15147, 15148), [], []),
  (⟨"LanternChess$Sending", "seenFrom", "()I"⟩, 1, some (.int), 7, 1, (2, 51, 0, 0), (15158, 15156, 15157), [], []),
  (⟨"LanternChess$Sending", "seenTo", "()I"⟩, 1, some (.int), 7, 1, (2, 51, 0, 0), (15163, 15161, 15162), [], []),
  (⟨"LanternChess$Sending", "allFlashes", "()I"⟩, 1, some (.int), 7, 1, (2, 52, 0, 0), (16034, 16032, 16033), [], []),
  (⟨"LanternChess$Sending", "allLooks", "()I"⟩, 1, some (.int), 7, 1, (2, 52, 0, 0), (16041, 16039, 16040), [], []),
  (⟨"LanternChess$Sending", "sumOf", "([I)I"⟩, 3, some (.int), 7, 0, (1, 30, 0, 0), (16037, 16036, 0), [], []),
  (⟨"LanternChess$SetupText", "<init>", "()V"⟩, 1, none, 8, 2, (2, 30, 1, 600), (11040, 11039, 0), [], []),
  (⟨"LanternChess$SetupText", "hasRoom", "()Z"⟩, 1, some (.boolean), 8, 1, (1, 30, 0, 0), (12167, 12165, 12166), [], []),
  (⟨"LanternChess$SetupText", "append", "(I)V"⟩, 3, none, 8, 1, (1, 30, 0, 0), (12171, 12169, 12170), [], []),
  (⟨"LanternChess$SetupText", "read", "(LLanternChess$Game;)V"⟩, 5, none, 8, 1, (11, 271, 0, 0), (12183, 12181, 12182), [], []),
  (⟨"LanternChess$SetupText", "readStatement", "(LLanternChess$Game;)V"⟩, 2, none, 8, 1, (10, 250, 0, 0), (13035, 13034, 1008), [], []),
  (⟨"LanternChess$SetupText", "readPiece", "(LLanternChess$Game;I)V"⟩, 7, none, 8, 1, (9, 224, 0, 0), (13052, 13051, 1010), [], []),
  (⟨"LanternChess$SetupText", "readFog", "(LLanternChess$Game;)V"⟩, 5, none, 8, 1, (4, 96, 0, 0), (13078, 13077, 1013), [], []),
  (⟨"LanternChess$SetupText", "takeKind", "(I)I"⟩, 3, some (.int), 8, 1, (8, 202, 0, 0), (13056, 13055, 1011), [], []),
  (⟨"LanternChess$SetupText", "kindOfWord", "()I"⟩, 1, some (.int), 8, 1, (7, 182, 0, 0), (13060, 13059, 1012), [], []),
  (⟨"LanternChess$SetupText", "takeOnce", "(I)V"⟩, 2, none, 8, 1, (3, 71, 0, 0), (13040, 13039, 1009), [], []),
  (⟨"LanternChess$SetupText", "takeWord", "(Ljava/lang/String;)V"⟩, 2, none, 8, 1, (7, 182, 0, 0), (12202, 12201, 1002), [], []),
  (⟨"LanternChess$SetupText", "takeSemicolon", "()V"⟩, 1, none, 8, 1, (3, 71, 0, 0), (13030, 13029, 1007), [], []),
  (⟨"LanternChess$SetupText", "takeNumber", "(II)I"⟩, 4, some (.int), 8, 1, (3, 73, 0, 0), (13022, 13021, 1005), [], []),
  (⟨"LanternChess$SetupText", "numberOfToken", "()I"⟩, 3, some (.int), 8, 1, (2, 51, 0, 0), (13026, 13025, 1006), [], []),
  (⟨"LanternChess$SetupText", "isWord", "(Ljava/lang/String;)Z"⟩, 3, some (.boolean), 8, 1, (6, 160, 0, 0), (12206, 12205, 1003), [], []),
  (⟨"LanternChess$SetupText", "fail", "(II)V"⟩, 3, none, 8, 1, (1, 30, 0, 0), (13018, 13017, 1004), [], []),
  (⟨"LanternChess$SetupText", "takeToken", "()V"⟩, 1, none, 8, 1, (2, 51, 0, 0), (12187, 12186, 1000), [], []),
  (⟨"LanternChess$SetupText", "byteAt", "(I)I"⟩, 2, some (.int), 8, 1, (1, 30, 0, 0), (12191, 12190, 1001), [], []),
  (⟨"LanternChess$SetupText", "isLetter", "(I)Z"⟩, 1, some (.boolean), 8, 0, (1, 30, 0, 0), (12194, 12193, 0), [], []),
  (⟨"LanternChess$SetupText", "isDigit", "(I)Z"⟩, 1, some (.boolean), 8, 0, (1, 30, 0, 0), (12197, 12196, 0), [], []),
  (⟨"LanternChess$Walk", "<init>", "()V"⟩, 1, none, 9, 2, (3, 50, 4, 195), (12079, 12078, 0), [], []),
  (⟨"LanternChess$Walk", "fewest", "(LLanternChess$Field;II)I"⟩, 6, some (.int), 9, 1, (4, 115, 0, 0), (15048, 15046, 15047), [], []),
  (⟨"LanternChess$Walk", "enter", "(II)V"⟩, 3, none, 9, 1, (2, 51, 0, 0), (15056, 15055, 2011), [], []),
  (⟨"LanternChess$Walk", "goOnFrom", "(III)V"⟩, 9, none, 9, 1, (3, 87, 0, 0), (15060, 15059, 2012), [], []),
  (⟨"LanternChess", "<init>", "()V"⟩, 1, none, 10, 2, (6, 119, 228, 10819), (11032, 11031, 0), [], [])]
def ev_mt3 : List ev_R := [
(⟨"LanternChess", "appendInput", "(IIIII)I"⟩, 6, some (.int), 10, 1, (2, 52, 0, 0), (12163, 12161, 12162), [], []),
  (⟨"LanternChess", "truncateInput", "(I)Z"⟩, 2, some (.boolean), 10, 1, (1, 30, 0, 0), (12175, 12173, 12174), [], []),
  (⟨"LanternChess", "loadGame", "()I"⟩, 1, some (.int), 10, 1, (12, 295, 0, 0), (12179, 12177, 12178), [], []),
  (⟨"LanternChess", "errorCode", "()I"⟩, 1, some (.int), 10, 1, (1, 30, 0, 0), (13123, 13121, 13122), [], []),
  (⟨"LanternChess", "errorOffset", "()I"⟩, 1, some (.int), 10, 1, (1, 30, 0, 0), (13127, 13125, 13126), [], []),
  (⟨"LanternChess", "count", "(I)I"⟩, 2, some (.int), 10, 1, (8, 130, 1, 6), (13182, 13180, 13181), [], []),
  (⟨"LanternChess", "clock", "(I)I"⟩, 2, some (.int), 10, 1, (9, 150, 1, 6), (14018, 14016, 14017), [], []),
  (⟨"LanternChess", "piece", "(III)I"⟩, 4, some (.int), 10, 1, (9, 152, 2, 12), (14048, 14046, 14047), [], []),
  (⟨"LanternChess", "isMove", "(IIIIII)Z"⟩, 7, some (.boolean), 10, 1, (10, 176, 4, 24), (14069, 14067, 14068), [], []),
  (⟨"LanternChess", "moves", "(II)I"⟩, 3, some (.int), 10, 1, (9, 159, 2, 12), (14108, 14106, 14107), [], []),
  (⟨"LanternChess", "move", "(IIII)I"⟩, 6, some (.int), 10, 1, (9, 188, 4, 24), (14126, 14124, 14125), [], []),
  (⟨"LanternChess", "ranked", "(II)I"⟩, 4, some (.int), 10, 1, (9, 188, 2, 12), (14191, 14189, 14190), [], []),
  (⟨"LanternChess", "moveInfo", "(LLanternChess$Field;III)I"⟩, 7, some (.int), 10, 1, (6, 162, 0, 0), (14138, 14137, 2006), [], []),
  (⟨"LanternChess", "attackers", "(IIII)I"⟩, 5, some (.int), 10, 1, (9, 152, 3, 18), (14211, 14209, 14210), [], []),
  (⟨"LanternChess", "isInCheck", "(II)Z"⟩, 3, some (.boolean), 10, 1, (9, 150, 2, 12), (14222, 14220, 14221), [], []),
  (⟨"LanternChess", "material", "(II)I"⟩, 3, some (.int), 10, 1, (9, 150, 2, 12), (14234, 14232, 14233), [], []),
  (⟨"LanternChess", "sum", "(I)I"⟩, 2, some (.int), 10, 1, (9, 150, 1, 6), (15005, 15003, 15004), [], []),
  (⟨"LanternChess", "differ", "(I)I"⟩, 2, some (.int), 10, 1, (9, 152, 1, 6), (15021, 15019, 15020), [], []),
  (⟨"LanternChess", "fewestMoves", "(IIIII)I"⟩, 6, some (.int), 10, 1, (10, 176, 3, 18), (15044, 15042, 15043), [], []),
  (⟨"LanternChess", "isHidden", "(I)Z"⟩, 2, some (.boolean), 10, 1, (9, 152, 1, 6), (15072, 15070, 15071), [], []),
  (⟨"LanternChess", "hiddenTicks", "(II)I"⟩, 3, some (.int), 10, 1, (9, 152, 2, 12), (15084, 15082, 15083), [], []),
  (⟨"LanternChess", "clearFrom", "(I)I"⟩, 2, some (.int), 10, 1, (9, 152, 1, 6), (15096, 15094, 15095), [], []),
  (⟨"LanternChess", "fog", "(II)I"⟩, 3, some (.int), 10, 1, (9, 152, 2, 12), (15107, 15105, 15106), [], []),
  (⟨"LanternChess", "group", "(IIIII)I"⟩, 6, some (.int), 10, 1, (11, 200, 3, 18), (15118, 15116, 15117), [], []),
  (⟨"LanternChess", "seenOf", "(IIIII)I"⟩, 6, some (.int), 10, 1, (11, 200, 3, 18), (15192, 15190, 15191), [], []),
  (⟨"LanternChess", "messageTicks", "(IIII)I"⟩, 5, some (.int), 10, 1, (11, 200, 2, 12), (15200, 15198, 15199), [], []),
  (⟨"LanternChess", "readsAs", "(IIII)I"⟩, 5, some (.int), 10, 1, (11, 200, 2, 12), (15207, 15205, 15206), [], []),
  (⟨"LanternChess", "foretellNow", "(IIII)V"⟩, 5, none, 10, 1, (10, 176, 2, 12), (15122, 15121, 2013), [], []),
  (⟨"LanternChess", "ifPlayed", "(IIIII)I"⟩, 7, some (.int), 10, 1, (10, 193, 4, 24), (15215, 15213, 15214), [], []),
  (⟨"LanternChess", "delay", "(IIIII)I"⟩, 10, some (.int), 10, 1, (10, 176, 4, 24), (16067, 16065, 16066), [], []),
  (⟨"LanternChess", "sent", "(II)I"⟩, 3, some (.int), 10, 1, (9, 152, 2, 12), (16075, 16073, 16074), [], []),
  (⟨"LanternChess", "made", "(II)I"⟩, 4, some (.int), 10, 1, (9, 152, 2, 12), (16082, 16080, 16081), [], []),
  (⟨"LanternChess", "meanTries", "()D"⟩, 2, some (.double), 10, 1, (3, 76, 0, 0), (13131, 13129, 13130), [], []),
  (⟨"LanternChess", "hiddenShare", "()F"⟩, 4, some (.float), 10, 1, (3, 76, 0, 0), (13143, 13141, 13142), [], []),
  (⟨"LanternChess", "play", "(IIII)I"⟩, 7, some (.int), 10, 1, (10, 193, 3, 18), (16089, 16087, 16088), [], []),
  (⟨"LanternChess", "think", "(I)I"⟩, 2, some (.int), 10, 1, (9, 152, 2, 12), (16102, 16100, 16101), [], []),
  (⟨"LanternChess", "resign", "()I"⟩, 2, some (.int), 10, 1, (9, 150, 1, 6), (16110, 16108, 16109), [], []),
  (⟨"LanternChess", "settle", "(I)I"⟩, 3, some (.int), 10, 1, (9, 150, 1, 6), (16118, 16116, 16117), [], []),
  (⟨"LanternChess", "wind", "(II)I"⟩, 4, some (.int), 10, 1, (9, 152, 3, 18), (16126, 16124, 16125), [], []),
  (⟨"LanternChess", "addFog", "(III)I"⟩, 4, some (.int), 10, 1, (9, 152, 4, 24), (16135, 16133, 16134), [], [])]
def ev_mt4 : List ev_R := [
(⟨"LanternChess", "dropFog", "(I)I"⟩, 2, some (.int), 10, 1, (9, 151, 1, 6), (16146, 16144, 16145), [], []),
  (⟨"LanternChess", "set", "(II)I"⟩, 3, some (.int), 10, 1, (10, 174, 4, 24), (16157, 16155, 16156), [], []),
  (⟨"LanternChess", "setPause", "(I)I"⟩, 3, some (.int), 10, 1, (9, 152, 1, 6), (16161, 16160, 3002), [], []),
  (⟨"LanternChess", "setWait", "(I)I"⟩, 3, some (.int), 10, 1, (9, 152, 1, 6), (16165, 16164, 3003), [], []),
  (⟨"LanternChess", "setTries", "(I)I"⟩, 3, some (.int), 10, 1, (9, 152, 1, 6), (16169, 16168, 3004), [], []),
  (⟨"LanternChess", "undo", "()I"⟩, 1, some (.int), 10, 1, (8, 145, 1, 6), (16177, 16175, 16176), [], []),
  (⟨"LanternChess", "printRow", "(II)I"⟩, 6, some (.int), 10, 1, (9, 160, 2, 12), (16204, 16202, 16203), [], []),
  (⟨"LanternChess", "printMessage", "(IIII)I"⟩, 8, some (.int), 10, 1, (11, 200, 2, 12), (16214, 16212, 16213), [], []),
  (⟨"LanternChess", "printMoves", "()I"⟩, 2, some (.int), 10, 1, (4, 95, 0, 0), (13147, 13145, 13146), [], []),
  (⟨"LanternChess", "writeMove", "(I)V"⟩, 4, none, 10, 1, (3, 72, 0, 0), (13155, 13154, 1015), [], []),
  (⟨"LanternChess", "writeCell", "(I)V"⟩, 2, none, 10, 1, (2, 51, 0, 0), (13160, 13159, 2000), [], []),
  (⟨"LanternChess", "write", "(C)V"⟩, 2, none, 10, 1, (1, 30, 0, 0), (13151, 13150, 1014), [], []),
  (⟨"LanternChess", "outputByte", "(I)I"⟩, 2, some (.int), 10, 1, (1, 30, 0, 0), (13170, 13168, 13169), [], []),
  (⟨"LanternChess", "saveState", "()I"⟩, 1, some (.int), 10, 1, (5, 123, 0, 0), (13174, 13172, 13173), [], []),
  (⟨"LanternChess", "restoreState", "()I"⟩, 1, some (.int), 10, 1, (8, 130, 1, 6), (16221, 16219, 16220), [], []),
  (⟨"LanternChess", "needSide", "(I)V"⟩, 1, none, 10, 0, (8, 130, 1, 6), (14021, 14020, 0), [], []),
  (⟨"LanternChess", "needIndex", "(II)V"⟩, 2, none, 10, 0, (8, 130, 1, 6), (14129, 14128, 0), [], []),
  (⟨"LanternChess", "needRange", "(III)V"⟩, 3, none, 10, 0, (8, 130, 1, 6), (14133, 14132, 0), [], []),
  (⟨"LanternChess", "needCell", "(II)V"⟩, 3, none, 10, 1, (8, 130, 1, 6), (14052, 14051, 2002), [], []),
  (⟨"LanternChess", "needCells", "(IIII)V"⟩, 5, none, 10, 1, (9, 152, 2, 12), (14073, 14072, 2003), [], []),
  (⟨"LanternChess", "needGoingOn", "()V"⟩, 1, none, 10, 1, (8, 130, 1, 6), (15219, 15218, 2014), [], []),
  (⟨"LanternChessModel", "<init>", "()V"⟩, 2, none, 11, 2, (2, 53, 16, 12388), (16227, 16226, 0), [], []),
  (⟨"LanternChessModel", "thrown", "()I"⟩, 1, some (.int), 11, 1, (1, 30, 0, 0), (17090, 17088, 17089), [], []),
  (⟨"LanternChessModel", "is", "(Z)Z"⟩, 2, some (.boolean), 11, 1, (1, 30, 0, 0), (17098, 17097, 3006), [], []),
  (⟨"LanternChessModel", "may", "(ZI)Z"⟩, 3, some (.boolean), 11, 1, (1, 30, 0, 0), (17136, 17135, 3008), [], []),
  (⟨"LanternChessModel", "isIn", "(JJJ)Z"⟩, 6, some (.boolean), 11, 0, (1, 30, 0, 0), (17117, 17116, 0), [], []),
  (⟨"LanternChessModel", "copies", "([I[I)V"⟩, 3, none, 11, 0, (1, 30, 0, 0), (17105, 17104, 0), [], []),
  (⟨"LanternChessModel", "begins", "(II)V"⟩, 4, none, 11, 1, (1, 30, 0, 0), (16232, 16231, 3005), [], []),
  (⟨"LanternChessModel", "starts", "()V"⟩, 1, none, 11, 1, (2, 52, 0, 0), (18144, 18143, 5012), [], []),
  (⟨"LanternChessModel", "done", "(I)I"⟩, 3, some (.int), 11, 1, (1, 30, 0, 0), (18176, 18175, 6004), [], []),
  (⟨"LanternChessModel", "undo", "()I"⟩, 2, some (.int), 11, 1, (2, 51, 0, 0), (17094, 17092, 17093), [], []),
  (⟨"LanternChessModel", "saveState", "()I"⟩, 1, some (.int), 11, 1, (2, 52, 0, 0), (17102, 17100, 17101), [], []),
  (⟨"LanternChessModel", "restoreState", "()I"⟩, 1, some (.int), 11, 1, (2, 52, 0, 0), (17109, 17107, 17108), [], []),
  (⟨"LanternChessModel", "cells", "()I"⟩, 1, some (.int), 11, 1, (1, 30, 0, 0), (17190, 17189, 4000), [], []),
  (⟨"LanternChessModel", "boardAt", "(I)I"⟩, 1, some (.int), 11, 0, (1, 30, 0, 0), (17139, 17138, 0), [], []),
  (⟨"LanternChessModel", "aheadAt", "(I)I"⟩, 1, some (.int), 11, 0, (1, 30, 0, 0), (18128, 18127, 0), [], []),
  (⟨"LanternChessModel", "sideOf", "(I)I"⟩, 1, some (.int), 11, 0, (1, 30, 0, 0), (17154, 17153, 0), [], []),
  (⟨"LanternChessModel", "kindOf", "(I)I"⟩, 1, some (.int), 11, 0, (1, 30, 0, 0), (17170, 17169, 0), [], []),
  (⟨"LanternChessModel", "columnOf", "(I)I"⟩, 2, some (.int), 11, 1, (1, 30, 0, 0), (17162, 17161, 3012), [], []),
  (⟨"LanternChessModel", "rowOf", "(I)I"⟩, 2, some (.int), 11, 1, (1, 30, 0, 0), (17166, 17165, 3013), [], [])]
def ev_mt5 : List ev_R := [
(⟨"LanternChessModel", "sign", "(I)I"⟩, 1, some (.int), 11, 0, (1, 30, 0, 0), (17178, 17177, 0), [], []),
  (⟨"LanternChessModel", "isOpen", "(III)Z"⟩, 6, some (.boolean), 11, 1, (2, 51, 0, 0), (17175, 17174, 3014), [], []),
  (⟨"LanternChessModel", "reaches", "(IIIIZ)Z"⟩, 12, some (.boolean), 11, 1, (3, 76, 0, 0), (17158, 17157, 3011), [], []),
  (⟨"LanternChessModel", "isMoveAt", "(IIII)Z"⟩, 7, some (.boolean), 11, 1, (4, 107, 0, 0), (17151, 17150, 3010), [], []),
  (⟨"LanternChessModel", "becomesQueen", "(II)Z"⟩, 3, some (.boolean), 11, 1, (2, 51, 0, 0), (17209, 17208, 4003), [], []),
  (⟨"LanternChessModel", "gainAt", "(III)I"⟩, 4, some (.int), 11, 1, (3, 73, 0, 0), (17203, 17202, 4002), [], []),
  (⟨"LanternChessModel", "movesAt", "(III)V"⟩, 5, none, 11, 1, (3, 73, 0, 0), (17217, 17216, 4005), [], []),
  (⟨"LanternChessModel", "bestGain", "(II)I"⟩, 6, some (.int), 11, 1, (5, 133, 0, 0), (17221, 17220, 4006), [], []),
  (⟨"LanternChessModel", "worthAt", "(IIII)I"⟩, 9, some (.int), 11, 1, (6, 158, 0, 0), (17213, 17212, 4004), [], []),
  (⟨"LanternChessModel", "sumAt", "(I)I"⟩, 4, some (.int), 11, 1, (2, 50, 0, 0), (18009, 18008, 4008), [], []),
  (⟨"LanternChessModel", "laysMoves", "(II)I"⟩, 6, some (.int), 11, 1, (5, 133, 0, 0), (17186, 17185, 3015), [], []),
  (⟨"LanternChessModel", "part", "(IIII)I"⟩, 5, some (.int), 11, 1, (7, 186, 0, 0), (17199, 17198, 4001), [], []),
  (⟨"LanternChessModel", "isSide", "(I)Z"⟩, 1, some (.boolean), 11, 0, (2, 55, 0, 0), (17124, 17123, 0), [], []),
  (⟨"LanternChessModel", "isCell", "(II)Z"⟩, 3, some (.boolean), 11, 1, (2, 55, 0, 0), (17132, 17131, 3007), [], []),
  (⟨"LanternChessModel", "cell", "(II)I"⟩, 3, some (.int), 11, 1, (1, 30, 0, 0), (17143, 17142, 3009), [], []),
  (⟨"LanternChessModel", "count", "(I)I"⟩, 2, some (.int), 11, 1, (2, 55, 0, 0), (17113, 17111, 17112), [], []),
  (⟨"LanternChessModel", "clock", "(I)I"⟩, 2, some (.int), 11, 1, (3, 75, 0, 0), (17121, 17119, 17120), [], []),
  (⟨"LanternChessModel", "piece", "(III)I"⟩, 4, some (.int), 11, 1, (3, 77, 0, 0), (17128, 17126, 17127), [], []),
  (⟨"LanternChessModel", "isMove", "(IIIIII)Z"⟩, 7, some (.boolean), 11, 1, (5, 133, 0, 0), (17147, 17145, 17146), [], []),
  (⟨"LanternChessModel", "moves", "(II)I"⟩, 3, some (.int), 11, 1, (6, 158, 0, 0), (17182, 17180, 17181), [], []),
  (⟨"LanternChessModel", "move", "(IIII)I"⟩, 7, some (.int), 11, 1, (8, 210, 0, 0), (17194, 17192, 17193), [], []),
  (⟨"LanternChessModel", "ranked", "(II)I"⟩, 7, some (.int), 11, 1, (8, 210, 0, 0), (17225, 17223, 17224), [], []),
  (⟨"LanternChessModel", "aheadOf", "(II)I"⟩, 5, some (.int), 11, 1, (1, 30, 0, 0), (17229, 17228, 4007), [], []),
  (⟨"LanternChessModel", "attackers", "(IIII)I"⟩, 10, some (.int), 11, 1, (5, 133, 0, 0), (17233, 17231, 17232), [], []),
  (⟨"LanternChessModel", "isInCheck", "(II)Z"⟩, 6, some (.boolean), 11, 1, (5, 133, 0, 0), (17237, 17235, 17236), [], []),
  (⟨"LanternChessModel", "material", "(II)I"⟩, 6, some (.int), 11, 1, (3, 75, 0, 0), (18001, 17239, 18000), [], []),
  (⟨"LanternChessModel", "sum", "(I)I"⟩, 2, some (.int), 11, 1, (3, 75, 0, 0), (18005, 18003, 18004), [], []),
  (⟨"LanternChessModel", "differing", "()I"⟩, 3, some (.int), 11, 1, (2, 50, 0, 0), (18017, 18016, 4009), [], []),
  (⟨"LanternChessModel", "differ", "(I)I"⟩, 3, some (.int), 11, 1, (3, 72, 0, 0), (18013, 18011, 18012), [], []),
  (⟨"LanternChessModel", "fewest", "(IIII)I"⟩, 11, some (.int), 11, 1, (4, 107, 0, 0), (18025, 18024, 4010), [], []),
  (⟨"LanternChessModel", "fewestMoves", "(IIIII)I"⟩, 10, some (.int), 11, 1, (5, 137, 0, 0), (18021, 18019, 18020), [], []),
  (⟨"LanternChessModel", "fogPart", "(II)I"⟩, 3, some (.int), 11, 1, (1, 30, 0, 0), (18042, 18041, 4013), [], []),
  (⟨"LanternChessModel", "hides", "(II)Z"⟩, 4, some (.boolean), 11, 1, (2, 55, 0, 0), (18038, 18037, 4012), [], []),
  (⟨"LanternChessModel", "hidden", "(I)Z"⟩, 3, some (.boolean), 11, 1, (3, 78, 0, 0), (18034, 18033, 4011), [], []),
  (⟨"LanternChessModel", "seen", "(II)I"⟩, 5, some (.int), 11, 1, (4, 100, 0, 0), (18051, 18050, 4014), [], []),
  (⟨"LanternChessModel", "isHidden", "(I)Z"⟩, 2, some (.boolean), 11, 1, (4, 100, 0, 0), (18029, 18027, 18028), [], []),
  (⟨"LanternChessModel", "hiddenTicks", "(II)I"⟩, 3, some (.int), 11, 1, (5, 124, 0, 0), (18046, 18044, 18045), [], []),
  (⟨"LanternChessModel", "clearFrom", "(I)I"⟩, 3, some (.int), 11, 1, (5, 124, 0, 0), (18055, 18053, 18054), [], []),
  (⟨"LanternChessModel", "isFog", "(I)Z"⟩, 2, some (.boolean), 11, 1, (2, 55, 0, 0), (18064, 18063, 4015), [], []),
  (⟨"LanternChessModel", "fog", "(II)I"⟩, 3, some (.int), 11, 1, (3, 76, 0, 0), (18060, 18058, 18059), [], [])]
def ev_mt6 : List ev_R := [
(⟨"LanternChessModel", "fogFrom", "(I)I"⟩, 3, some (.int), 11, 1, (2, 52, 0, 0), (18232, 18231, 6006), [], []),
  (⟨"LanternChessModel", "laysFog", "(III)I"⟩, 6, some (.int), 11, 1, (2, 52, 0, 0), (18236, 18235, 6007), [], []),
  (⟨"LanternChessModel", "check", "([I)I"⟩, 1, some (.int), 11, 0, (1, 30, 0, 0), (18084, 18083, 0), [], []),
  (⟨"LanternChessModel", "laysGroups", "(II)V"⟩, 3, none, 11, 1, (2, 51, 0, 0), (18081, 18080, 5002), [], []),
  (⟨"LanternChessModel", "flashes", "()I"⟩, 3, some (.int), 11, 1, (1, 30, 0, 0), (18104, 18103, 5005), [], []),
  (⟨"LanternChessModel", "ticks", "()I"⟩, 1, some (.int), 11, 1, (2, 52, 0, 0), (18100, 18099, 5004), [], []),
  (⟨"LanternChessModel", "glimpses", "(I)I"⟩, 5, some (.int), 11, 1, (5, 124, 0, 0), (18092, 18091, 5003), [], []),
  (⟨"LanternChessModel", "areCells", "()Z"⟩, 1, some (.boolean), 11, 1, (2, 55, 0, 0), (18117, 18116, 5007), [], []),
  (⟨"LanternChessModel", "glimpsedFrom", "()I"⟩, 1, some (.int), 11, 1, (2, 52, 0, 0), (18121, 18120, 5008), [], []),
  (⟨"LanternChessModel", "glimpsedTo", "()I"⟩, 1, some (.int), 11, 1, (2, 52, 0, 0), (18125, 18124, 5009), [], []),
  (⟨"LanternChessModel", "reading", "()I"⟩, 5, some (.int), 11, 1, (5, 133, 0, 0), (18112, 18111, 5006), [], []),
  (⟨"LanternChessModel", "makes", "(IIIIZ)V"⟩, 9, none, 11, 1, (4, 97, 0, 0), (18156, 18155, 5015), [], []),
  (⟨"LanternChessModel", "isGroup", "(I)Z"⟩, 2, some (.boolean), 11, 1, (2, 55, 0, 0), (18072, 18071, 5000), [], []),
  (⟨"LanternChessModel", "areOn", "(IIII)Z"⟩, 5, some (.boolean), 11, 1, (3, 77, 0, 0), (18077, 18076, 5001), [], []),
  (⟨"LanternChessModel", "group", "(IIIII)I"⟩, 6, some (.int), 11, 1, (4, 101, 0, 0), (18068, 18066, 18067), [], []),
  (⟨"LanternChessModel", "seenOf", "(IIIII)I"⟩, 7, some (.int), 11, 1, (6, 148, 0, 0), (18088, 18086, 18087), [], []),
  (⟨"LanternChessModel", "messageTicks", "(IIII)I"⟩, 5, some (.int), 11, 1, (4, 101, 0, 0), (18096, 18094, 18095), [], []),
  (⟨"LanternChessModel", "readsAs", "(IIII)I"⟩, 6, some (.int), 11, 1, (6, 157, 0, 0), (18108, 18106, 18107), [], []),
  (⟨"LanternChessModel", "loses", "(I)V"⟩, 2, none, 11, 1, (1, 30, 0, 0), (18160, 18159, 6000), [], []),
  (⟨"LanternChessModel", "roomIn", "(III)I"⟩, 5, some (.int), 11, 1, (1, 30, 0, 0), (18168, 18167, 6002), [], []),
  (⟨"LanternChessModel", "awaited", "(III)I"⟩, 8, some (.int), 11, 1, (4, 97, 0, 0), (18164, 18163, 6001), [], []),
  (⟨"LanternChessModel", "sends", "(IIZ)I"⟩, 16, some (.int), 11, 1, (6, 157, 0, 0), (18152, 18151, 5014), [], []),
  (⟨"LanternChessModel", "answered", "(III)V"⟩, 7, none, 11, 1, (5, 125, 0, 0), (18172, 18171, 6003), [], []),
  (⟨"LanternChessModel", "plays", "(II)I"⟩, 5, some (.int), 11, 1, (7, 192, 0, 0), (18148, 18147, 5013), [], []),
  (⟨"LanternChessModel", "goesOn", "()Z"⟩, 1, some (.boolean), 11, 1, (1, 30, 0, 0), (18136, 18135, 5010), [], []),
  (⟨"LanternChessModel", "isOwnMove", "(II)Z"⟩, 3, some (.boolean), 11, 1, (5, 133, 0, 0), (18140, 18139, 5011), [], []),
  (⟨"LanternChessModel", "play", "(IIII)I"⟩, 7, some (.int), 11, 1, (8, 216, 0, 0), (18132, 18130, 18131), [], []),
  (⟨"LanternChessModel", "laysBack", "(I)I"⟩, 2, some (.int), 11, 1, (2, 52, 0, 0), (18184, 18183, 6005), [], []),
  (⟨"LanternChessModel", "ifPlayed", "(IIIII)I"⟩, 9, some (.int), 11, 1, (8, 216, 0, 0), (18180, 18178, 18179), [], []),
  (⟨"LanternChessModel", "delay", "(IIIII)I"⟩, 10, some (.int), 11, 1, (8, 216, 0, 0), (18188, 18186, 18187), [], []),
  (⟨"LanternChessModel", "sent", "(II)I"⟩, 3, some (.int), 11, 1, (2, 55, 0, 0), (18193, 18191, 18192), [], []),
  (⟨"LanternChessModel", "made", "(II)I"⟩, 3, some (.int), 11, 1, (2, 55, 0, 0), (18198, 18196, 18197), [], []),
  (⟨"LanternChessModel", "meanTries", "()D"⟩, 3, some (.double), 11, 1, (1, 30, 0, 0), (18202, 18200, 18201), [], []),
  (⟨"LanternChessModel", "hiddenShare", "()F"⟩, 5, some (.float), 11, 1, (1, 30, 0, 0), (18206, 18204, 18205), [], []),
  (⟨"LanternChessModel", "think", "(I)I"⟩, 3, some (.int), 11, 1, (3, 72, 0, 0), (18210, 18208, 18209), [], []),
  (⟨"LanternChessModel", "resign", "()I"⟩, 1, some (.int), 11, 1, (3, 72, 0, 0), (18214, 18212, 18213), [], []),
  (⟨"LanternChessModel", "settle", "(I)I"⟩, 5, some (.int), 11, 1, (3, 75, 0, 0), (18218, 18216, 18217), [], []),
  (⟨"LanternChessModel", "wind", "(II)I"⟩, 3, some (.int), 11, 1, (3, 75, 0, 0), (18222, 18220, 18221), [], []),
  (⟨"LanternChessModel", "addFog", "(III)I"⟩, 5, some (.int), 11, 1, (3, 77, 0, 0), (18226, 18224, 18225), [], []),
  (⟨"LanternChessModel", "dropFog", "(I)I"⟩, 3, some (.int), 11, 1, (3, 76, 0, 0), (19000, 18238, 18239), [], [])]
def ev_mt7 : List ev_R := [
(⟨"LanternChessModel", "isSetting", "(II)Z"⟩, 2, some (.boolean), 11, 0, (2, 55, 0, 0), (19007, 19006, 0), [], []),
  (⟨"LanternChessModel", "set", "(II)I"⟩, 4, some (.int), 11, 1, (3, 76, 0, 0), (19004, 19002, 19003), [], []),
  (⟨"LanternChessModel", "appendInput", "(IIIII)I"⟩, 8, some (.int), 11, 1, (1, 30, 0, 0), (19011, 19009, 19010), [], []),
  (⟨"LanternChessModel", "truncateInput", "(I)Z"⟩, 2, some (.boolean), 11, 1, (2, 55, 0, 0), (19015, 19013, 19014), [], []),
  (⟨"LanternChessModel", "here", "(I)I"⟩, 2, some (.int), 11, 1, (1, 30, 0, 0), (19027, 19026, 6009), [], []),
  (⟨"LanternChessModel", "isLetter", "(I)Z"⟩, 2, some (.boolean), 11, 1, (2, 55, 0, 0), (19031, 19030, 6010), [], []),
  (⟨"LanternChessModel", "next", "()V"⟩, 2, none, 11, 1, (7, 183, 0, 0), (19023, 19022, 6008), [], []),
  (⟨"LanternChessModel", "wordHere", "()I"⟩, 4, some (.int), 11, 1, (6, 160, 0, 0), (19037, 19036, 6011), [], []),
  (⟨"LanternChessModel", "fine", "()Z"⟩, 1, some (.boolean), 11, 1, (1, 30, 0, 0), (19050, 19049, 6013), [], []),
  (⟨"LanternChessModel", "needs", "(ZI)V"⟩, 3, none, 11, 1, (1, 30, 0, 0), (19054, 19053, 6014), [], []),
  (⟨"LanternChessModel", "goOn", "()V"⟩, 1, none, 11, 1, (8, 204, 0, 0), (19058, 19057, 6015), [], []),
  (⟨"LanternChessModel", "isWord", "(I)Z"⟩, 2, some (.boolean), 11, 1, (2, 50, 0, 0), (19046, 19045, 6012), [], []),
  (⟨"LanternChessModel", "looksNumber", "(II)I"⟩, 3, some (.int), 11, 1, (2, 55, 0, 0), (19066, 19065, 7001), [], []),
  (⟨"LanternChessModel", "number", "(II)I"⟩, 4, some (.int), 11, 1, (9, 224, 0, 0), (19062, 19061, 7000), [], []),
  (⟨"LanternChessModel", "onlyOnce", "(I)V"⟩, 2, none, 11, 1, (9, 224, 0, 0), (19082, 19081, 7005), [], []),
  (⟨"LanternChessModel", "readsClock", "()V"⟩, 1, none, 11, 1, (10, 247, 0, 0), (19078, 19077, 7004), [], []),
  (⟨"LanternChessModel", "readsSetting", "(IIII)V"⟩, 5, none, 11, 1, (10, 247, 0, 0), (19086, 19085, 7006), [], []),
  (⟨"LanternChessModel", "hasKing", "(I)Z"⟩, 3, some (.boolean), 11, 1, (2, 50, 0, 0), (19096, 19095, 7008), [], []),
  (⟨"LanternChessModel", "readsPiece", "(I)V"⟩, 5, none, 11, 1, (10, 247, 0, 0), (19090, 19089, 7007), [], []),
  (⟨"LanternChessModel", "readsFog", "()V"⟩, 5, none, 11, 1, (10, 247, 0, 0), (19100, 19099, 7009), [], []),
  (⟨"LanternChessModel", "semicolon", "()V"⟩, 1, none, 11, 1, (9, 224, 0, 0), (19070, 19069, 7002), [], []),
  (⟨"LanternChessModel", "statement", "()V"⟩, 1, none, 11, 1, (11, 271, 0, 0), (19074, 19073, 7003), [], []),
  (⟨"LanternChessModel", "loadGame", "()I"⟩, 2, some (.int), 11, 1, (12, 291, 0, 0), (19019, 19017, 19018), [], []),
  (⟨"LanternChessModel", "errorCode", "()I"⟩, 1, some (.int), 11, 1, (1, 30, 0, 0), (19104, 19102, 19103), [], []),
  (⟨"LanternChessModel", "errorOffset", "()I"⟩, 1, some (.int), 11, 1, (1, 30, 0, 0), (19108, 19106, 19107), [], []),
  (⟨"LanternChessModel", "says", "(I)V"⟩, 2, none, 11, 1, (1, 30, 0, 0), (19117, 19116, 7010), [], []),
  (⟨"LanternChessModel", "printRow", "(II)I"⟩, 4, some (.int), 11, 1, (6, 160, 0, 0), (19112, 19110, 19111), [], []),
  (⟨"LanternChessModel", "printMessage", "(IIII)I"⟩, 8, some (.int), 11, 1, (4, 101, 0, 0), (19121, 19119, 19120), [], []),
  (⟨"LanternChessModel", "saysCell", "(I)V"⟩, 2, none, 11, 1, (2, 51, 0, 0), (19129, 19128, 7011), [], []),
  (⟨"LanternChessModel", "printMoves", "()I"⟩, 4, some (.int), 11, 1, (3, 72, 0, 0), (19125, 19123, 19124), [], []),
  (⟨"LanternChessModel", "outputByte", "(I)I"⟩, 2, some (.int), 11, 1, (2, 55, 0, 0), (19133, 19131, 19132), [], []),
  (⟨"LanternChessLaw", "count", "(LLanternChess;I[J)I"⟩, 4, some (.int), 12, 0, (9, 151, 1, 6), (13177, 13176, 0), [(0, 9, 12, 13)], [(0, 9, 0, 13, 3)]),
  (⟨"LanternChessLaw", "clock", "(LLanternChess;I[J)I"⟩, 4, some (.int), 12, 0, (10, 171, 1, 6), (14013, 14012, 0), [(0, 9, 12, 18)], [(0, 9, 1, 13, 3)]),
  (⟨"LanternChessLaw", "piece", "(LLanternChess;III[J)I"⟩, 6, some (.int), 12, 0, (10, 175, 2, 12), (14044, 14043, 0), [(0, 12, 15, 18), (0, 12, 19, 13)], [(0, 12, 1, 17, 5), (0, 12, 0, 21, 5)]),
  (⟨"LanternChessLaw", "isMove", "(LLanternChess;IIIIII[J)I"⟩, 9, some (.int), 12, 0, (11, 202, 4, 24), (14065, 14064, 0), [(0, 25, 28, 18), (0, 25, 32, 13)], [(0, 25, 1, 30, 8), (0, 25, 0, 34, 8)]),
  (⟨"LanternChessLaw", "moves", "(LLanternChess;II[J)I"⟩, 5, some (.int), 12, 0, (10, 181, 2, 12), (14104, 14103, 0), [(0, 10, 13, 18)], [(0, 10, 1, 15, 4)]),
  (⟨"LanternChessLaw", "move", "(LLanternChess;IIII[J)I"⟩, 7, some (.int), 12, 0, (10, 213, 4, 24), (14122, 14121, 0), [(0, 14, 17, 18), (0, 14, 21, 13)], [(0, 14, 1, 19, 6), (0, 14, 0, 23, 6)]),
  (⟨"LanternChessLaw", "ranked", "(LLanternChess;II[J)I"⟩, 5, some (.int), 12, 0, (10, 211, 2, 12), (14187, 14186, 0), [(0, 10, 13, 18), (0, 10, 17, 13)], [(0, 10, 1, 15, 4), (0, 10, 0, 19, 4)]),
  (⟨"LanternChessLaw", "attackers", "(LLanternChess;IIII[J)I"⟩, 7, some (.int), 12, 0, (10, 176, 3, 18), (14207, 14206, 0), [(0, 14, 17, 18), (0, 14, 21, 13)], [(0, 14, 1, 19, 6), (0, 14, 0, 23, 6)]),
  (⟨"LanternChessLaw", "isInCheck", "(LLanternChess;II[J)I"⟩, 5, some (.int), 12, 0, (10, 172, 2, 12), (14218, 14217, 0), [(0, 17, 20, 18)], [(0, 17, 1, 22, 4)])]
def ev_mt8 : List ev_R := [
(⟨"LanternChessLaw", "material", "(LLanternChess;II[J)I"⟩, 5, some (.int), 12, 0, (10, 172, 2, 12), (14230, 14229, 0), [(0, 10, 13, 18)], [(0, 10, 1, 15, 4)]),
  (⟨"LanternChessLaw", "sum", "(LLanternChess;I[J)I"⟩, 4, some (.int), 12, 0, (10, 171, 1, 6), (15001, 15000, 0), [(0, 9, 12, 18)], [(0, 9, 1, 13, 3)]),
  (⟨"LanternChessLaw", "differ", "(LLanternChess;I[J)I"⟩, 4, some (.int), 12, 0, (10, 173, 1, 6), (15017, 15016, 0), [(0, 9, 12, 13)], [(0, 9, 0, 13, 3)]),
  (⟨"LanternChessLaw", "fewestMoves", "(LLanternChess;IIIII[J)I"⟩, 8, some (.int), 12, 0, (11, 201, 3, 18), (15040, 15039, 0), [(0, 16, 19, 18), (0, 16, 23, 13)], [(0, 16, 1, 21, 7), (0, 16, 0, 25, 7)]),
  (⟨"LanternChessLaw", "isHidden", "(LLanternChess;I[J)I"⟩, 4, some (.int), 12, 0, (10, 173, 1, 6), (15068, 15067, 0), [(0, 16, 19, 13)], [(0, 16, 0, 20, 3)]),
  (⟨"LanternChessLaw", "hiddenTicks", "(LLanternChess;II[J)I"⟩, 5, some (.int), 12, 0, (10, 174, 2, 12), (15080, 15079, 0), [(0, 10, 13, 13)], [(0, 10, 0, 15, 4)]),
  (⟨"LanternChessLaw", "clearFrom", "(LLanternChess;I[J)I"⟩, 4, some (.int), 12, 0, (10, 173, 1, 6), (15092, 15091, 0), [(0, 9, 12, 13)], [(0, 9, 0, 13, 3)]),
  (⟨"LanternChessLaw", "fog", "(LLanternChess;II[J)I"⟩, 5, some (.int), 12, 0, (10, 174, 2, 12), (15103, 15102, 0), [(0, 10, 13, 18), (0, 10, 17, 13)], [(0, 10, 1, 15, 4), (0, 10, 0, 19, 4)]),
  (⟨"LanternChessLaw", "group", "(LLanternChess;IIIII[J)I"⟩, 8, some (.int), 12, 0, (12, 225, 3, 18), (15114, 15113, 0), [(0, 16, 19, 18), (0, 16, 23, 13)], [(0, 16, 1, 21, 7), (0, 16, 0, 25, 7)]),
  (⟨"LanternChessLaw", "seenOf", "(LLanternChess;IIIII[J)I"⟩, 8, some (.int), 12, 0, (12, 225, 3, 18), (15188, 15187, 0), [(0, 16, 19, 18), (0, 16, 23, 13)], [(0, 16, 1, 21, 7), (0, 16, 0, 25, 7)]),
  (⟨"LanternChessLaw", "messageTicks", "(LLanternChess;IIII[J)I"⟩, 7, some (.int), 12, 0, (12, 224, 2, 12), (15196, 15195, 0), [(0, 14, 17, 13)], [(0, 14, 0, 19, 6)]),
  (⟨"LanternChessLaw", "readsAs", "(LLanternChess;IIII[J)I"⟩, 7, some (.int), 12, 0, (12, 224, 2, 12), (15203, 15202, 0), [(0, 14, 17, 13)], [(0, 14, 0, 19, 6)]),
  (⟨"LanternChessLaw", "ifPlayed", "(LLanternChess;IIIII[J)I"⟩, 8, some (.int), 12, 0, (11, 219, 4, 24), (15210, 15209, 0), [(0, 16, 19, 13), (0, 16, 23, 87)], [(0, 16, 0, 21, 7), (0, 16, 2, 25, 7)]),
  (⟨"LanternChessLaw", "delay", "(LLanternChess;IIIII[J)I"⟩, 8, some (.int), 12, 0, (11, 205, 4, 24), (16063, 16062, 0), [(0, 16, 19, 13), (0, 16, 23, 87)], [(0, 16, 0, 21, 7), (0, 16, 2, 25, 7)]),
  (⟨"LanternChessLaw", "sent", "(LLanternChess;II[J)I"⟩, 5, some (.int), 12, 0, (10, 174, 2, 12), (16071, 16070, 0), [(0, 10, 13, 18), (0, 10, 17, 13)], [(0, 10, 1, 15, 4), (0, 10, 0, 19, 4)]),
  (⟨"LanternChessLaw", "made", "(LLanternChess;II[J)I"⟩, 5, some (.int), 12, 0, (10, 175, 2, 12), (16078, 16077, 0), [(0, 10, 13, 18), (0, 10, 17, 13)], [(0, 10, 1, 15, 4), (0, 10, 0, 19, 4)]),
  (⟨"LanternChessLaw", "play", "(LLanternChess;IIII[J)I"⟩, 7, some (.int), 12, 0, (11, 219, 3, 18), (16085, 16084, 0), [(0, 14, 17, 13), (0, 14, 21, 87)], [(0, 14, 0, 19, 6), (0, 14, 2, 23, 6)]),
  (⟨"LanternChessLaw", "think", "(LLanternChess;I[J)I"⟩, 4, some (.int), 12, 0, (10, 173, 2, 12), (16098, 16097, 0), [(0, 9, 12, 13), (0, 9, 15, 87)], [(0, 9, 0, 13, 3), (0, 9, 2, 16, 3)]),
  (⟨"LanternChessLaw", "resign", "(LLanternChess;[J)I"⟩, 3, some (.int), 12, 0, (10, 171, 1, 6), (16106, 16105, 0), [(0, 8, 11, 87)], [(0, 8, 2, 12, 2)]),
  (⟨"LanternChessLaw", "settle", "(LLanternChess;I[J)I"⟩, 4, some (.int), 12, 0, (10, 172, 1, 6), (16114, 16113, 0), [(0, 9, 12, 18)], [(0, 9, 1, 13, 3)]),
  (⟨"LanternChessLaw", "wind", "(LLanternChess;II[J)I"⟩, 5, some (.int), 12, 0, (10, 175, 3, 18), (16122, 16121, 0), [(0, 10, 13, 18), (0, 10, 17, 13), (0, 10, 21, 87)], [(0, 10, 1, 15, 4), (0, 10, 0, 19, 4), (0, 10, 2, 23, 4)]),
  (⟨"LanternChessLaw", "addFog", "(LLanternChess;III[J)I"⟩, 6, some (.int), 12, 0, (10, 175, 4, 24), (16131, 16130, 0), [(0, 12, 15, 13), (0, 12, 19, 87)], [(0, 12, 0, 17, 5), (0, 12, 2, 21, 5)]),
  (⟨"LanternChessLaw", "dropFog", "(LLanternChess;I[J)I"⟩, 4, some (.int), 12, 0, (10, 172, 1, 6), (16142, 16141, 0), [(0, 9, 12, 18)], [(0, 9, 1, 13, 3)]),
  (⟨"LanternChessLaw", "set", "(LLanternChess;II[J)I"⟩, 5, some (.int), 12, 0, (11, 196, 4, 24), (16153, 16152, 0), [(0, 10, 13, 13)], [(0, 10, 0, 15, 4)]),
  (⟨"LanternChessLaw", "undo", "(LLanternChess;[J)I"⟩, 3, some (.int), 12, 0, (9, 165, 1, 6), (16172, 16171, 0), [(0, 8, 11, 126)], [(0, 8, 3, 12, 2)]),
  (⟨"LanternChessLaw", "printRow", "(LLanternChess;II[J)I"⟩, 5, some (.int), 12, 0, (10, 185, 2, 12), (16200, 16199, 0), [(0, 10, 13, 18), (0, 10, 17, 13)], [(0, 10, 1, 15, 4), (0, 10, 0, 19, 4)]),
  (⟨"LanternChessLaw", "printMessage", "(LLanternChess;IIII[J)I"⟩, 7, some (.int), 12, 0, (12, 227, 2, 12), (16210, 16209, 0), [(0, 14, 17, 13)], [(0, 14, 0, 19, 6)]),
  (⟨"LanternChessLaw", "restoreState", "(LLanternChess;[J)I"⟩, 3, some (.int), 12, 0, (9, 150, 1, 6), (16217, 16216, 0), [(0, 8, 11, 126)], [(0, 8, 3, 12, 2)]),
  (⟨"LanternChessLaw", "law", "([I)Z"⟩, 9, some (.boolean), 12, 0, (13, 315, 328, 23736), (0, 0, 0), [], []),
  (⟨"java/util/Arrays", "fill", "([II)V"⟩, 4, none, 13, 0, (1, 30, 0, 0), (12110, 12109, 0), [], []),
  (⟨"java/lang/Integer", "signum", "(I)I"⟩, 1, some (.int), 14, 0, (1, 30, 0, 0), (14097, 14096, 0), [], [])]
def ev_z : ev_R := (⟨"", "", ""⟩, 0, none, 0, 0, (0, 0, 0, 0), (0, 0, 0), [], [])
def ev_mts : List (List ev_R) := [ev_mt0, ev_mt1, ev_mt2, ev_mt3, ev_mt4, ev_mt5, ev_mt6, ev_mt7, ev_mt8]
def ev_m (k : Nat) : ev_R := (ev_mts.getD (k / 40) []).getD (k % 40) ev_z
def ev_nm : Nat := 351
def ev_lawM : Nat := 348
def ev_y (k : Nat) : MethodName := (ev_m k).1
def ev_ml (k : Nat) : Nat := (ev_m k).2.1
def ev_rt (k : Nat) : Option FieldType := (ev_m k).2.2.1
def ev_ci (k : Nat) : Nat := (ev_m k).2.2.2.1
def ev_kd (k : Nat) : Nat := (ev_m k).2.2.2.2.1
def ev_dp (k : Nat) : Nat := (ev_m k).2.2.2.2.2.1.1
def ev_lc (k : Nat) : Nat := (ev_m k).2.2.2.2.2.1.2.1
def ev_k1 (k : Nat) : Nat := (ev_m k).2.2.2.2.2.1.2.2.1
def ev_k2 (k : Nat) : Nat := (ev_m k).2.2.2.2.2.1.2.2.2
def ev_pw (k : Nat) : Nat × Nat × Nat := (ev_m k).2.2.2.2.2.2.1
def ev_hh (k : Nat) : List (Nat × Nat × Nat × Nat) := (ev_m k).2.2.2.2.2.2.2.1
def ev_eh (k : Nat) : List (Nat × Nat × Nat × Nat × Nat) := (ev_m k).2.2.2.2.2.2.2.2
/-- a field by its place in a pool: class, place; class of the object, slot, kind (0 int, 1 boolean, 2 a reference); place of the word -/
def ev_ft : List (Nat × Nat × Nat × Nat × Nat × Nat) := [(8, 9, 8, 0, 2, 11042), (8, 15, 8, 1, 0, 11043), (10, 90, 8, 1, 0, 11044), (8, 19, 8, 2, 0, 11045), (10, 97, 8, 2, 0, 11046), (8, 22, 8, 3, 0, 11047), (10, 109, 8, 3, 0, 11048), (8, 25, 8, 4, 0, 11049), (10, 106, 8, 4, 0, 11050), (8, 28, 8, 5, 0, 11051), (8, 31, 8, 6, 0, 11052), (8, 34, 8, 7, 0, 11053), (8, 37, 8, 8, 0, 11054), (8, 40, 8, 9, 0, 11055), (1, 9, 1, 0, 2, 11096), (1, 15, 1, 1, 0, 11097), (8, 124, 1, 1, 0, 11098), (10, 122, 1, 1, 0, 11099), (1, 19, 1, 2, 0, 11100), (8, 129, 1, 2, 0, 11101), (10, 125, 1, 2, 0, 11102), (0, 12, 0, 0, 2, 11111), (3, 83, 0, 0, 2, 11112), (8, 118, 0, 0, 2, 11113), (10, 116, 0, 0, 2, 11114), (0, 18, 0, 1, 2, 11115), (0, 21, 0, 2, 0, 11116), (10, 155, 0, 2, 0, 11117), (0, 25, 0, 3, 0, 11118), (0, 28, 0, 4, 0, 11119), (0, 31, 0, 5, 0, 11120), (2, 9, 2, 0, 2, 11140), (2, 15, 2, 1, 2, 11141), (2, 18, 2, 2, 2, 11142), (2, 21, 2, 3, 0, 11143), (3, 67, 2, 3, 0, 11144), (10, 150, 2, 3, 0, 11145), (5, 9, 5, 0, 2, 11161), (5, 15, 5, 1, 0, 11162), (10, 173, 5, 1, 0, 11163), (5, 19, 5, 2, 0, 11164), (10, 165, 5, 2, 0, 11165), (3, 12, 3, 0, 2, 11173), (8, 115, 3, 0, 2, 11174), (10, 112, 3, 0, 2, 11175), (3, 18, 3, 1, 2, 11176), (10, 158, 3, 1, 2, 11177), (3, 24, 3, 2, 2, 11178), (8, 141, 3, 2, 2, 11179), (10, 146, 3, 2, 2, 11180), (3, 31, 3, 3, 2, 11181), (10, 170, 3, 3, 2, 11182), (3, 35, 3, 4, 2, 11183), (10, 161, 3, 4, 2, 11184), (3, 38, 3, 5, 0, 11185), (10, 128, 3, 5, 0, 11186), (3, 42, 3, 6, 0, 11187), (10, 131, 3, 6, 0, 11188), (3, 45, 3, 7, 0, 11189), (10, 134, 3, 7, 0, 11190), (3, 48, 3, 8, 0, 11191), (8, 87, 3, 8, 0, 11192), (10, 137, 3, 8, 0, 11193), (3, 51, 3, 9, 0, 11194), (8, 91, 3, 9, 0, 11195), (10, 140, 3, 9, 0, 11196), (3, 54, 3, 10, 0, 11197), (8, 96, 3, 10, 0, 11198), (10, 143, 3, 10, 0, 11199), (3, 57, 3, 11, 0, 11200), (3, 60, 3, 12, 0, 11201), (4, 11, 4, 0, 2, 11238), (4, 17, 4, 1, 0, 11239), (4, 21, 4, 2, 0, 12000), (10, 176, 4, 2, 0, 12001), (7, 9, 7, 0, 2, 12015), (7, 15, 7, 1, 2, 12016), (7, 18, 7, 2, 0, 12017), (3, 165, 7, 2, 0, 12018), (10, 291, 7, 2, 0, 12019), (7, 22, 7, 3, 0, 12020), (3, 138, 7, 3, 0, 12021), (10, 294, 7, 3, 0, 12022), (7, 25, 7, 4, 0, 12023), (3, 158, 7, 4, 0, 12024), (7, 28, 7, 5, 0, 12025), (3, 171, 7, 5, 0, 12026), (7, 31, 7, 6, 1, 12027), (3, 177, 7, 6, 1, 12028), (10, 312, 7, 6, 1, 12029), (7, 35, 7, 7, 0, 12030), (3, 181, 7, 7, 0, 12031), (10, 315, 7, 7, 0, 12032), (6, 9, 6, 0, 2, 12058), (6, 15, 6, 1, 2, 12059), (6, 18, 6, 2, 2, 12060), (6, 24, 6, 3, 2, 12061), (6, 28, 6, 4, 0, 12062), (10, 213, 6, 4, 0, 12063), (9, 12, 9, 0, 2, 12083), (9, 18, 9, 1, 2, 12084), (9, 22, 9, 2, 2, 12085), (9, 25, 9, 3, 0, 12086), (10, 10, 10, 0, 2, 12126), (10, 19, 10, 1, 2, 12127), (10, 23, 10, 2, 2, 12128), (10, 26, 10, 3, 2, 12129), (10, 29, 10, 4, 1, 12130), (10, 36, 10, 5, 2, 12131), (10, 43, 10, 6, 2, 12132), (10, 50, 10, 7, 2, 12133), (10, 57, 10, 8, 2, 12134), (10, 61, 10, 9, 2, 12135), (10, 65, 10, 10, 0, 12136), (11, 67, 11, 0, 0, 16233), (11, 7, 11, 1, 2, 16234), (11, 13, 11, 2, 2, 16235), (11, 16, 11, 3, 2, 16236), (11, 19, 11, 4, 2, 16237), (11, 22, 11, 5, 2, 16238), (11, 25, 11, 6, 2, 16239), (11, 28, 11, 7, 2, 17000), (11, 74, 11, 8, 0, 17001), (11, 81, 11, 9, 1, 17002), (11, 31, 11, 10, 2, 17003), (11, 34, 11, 11, 2, 17004), (11, 37, 11, 12, 2, 17005), (11, 40, 11, 13, 2, 17006), (11, 43, 11, 14, 2, 17007), (11, 46, 11, 15, 2, 17008), (11, 49, 11, 16, 2, 17009), (11, 52, 11, 17, 2, 17010), (11, 310, 11, 18, 0, 17011), (11, 313, 11, 19, 0, 17012), (11, 323, 11, 20, 0, 17013), (11, 326, 11, 21, 0, 17014), (11, 329, 11, 22, 0, 17015), (11, 338, 11, 23, 0, 17016), (11, 345, 11, 24, 0, 17017), (11, 358, 11, 25, 0, 17018), (11, 56, 11, 26, 0, 17019), (11, 377, 11, 27, 0, 17020), (11, 386, 11, 28, 0, 17021), (11, 60, 11, 29, 2, 17022), (11, 418, 11, 30, 0, 17023)]
/-- a method by its place in a pool (1000 and more: the JDK's own) -/
def ev_ct : List (Nat × Nat × Nat × Nat) := [(12, 137, 119, 11030), (10, 1, 1006, 11033), (10, 9, 95, 11038), (8, 3, 1006, 11041), (10, 18, 47, 11080), (3, 3, 1006, 11083), (3, 11, 0, 11086), (0, 3, 1006, 11089), (0, 11, 9, 11092), (1, 3, 1006, 11095), (3, 23, 37, 11136), (2, 3, 1006, 11139), (3, 30, 67, 11157), (5, 3, 1006, 11160), (10, 35, 63, 11231), (4, 3, 1006, 11234), (4, 24, 47, 11237), (10, 42, 83, 12011), (7, 3, 1006, 12014), (10, 49, 74, 12052), (6, 3, 1006, 12055), (6, 23, 9, 12057), (10, 56, 115, 12077), (9, 3, 1006, 12080), (9, 11, 9, 12082), (10, 69, 48, 12096), (3, 63, 1, 12100), (0, 34, 10, 12104), (1, 22, 349, 12108), (3, 70, 69, 12111), (10, 73, 12, 12115), (10, 79, 50, 12118), (3, 87, 18, 12122), (12, 141, 120, 12160), (10, 82, 96, 12164), (10, 86, 97, 12168), (12, 145, 121, 12172), (12, 149, 122, 12176), (10, 93, 98, 12180), (8, 43, 111, 12184), (8, 178, 112, 12188), (8, 189, 113, 12192), (8, 192, 114, 12195), (8, 48, 105, 12199), (8, 74, 109, 12203), (8, 181, 1004, 12207), (8, 185, 1005, 12217), (8, 69, 110, 13015), (8, 52, 107, 13019), (8, 175, 108, 13023), (8, 56, 106, 13027), (8, 59, 48, 13031), (8, 65, 99, 13032), (8, 78, 104, 13037), (8, 82, 53, 13041), (8, 100, 100, 13049), (8, 111, 102, 13053), (8, 159, 103, 13057), (8, 132, 12, 13067), (8, 135, 17, 13068), (8, 138, 50, 13072), (8, 108, 101, 13075), (8, 145, 39, 13079), (8, 151, 40, 13083), (8, 155, 41, 13087), (10, 100, 49, 13091), (3, 73, 2, 13095), (0, 38, 11, 13099), (1, 28, 1000, 13103), (3, 77, 38, 13106), (2, 25, 1000, 13110), (3, 80, 68, 13111), (5, 22, 1000, 13115), (10, 103, 64, 13116), (12, 153, 123, 13120), (12, 157, 124, 13124), (12, 247, 152, 13128), (10, 319, 73, 13132), (5, 28, 72, 13136), (12, 252, 153, 13140), (12, 291, 168, 13144), (10, 384, 171, 13148), (10, 388, 169, 13152), (10, 318, 72, 13156), (10, 391, 170, 13157), (10, 394, 13, 13161), (10, 397, 14, 13164), (12, 295, 172, 13167), (12, 299, 173, 13171), (12, 161, 311, 13175), (12, 7, 125, 13179), (12, 170, 312, 14011), (12, 15, 126, 14015), (10, 184, 175, 14019), (10, 187, 52, 14038), (12, 173, 313, 14042), (12, 20, 127, 14045), (10, 191, 178, 14049), (10, 411, 15, 14053), (10, 194, 51, 14058), (10, 198, 17, 14062), (12, 177, 314, 14063), (12, 24, 128, 14066), (10, 201, 179, 14070), (10, 205, 21, 14074), (1, 37, 17, 14078), (1, 41, 19, 14079), (1, 45, 13, 14082), (1, 48, 14, 14083), (1, 51, 15, 14084), (1, 54, 22, 14085), (1, 58, 1001, 14089), (1, 63, 1002, 14092), (1, 67, 350, 14095), (1, 72, 23, 14098), (12, 181, 315, 14102), (12, 28, 129, 14105), (10, 209, 75, 14109), (6, 32, 17, 14113), (6, 36, 19, 14114), (6, 40, 76, 14115), (6, 44, 21, 14119), (12, 185, 316, 14120), (12, 32, 130, 14123), (10, 214, 176, 14127), (10, 217, 177, 14131), (10, 221, 132, 14135), (10, 231, 77, 14139), (10, 234, 78, 14143), (10, 237, 16, 14147), (10, 240, 27, 14151), (1, 86, 20, 14155), (1, 76, 24, 14160), (10, 243, 79, 14164), (6, 48, 27, 14168), (6, 52, 11, 14169), (6, 56, 26, 14170), (1, 79, 25, 14174), (1, 82, 18, 14178), (6, 60, 28, 14179), (1, 89, 27, 14183), (1, 92, 21, 14184), (12, 189, 317, 14185), (12, 36, 131, 14188), (10, 225, 80, 14192), (6, 63, 79, 14196), (10, 228, 81, 14197), (6, 67, 82, 14201), (12, 192, 318, 14205), (12, 39, 133, 14208), (10, 246, 29, 14212), (12, 195, 319, 14216), (12, 42, 134, 14219), (10, 249, 30, 14223), (1, 95, 29, 14227), (12, 198, 320, 14228), (12, 46, 135, 14231), (10, 253, 31, 14235), (12, 201, 321, 14239), (12, 49, 136, 15002), (10, 256, 33, 15006), (1, 101, 32, 15010), (1, 98, 16, 15014), (12, 204, 322, 15015), (12, 52, 137, 15018), (10, 259, 54, 15022), (3, 92, 35, 15026), (10, 262, 55, 15030), (3, 96, 36, 15034), (12, 207, 323, 15038), (12, 55, 138, 15041), (10, 265, 116, 15045), (9, 29, 17, 15049), (9, 33, 11, 15050), (9, 37, 18, 15051), (9, 41, 349, 15052), (9, 47, 117, 15053), (9, 50, 118, 15057), (9, 54, 19, 15061), (9, 58, 13, 15062), (9, 61, 14, 15063), (9, 64, 15, 15064), (9, 67, 22, 15065), (12, 211, 324, 15066), (12, 59, 139, 15069), (10, 270, 44, 15074), (12, 214, 325, 15078), (12, 63, 140, 15081), (10, 273, 45, 15085), (2, 31, 44, 15089), (12, 217, 326, 15090), (12, 66, 141, 15093), (10, 276, 46, 15097), (12, 220, 327, 15101), (12, 69, 142, 15104), (10, 279, 43, 15108), (12, 223, 328, 15112), (12, 72, 143, 15115), (10, 282, 147, 15119), (10, 297, 59, 15123), (3, 99, 51, 15127), (3, 124, 5, 15128), (3, 128, 86, 15132), (7, 38, 13, 15136), (7, 44, 14, 15137), (7, 47, 87, 15138), (3, 134, 88, 15141), (7, 51, 45, 15145), (3, 141, 89, 15146), (7, 57, 15, 15150), (3, 145, 85, 15151), (3, 148, 90, 15155), (7, 61, 12, 15159), (3, 151, 91, 15160), (3, 154, 6, 15164), (0, 45, 5, 15168), (0, 49, 21, 15169), (3, 161, 7, 15170), (0, 53, 34, 15174), (1, 104, 33, 15178), (0, 57, 33, 15179), (3, 168, 45, 15180), (3, 174, 34, 15181), (10, 285, 84, 15182), (12, 226, 329, 15186), (12, 75, 144, 15189), (10, 288, 85, 15193), (12, 229, 330, 15194), (12, 78, 145, 15197), (12, 232, 331, 15201), (12, 81, 146, 15204), (12, 235, 332, 15208), (12, 84, 148, 15212), (10, 301, 180, 15216), (10, 304, 60, 15236), (3, 184, 56, 16000), (3, 103, 21, 16004), (3, 188, 59, 16005), (3, 192, 58, 16006), (3, 107, 52, 16010), (3, 111, 1003, 16011), (3, 117, 53, 16014), (3, 120, 57, 16015), (3, 196, 61, 16019), (3, 207, 70, 16023), (3, 210, 71, 16027), (3, 213, 92, 16031), (7, 64, 94, 16035), (3, 216, 93, 16038), (3, 200, 8, 16042), (0, 60, 3, 16046), (0, 42, 26, 16050), (0, 63, 4, 16051), (3, 204, 62, 16055), (3, 219, 17, 16059), (3, 222, 3, 16060), (12, 238, 333, 16061), (12, 89, 149, 16064), (10, 308, 56, 16068), (12, 241, 334, 16069), (12, 92, 150, 16072), (12, 244, 335, 16076), (12, 95, 151, 16079), (12, 257, 336, 16083), (12, 98, 154, 16086), (10, 322, 65, 16090), (4, 25, 49, 16094), (4, 29, 1003, 16095), (12, 260, 337, 16096), (12, 101, 155, 16099), (10, 325, 58, 16103), (12, 263, 338, 16104), (12, 104, 156, 16107), (10, 328, 57, 16111), (12, 267, 339, 16112), (12, 108, 157, 16115), (10, 331, 2, 16119), (12, 270, 340, 16120), (12, 111, 158, 16123), (10, 339, 53, 16128), (12, 273, 341, 16129), (12, 114, 159, 16132), (10, 342, 39, 16136), (10, 345, 40, 16137), (10, 350, 41, 16139), (12, 276, 342, 16140), (12, 117, 160, 16143), (10, 354, 42, 16147), (12, 279, 343, 16151), (12, 120, 161, 16154), (10, 357, 162, 16158), (10, 360, 163, 16162), (10, 363, 164, 16166), (12, 282, 344, 16170), (12, 123, 165, 16174), (10, 371, 66, 16194), (12, 285, 345, 16198), (12, 128, 166, 16201), (10, 376, 1004, 16206), (10, 380, 1005, 16207), (12, 288, 346, 16208), (12, 131, 167, 16211), (12, 303, 347, 16215), (12, 134, 174, 16218), (12, 140, 181, 16225), (11, 1, 1006, 16228), (11, 63, 187, 16229), (12, 167, 182, 17087), (12, 284, 190, 17091), (11, 77, 183, 17095), (12, 302, 191, 17099), (11, 70, 186, 17103), (12, 305, 192, 17106), (12, 166, 215, 17110), (11, 148, 185, 17115), (12, 172, 216, 17118), (11, 154, 212, 17122), (12, 176, 217, 17125), (11, 158, 213, 17129), (11, 161, 184, 17133), (11, 165, 194, 17137), (11, 168, 214, 17140), (12, 180, 218, 17144), (11, 129, 203, 17148), (11, 111, 196, 17152), (11, 114, 202, 17155), (11, 85, 198, 17159), (11, 92, 199, 17163), (11, 95, 1001, 17167), (11, 100, 197, 17168), (11, 103, 1002, 17171), (11, 107, 201, 17172), (11, 89, 200, 17176), (12, 184, 219, 17179), (11, 171, 210, 17183), (11, 125, 193, 17187), (12, 188, 220, 17191), (11, 176, 211, 17196), (11, 133, 205, 17200), (11, 121, 204, 17206), (11, 144, 208, 17210), (11, 137, 206, 17214), (11, 141, 207, 17218), (12, 191, 221, 17222), (11, 179, 222, 17226), (12, 194, 223, 17230), (12, 197, 224, 17234), (12, 200, 225, 17238), (12, 203, 226, 18002), (11, 182, 209, 18006), (12, 206, 228, 18010), (11, 185, 227, 18014), (12, 210, 230, 18018), (11, 188, 229, 18022), (12, 213, 235, 18026), (11, 197, 233, 18031), (11, 194, 232, 18035), (11, 191, 231, 18039), (12, 216, 236, 18043), (11, 204, 234, 18048), (12, 219, 237, 18052), (12, 222, 239, 18057), (11, 209, 238, 18061), (12, 225, 254, 18065), (11, 236, 252, 18069), (11, 239, 253, 18074), (11, 242, 243, 18078), (11, 212, 242, 18082), (12, 228, 255, 18085), (11, 245, 246, 18089), (12, 231, 256, 18093), (11, 248, 245, 18097), (11, 216, 244, 18101), (12, 234, 257, 18105), (11, 251, 250, 18109), (11, 221, 247, 18114), (11, 225, 248, 18118), (11, 228, 249, 18122), (11, 231, 195, 18126), (12, 259, 266, 18129), (11, 275, 264, 18133), (11, 278, 265, 18137), (11, 281, 188, 18141), (11, 284, 263, 18145), (11, 268, 261, 18149), (11, 254, 251, 18153), (11, 258, 258, 18157), (11, 262, 260, 18161), (11, 265, 259, 18165), (11, 272, 262, 18169), (11, 287, 189, 18173), (12, 237, 268, 18177), (11, 290, 267, 18181), (12, 240, 269, 18185), (12, 243, 270, 18190), (12, 246, 271, 18195), (12, 251, 272, 18199), (12, 256, 273, 18203), (12, 262, 274, 18207), (12, 266, 275, 18211), (12, 269, 276, 18215), (12, 272, 277, 18219), (12, 275, 278, 18223), (11, 301, 240, 18229), (11, 304, 241, 18233), (12, 278, 279, 18237), (12, 281, 281, 19001), (11, 307, 280, 19005), (12, 144, 282, 19008), (12, 148, 283, 19012), (12, 152, 302, 19016), (11, 364, 286, 19020), (11, 316, 284, 19024), (11, 332, 285, 19028), (11, 335, 287, 19034), (11, 350, 1004, 19039), (11, 354, 1005, 19040), (11, 396, 291, 19043), (11, 361, 288, 19047), (11, 367, 289, 19051), (11, 374, 290, 19055), (11, 383, 293, 19059), (11, 371, 292, 19063), (11, 412, 300, 19067), (11, 415, 301, 19071), (11, 399, 295, 19075), (11, 380, 294, 19079), (11, 402, 296, 19083), (11, 406, 298, 19087), (11, 393, 297, 19093), (11, 409, 299, 19097), (12, 156, 303, 19101), (12, 160, 304, 19105), (12, 287, 306, 19109), (11, 423, 305, 19114), (12, 290, 307, 19118), (12, 294, 309, 19122), (11, 426, 308, 19126), (12, 298, 310, 19130)]
/-- constants -/
def ev_kt : List (Nat × Nat × Value × Nat) := [(10, 269, .int 99999, 15073), (11, 152, .long 15, 17114), (11, 174, .long 3, 17195), (11, 200, .long 99999, 18030), (11, 202, .long 999, 18047), (11, 207, .long 99, 18056), (11, 234, .long 5, 18073), (11, 219, .long 2, 18113), (11, 293, .long 200, 18189), (11, 295, .long 7, 18194), (11, 297, .long 9999, 18227), (11, 299, .long 9, 18228), (11, 319, .long 97, 19032), (11, 321, .long 122, 19033), (11, 341, .long 48, 19041), (11, 343, .long 57, 19042), (11, 389, .long 8, 19091), (11, 391, .long 13, 19092)]
/-- texts: class, place, text, address -/
def ev_sr : List (Nat × Nat × String × Nat × Nat) := [(8, 46, "game", 3, 12198), (8, 72, "clock", 4, 13036), (8, 85, "pause", 5, 13045), (8, 89, "wait", 6, 13046), (8, 94, "tries", 7, 13047), (8, 98, "white", 8, 13048), (8, 163, "king", 9, 13061), (8, 165, "queen", 10, 13062), (8, 167, "rook", 11, 13063), (8, 169, "bishop", 12, 13064), (8, 171, "knight", 13, 13065), (8, 173, "pawn", 14, 13066), (8, 104, "black", 15, 13073), (8, 106, "fog", 16, 13074), (10, 374, "KQRBNPkqrbnp", 17, 16205), (11, 348, "game clock pause wait tries white black fog king queen rook bishop knight pawn ", 18, 19038), (11, 421, ".KQRBNPkqrbnp", 19, 19113)]
/-- classes by their places in pools -/
def ev_nt : List (Nat × Nat × Nat × Nat) := [(12, 8, 10, 11028), (10, 7, 8, 11036), (10, 16, 3, 11078), (3, 9, 0, 11084), (0, 9, 1, 11090), (3, 21, 2, 11134), (3, 28, 5, 11155), (10, 33, 4, 11229), (4, 9, 3, 11235), (10, 40, 7, 12009), (10, 47, 6, 12050), (6, 21, 1, 12056), (10, 54, 9, 12075), (9, 9, 1, 12081), (12, 138, 11, 16223)]
/-- throws: class, place of the exception's class in the pool; which exception -/
def ev_X : List String := ["java/lang/IllegalArgumentException", "java/lang/IndexOutOfBoundsException", "java/lang/IllegalStateException", "java/util/NoSuchElementException"]
def ev_xt : List (Nat × Nat × Nat × Nat) := [(12, 13, 0, 13178), (10, 177, 0, 13183), (12, 18, 1, 14014), (10, 402, 1, 14022), (12, 87, 2, 15211), (10, 334, 2, 15220), (12, 126, 3, 16173), (10, 366, 3, 16178)]
def ev_th : List (Nat × Nat × Nat × Nat × Nat × Nat × Bool × String) := [(125, 241, 0, 177, 179, 181, false, "what is 0 to 15"), (158, 30, 2, 334, 336, 338, true, "the clock would be more than 9999"), (159, 50, 2, 334, 348, 338, true, "there are 8 fogs, or one has this FROM"), (165, 10, 3, 366, 368, 370, true, "no change can be undone"), (174, 7, 3, 366, 400, 370, true, "no state is saved"), (175, 9, 1, 402, 404, 406, true, "a board or a side is 0 or 1"), (176, 9, 1, 402, 407, 406, true, "there are not so many"), (177, 10, 0, 177, 409, 181, true, "a number is out of its range"), (178, 18, 0, 177, 414, 181, true, "a cell is not on the board"), (180, 10, 2, 334, 416, 338, true, "the game is over")]
/-- the bytes of the texts -/
def ev_tb (k : Nat) : List Int32 := match k with
  | 0 => [103, 97, 109, 101]
  | 1 => [99, 108, 111, 99, 107]
  | 2 => [112, 97, 117, 115, 101]
  | 3 => [119, 97, 105, 116]
  | 4 => [116, 114, 105, 101, 115]
  | 5 => [119, 104, 105, 116, 101]
  | 6 => [107, 105, 110, 103]
  | 7 => [113, 117, 101, 101, 110]
  | 8 => [114, 111, 111, 107]
  | 9 => [98, 105, 115, 104, 111, 112]
  | 10 => [107, 110, 105, 103, 104, 116]
  | 11 => [112, 97, 119, 110]
  | 12 => [98, 108, 97, 99, 107]
  | 13 => [102, 111, 103]
  | 14 => [75, 81, 82, 66, 78, 80, 107, 113, 114, 98, 110, 112]
  | 15 => [103, 97, 109, 101, 32, 99, 108, 111, 99, 107, 32, 112, 97, 117, 115, 101, 32, 119, 97, 105, 116, 32, 116, 114, 105, 101, 115, 32, 119, 104, 105, 116, 101, 32, 98, 108, 97, 99, 107, 32, 102, 111, 103, 32, 107, 105, 110, 103, 32, 113, 117, 101, 101, 110, 32, 114, 111, 111, 107, 32, 98, 105, 115, 104, 111, 112, 32, 107, 110, 105, 103, 104, 116, 32, 112, 97, 119, 110, 32]
  | 16 => [46, 75, 81, 82, 66, 78, 80, 107, 113, 114, 98, 110, 112]
  | _ => []
def ev_pA : List Nat := [11110, 11077, 19134]
def ev_pO : Nat := 11236
def ev_pH : Nat := 11235
def ev_pV : List Nat := [14158, 17204]
def ev_S : Nat := 20
/-! the words stand where the tables say -/
def ev_ck (k : Nat) : List Cond := match k with
  | 1 => k2_sels lw_privs_1
  | 2 => k2_sels lw_privs_2
  | 3 => k2_sels lw_privs_3
  | 4 => k2_sels lw_privs_4
  | 5 => k2_sels lw_privs_5
  | 6 => k2_sels lw_privs_6
  | 7 => k2_sels lw_privs_7
  | 11 => tables_1_1
  | 12 => tables_1_2
  | 13 => tables_1_3
  | 14 => tables_1_4
  | 15 => tables_1_5
  | 16 => tables_1_6
  | 17 => tables_1_7
  | 18 => tables_1_8
  | 19 => tables_1_9
  | _ => []
def ev_w (p : Nat) : Option Cond := (ev_ck (p / 1000))[p % 1000]?
theorem ev_mem {w : Cond} {p : Nat} (h : ev_w p = some w) : w ∈ lw_tbl := by
  have h1 : w ∈ ev_ck (p / 1000) := List.mem_of_getElem? h
  generalize p / 1000 = k at h1
  have hs : ∀ l : List (MethodName × Nat), (∀ q ∈ l, q ∈ lw_privs) → w ∈ k2_sels l → w ∈ lw_tbl := fun l hl hw => by
    obtain ⟨q, hq, rfl⟩ := List.mem_map.mp hw
    exact List.mem_append_left _ (List.mem_map.mpr ⟨q, hl q hq, rfl⟩)
  unfold ev_ck at h1
  split at h1
  all_goals first
    | exact hs _ (fun q hq => by simp only [lw_privs, List.mem_append]; simp [hq]) h1
    | exact absurd h1 List.not_mem_nil
    | (refine List.mem_append_right _ ?_
       simp only [tables_1, List.mem_append]
       simp [h1])
/-- a method's code, out of its word -/
def ev_cd (k : Nat) : ByteArray := if k = ev_lawM then code else match ev_w (ev_pw k).1 with
  | some (.code _ b _ _) => b
  | some (.codeWith _ b _ _ _) => b
  | _ => ⟨#[]⟩
def ev_okM (k : Nat) : Bool := match ev_w (ev_pw k).1 with
  | some (.code y _ m r) => decide (y = ev_y k ∧ m = ev_ml k ∧ r = ev_rt k ∧ ev_hh k = [])
  | some (.codeWith y _ m r h) => decide (y = ev_y k ∧ m = ev_ml k ∧ r = ev_rt k ∧ ev_hh k = h ∧ ¬ h = [])
  | _ => false
def ev_okI (k : Nat) : Bool :=
  match ev_kd k with
  | 0 => decide (ev_w (ev_pw k).2.1 = some (.static (ev_y k)))
  | 1 => decide (ev_w (ev_pw k).2.1 = some (.instanceMethod (ev_y k))) && decide (ev_w (ev_pw k).2.2 = some (.selects (ev_y k).cls (ev_y k) (ev_y k)))
  | _ => decide (ev_w (ev_pw k).2.1 = some (.instanceMethod (ev_y k)))
def ev_okN (k : Nat) : Bool := decide ((ev_y k).cls = ev_own (ev_ci k)) && decide ((ev_y k).cls ≠ "java/lang/invoke/MethodHandle") && decide ((ev_y k).cls ≠ "java/lang/invoke/VarHandle") && plainName (ev_y k).cls && decide (ev_kd k = 2 → (ev_y k).name = "<init>") && decide (Cond.initialized (ev_y k).cls ∈ tables_1_1.take 28)
def ev_C (c : Nat) : vw_C := ev_cl.getD c ("", ev_T0, 0)
set_option maxRecDepth 100000 in
theorem ev_okM_0 : ∀ r, r < 25 → (ev_okM (25 * 0 + r) || decide (25 * 0 + r = ev_lawM ∨ ev_nm ≤ 25 * 0 + r)) = true := by decide +kernel
set_option maxRecDepth 100000 in
theorem ev_okM_1 : ∀ r, r < 25 → (ev_okM (25 * 1 + r) || decide (25 * 1 + r = ev_lawM ∨ ev_nm ≤ 25 * 1 + r)) = true := by decide +kernel
set_option maxRecDepth 100000 in
theorem ev_okM_2 : ∀ r, r < 25 → (ev_okM (25 * 2 + r) || decide (25 * 2 + r = ev_lawM ∨ ev_nm ≤ 25 * 2 + r)) = true := by decide +kernel
set_option maxRecDepth 100000 in
theorem ev_okM_3 : ∀ r, r < 25 → (ev_okM (25 * 3 + r) || decide (25 * 3 + r = ev_lawM ∨ ev_nm ≤ 25 * 3 + r)) = true := by decide +kernel
set_option maxRecDepth 100000 in
theorem ev_okM_4 : ∀ r, r < 25 → (ev_okM (25 * 4 + r) || decide (25 * 4 + r = ev_lawM ∨ ev_nm ≤ 25 * 4 + r)) = true := by decide +kernel
set_option maxRecDepth 100000 in
theorem ev_okM_5 : ∀ r, r < 25 → (ev_okM (25 * 5 + r) || decide (25 * 5 + r = ev_lawM ∨ ev_nm ≤ 25 * 5 + r)) = true := by decide +kernel
set_option maxRecDepth 100000 in
theorem ev_okM_6 : ∀ r, r < 25 → (ev_okM (25 * 6 + r) || decide (25 * 6 + r = ev_lawM ∨ ev_nm ≤ 25 * 6 + r)) = true := by decide +kernel
set_option maxRecDepth 100000 in
theorem ev_okM_7 : ∀ r, r < 25 → (ev_okM (25 * 7 + r) || decide (25 * 7 + r = ev_lawM ∨ ev_nm ≤ 25 * 7 + r)) = true := by decide +kernel
set_option maxRecDepth 100000 in
theorem ev_okM_8 : ∀ r, r < 25 → (ev_okM (25 * 8 + r) || decide (25 * 8 + r = ev_lawM ∨ ev_nm ≤ 25 * 8 + r)) = true := by decide +kernel
set_option maxRecDepth 100000 in
theorem ev_okM_9 : ∀ r, r < 25 → (ev_okM (25 * 9 + r) || decide (25 * 9 + r = ev_lawM ∨ ev_nm ≤ 25 * 9 + r)) = true := by decide +kernel
set_option maxRecDepth 100000 in
theorem ev_okM_10 : ∀ r, r < 25 → (ev_okM (25 * 10 + r) || decide (25 * 10 + r = ev_lawM ∨ ev_nm ≤ 25 * 10 + r)) = true := by decide +kernel
set_option maxRecDepth 100000 in
theorem ev_okM_11 : ∀ r, r < 25 → (ev_okM (25 * 11 + r) || decide (25 * 11 + r = ev_lawM ∨ ev_nm ≤ 25 * 11 + r)) = true := by decide +kernel
set_option maxRecDepth 100000 in
theorem ev_okM_12 : ∀ r, r < 25 → (ev_okM (25 * 12 + r) || decide (25 * 12 + r = ev_lawM ∨ ev_nm ≤ 25 * 12 + r)) = true := by decide +kernel
set_option maxRecDepth 100000 in
theorem ev_okM_13 : ∀ r, r < 25 → (ev_okM (25 * 13 + r) || decide (25 * 13 + r = ev_lawM ∨ ev_nm ≤ 25 * 13 + r)) = true := by decide +kernel
set_option maxRecDepth 100000 in
theorem ev_okM_14 : ∀ r, r < 25 → (ev_okM (25 * 14 + r) || decide (25 * 14 + r = ev_lawM ∨ ev_nm ≤ 25 * 14 + r)) = true := by decide +kernel
theorem ev_okM_all {k : Nat} (h : k < ev_nm) (hl : k ≠ ev_lawM) : ev_okM k = true := by
  have e : 25 * (k / 25) + k % 25 = k := Nat.div_add_mod k 25
  have hr : k % 25 < 25 := Nat.mod_lt _ (by decide)
  have hg : k / 25 < 15 := by have : ev_nm = 351 := rfl; omega
  have key : (ev_okM k || decide (k = ev_lawM ∨ ev_nm ≤ k)) = true := by
    rw [← e]
    generalize k / 25 = g at hg
    generalize k % 25 = r at hr
    match g, hg with
    | 0, _ => exact ev_okM_0 r hr
    | 1, _ => exact ev_okM_1 r hr
    | 2, _ => exact ev_okM_2 r hr
    | 3, _ => exact ev_okM_3 r hr
    | 4, _ => exact ev_okM_4 r hr
    | 5, _ => exact ev_okM_5 r hr
    | 6, _ => exact ev_okM_6 r hr
    | 7, _ => exact ev_okM_7 r hr
    | 8, _ => exact ev_okM_8 r hr
    | 9, _ => exact ev_okM_9 r hr
    | 10, _ => exact ev_okM_10 r hr
    | 11, _ => exact ev_okM_11 r hr
    | 12, _ => exact ev_okM_12 r hr
    | 13, _ => exact ev_okM_13 r hr
    | 14, _ => exact ev_okM_14 r hr
  rw [Bool.or_eq_true] at key
  rcases key with q | q
  · exact q
  · rcases of_decide_eq_true q with q | q
    · exact absurd q hl
    · omega
set_option maxRecDepth 100000 in
theorem ev_okI_0 : ∀ r, r < 25 → (ev_okI (25 * 0 + r) || decide (25 * 0 + r = ev_lawM ∨ ev_nm ≤ 25 * 0 + r)) = true := by decide +kernel
set_option maxRecDepth 100000 in
theorem ev_okI_1 : ∀ r, r < 25 → (ev_okI (25 * 1 + r) || decide (25 * 1 + r = ev_lawM ∨ ev_nm ≤ 25 * 1 + r)) = true := by decide +kernel
set_option maxRecDepth 100000 in
theorem ev_okI_2 : ∀ r, r < 25 → (ev_okI (25 * 2 + r) || decide (25 * 2 + r = ev_lawM ∨ ev_nm ≤ 25 * 2 + r)) = true := by decide +kernel
set_option maxRecDepth 100000 in
theorem ev_okI_3 : ∀ r, r < 25 → (ev_okI (25 * 3 + r) || decide (25 * 3 + r = ev_lawM ∨ ev_nm ≤ 25 * 3 + r)) = true := by decide +kernel
set_option maxRecDepth 100000 in
theorem ev_okI_4 : ∀ r, r < 25 → (ev_okI (25 * 4 + r) || decide (25 * 4 + r = ev_lawM ∨ ev_nm ≤ 25 * 4 + r)) = true := by decide +kernel
set_option maxRecDepth 100000 in
theorem ev_okI_5 : ∀ r, r < 25 → (ev_okI (25 * 5 + r) || decide (25 * 5 + r = ev_lawM ∨ ev_nm ≤ 25 * 5 + r)) = true := by decide +kernel
set_option maxRecDepth 100000 in
theorem ev_okI_6 : ∀ r, r < 25 → (ev_okI (25 * 6 + r) || decide (25 * 6 + r = ev_lawM ∨ ev_nm ≤ 25 * 6 + r)) = true := by decide +kernel
set_option maxRecDepth 100000 in
theorem ev_okI_7 : ∀ r, r < 25 → (ev_okI (25 * 7 + r) || decide (25 * 7 + r = ev_lawM ∨ ev_nm ≤ 25 * 7 + r)) = true := by decide +kernel
set_option maxRecDepth 100000 in
theorem ev_okI_8 : ∀ r, r < 25 → (ev_okI (25 * 8 + r) || decide (25 * 8 + r = ev_lawM ∨ ev_nm ≤ 25 * 8 + r)) = true := by decide +kernel
set_option maxRecDepth 100000 in
theorem ev_okI_9 : ∀ r, r < 25 → (ev_okI (25 * 9 + r) || decide (25 * 9 + r = ev_lawM ∨ ev_nm ≤ 25 * 9 + r)) = true := by decide +kernel
set_option maxRecDepth 100000 in
theorem ev_okI_10 : ∀ r, r < 25 → (ev_okI (25 * 10 + r) || decide (25 * 10 + r = ev_lawM ∨ ev_nm ≤ 25 * 10 + r)) = true := by decide +kernel
set_option maxRecDepth 100000 in
theorem ev_okI_11 : ∀ r, r < 25 → (ev_okI (25 * 11 + r) || decide (25 * 11 + r = ev_lawM ∨ ev_nm ≤ 25 * 11 + r)) = true := by decide +kernel
set_option maxRecDepth 100000 in
theorem ev_okI_12 : ∀ r, r < 25 → (ev_okI (25 * 12 + r) || decide (25 * 12 + r = ev_lawM ∨ ev_nm ≤ 25 * 12 + r)) = true := by decide +kernel
set_option maxRecDepth 100000 in
theorem ev_okI_13 : ∀ r, r < 25 → (ev_okI (25 * 13 + r) || decide (25 * 13 + r = ev_lawM ∨ ev_nm ≤ 25 * 13 + r)) = true := by decide +kernel
set_option maxRecDepth 100000 in
theorem ev_okI_14 : ∀ r, r < 25 → (ev_okI (25 * 14 + r) || decide (25 * 14 + r = ev_lawM ∨ ev_nm ≤ 25 * 14 + r)) = true := by decide +kernel
theorem ev_okI_all {k : Nat} (h : k < ev_nm) (hl : k ≠ ev_lawM) : ev_okI k = true := by
  have e : 25 * (k / 25) + k % 25 = k := Nat.div_add_mod k 25
  have hr : k % 25 < 25 := Nat.mod_lt _ (by decide)
  have hg : k / 25 < 15 := by have : ev_nm = 351 := rfl; omega
  have key : (ev_okI k || decide (k = ev_lawM ∨ ev_nm ≤ k)) = true := by
    rw [← e]
    generalize k / 25 = g at hg
    generalize k % 25 = r at hr
    match g, hg with
    | 0, _ => exact ev_okI_0 r hr
    | 1, _ => exact ev_okI_1 r hr
    | 2, _ => exact ev_okI_2 r hr
    | 3, _ => exact ev_okI_3 r hr
    | 4, _ => exact ev_okI_4 r hr
    | 5, _ => exact ev_okI_5 r hr
    | 6, _ => exact ev_okI_6 r hr
    | 7, _ => exact ev_okI_7 r hr
    | 8, _ => exact ev_okI_8 r hr
    | 9, _ => exact ev_okI_9 r hr
    | 10, _ => exact ev_okI_10 r hr
    | 11, _ => exact ev_okI_11 r hr
    | 12, _ => exact ev_okI_12 r hr
    | 13, _ => exact ev_okI_13 r hr
    | 14, _ => exact ev_okI_14 r hr
  rw [Bool.or_eq_true] at key
  rcases key with q | q
  · exact q
  · rcases of_decide_eq_true q with q | q
    · exact absurd q hl
    · omega
set_option maxRecDepth 100000 in
theorem ev_okN_0 : ∀ r, r < 25 → (ev_okN (25 * 0 + r) || decide (25 * 0 + r = ev_lawM ∨ ev_nm ≤ 25 * 0 + r)) = true := by decide +kernel
set_option maxRecDepth 100000 in
theorem ev_okN_1 : ∀ r, r < 25 → (ev_okN (25 * 1 + r) || decide (25 * 1 + r = ev_lawM ∨ ev_nm ≤ 25 * 1 + r)) = true := by decide +kernel
set_option maxRecDepth 100000 in
theorem ev_okN_2 : ∀ r, r < 25 → (ev_okN (25 * 2 + r) || decide (25 * 2 + r = ev_lawM ∨ ev_nm ≤ 25 * 2 + r)) = true := by decide +kernel
set_option maxRecDepth 100000 in
theorem ev_okN_3 : ∀ r, r < 25 → (ev_okN (25 * 3 + r) || decide (25 * 3 + r = ev_lawM ∨ ev_nm ≤ 25 * 3 + r)) = true := by decide +kernel
set_option maxRecDepth 100000 in
theorem ev_okN_4 : ∀ r, r < 25 → (ev_okN (25 * 4 + r) || decide (25 * 4 + r = ev_lawM ∨ ev_nm ≤ 25 * 4 + r)) = true := by decide +kernel
set_option maxRecDepth 100000 in
theorem ev_okN_5 : ∀ r, r < 25 → (ev_okN (25 * 5 + r) || decide (25 * 5 + r = ev_lawM ∨ ev_nm ≤ 25 * 5 + r)) = true := by decide +kernel
set_option maxRecDepth 100000 in
theorem ev_okN_6 : ∀ r, r < 25 → (ev_okN (25 * 6 + r) || decide (25 * 6 + r = ev_lawM ∨ ev_nm ≤ 25 * 6 + r)) = true := by decide +kernel
set_option maxRecDepth 100000 in
theorem ev_okN_7 : ∀ r, r < 25 → (ev_okN (25 * 7 + r) || decide (25 * 7 + r = ev_lawM ∨ ev_nm ≤ 25 * 7 + r)) = true := by decide +kernel
set_option maxRecDepth 100000 in
theorem ev_okN_8 : ∀ r, r < 25 → (ev_okN (25 * 8 + r) || decide (25 * 8 + r = ev_lawM ∨ ev_nm ≤ 25 * 8 + r)) = true := by decide +kernel
set_option maxRecDepth 100000 in
theorem ev_okN_9 : ∀ r, r < 25 → (ev_okN (25 * 9 + r) || decide (25 * 9 + r = ev_lawM ∨ ev_nm ≤ 25 * 9 + r)) = true := by decide +kernel
set_option maxRecDepth 100000 in
theorem ev_okN_10 : ∀ r, r < 25 → (ev_okN (25 * 10 + r) || decide (25 * 10 + r = ev_lawM ∨ ev_nm ≤ 25 * 10 + r)) = true := by decide +kernel
set_option maxRecDepth 100000 in
theorem ev_okN_11 : ∀ r, r < 25 → (ev_okN (25 * 11 + r) || decide (25 * 11 + r = ev_lawM ∨ ev_nm ≤ 25 * 11 + r)) = true := by decide +kernel
set_option maxRecDepth 100000 in
theorem ev_okN_12 : ∀ r, r < 25 → (ev_okN (25 * 12 + r) || decide (25 * 12 + r = ev_lawM ∨ ev_nm ≤ 25 * 12 + r)) = true := by decide +kernel
set_option maxRecDepth 100000 in
theorem ev_okN_13 : ∀ r, r < 25 → (ev_okN (25 * 13 + r) || decide (25 * 13 + r = ev_lawM ∨ ev_nm ≤ 25 * 13 + r)) = true := by decide +kernel
set_option maxRecDepth 100000 in
theorem ev_okN_14 : ∀ r, r < 25 → (ev_okN (25 * 14 + r) || decide (25 * 14 + r = ev_lawM ∨ ev_nm ≤ 25 * 14 + r)) = true := by decide +kernel
theorem ev_okN_all {k : Nat} (h : k < ev_nm) (hl : k ≠ ev_lawM) : ev_okN k = true := by
  have e : 25 * (k / 25) + k % 25 = k := Nat.div_add_mod k 25
  have hr : k % 25 < 25 := Nat.mod_lt _ (by decide)
  have hg : k / 25 < 15 := by have : ev_nm = 351 := rfl; omega
  have key : (ev_okN k || decide (k = ev_lawM ∨ ev_nm ≤ k)) = true := by
    rw [← e]
    generalize k / 25 = g at hg
    generalize k % 25 = r at hr
    match g, hg with
    | 0, _ => exact ev_okN_0 r hr
    | 1, _ => exact ev_okN_1 r hr
    | 2, _ => exact ev_okN_2 r hr
    | 3, _ => exact ev_okN_3 r hr
    | 4, _ => exact ev_okN_4 r hr
    | 5, _ => exact ev_okN_5 r hr
    | 6, _ => exact ev_okN_6 r hr
    | 7, _ => exact ev_okN_7 r hr
    | 8, _ => exact ev_okN_8 r hr
    | 9, _ => exact ev_okN_9 r hr
    | 10, _ => exact ev_okN_10 r hr
    | 11, _ => exact ev_okN_11 r hr
    | 12, _ => exact ev_okN_12 r hr
    | 13, _ => exact ev_okN_13 r hr
    | 14, _ => exact ev_okN_14 r hr
  rw [Bool.or_eq_true] at key
  rcases key with q | q
  · exact q
  · rcases of_decide_eq_true q with q | q
    · exact absurd q hl
    · omega
set_option maxRecDepth 100000 in
theorem ev_ft_ok0 : ∀ e ∈ (ev_ft.drop 0).take 30, ev_w e.2.2.2.2.2 = some (.fieldLink (ev_own e.1) e.2.1 ((ev_C e.2.2.1).2.1 e.2.2.2.1).1 ((ev_C e.2.2.1).2.1 e.2.2.2.1).2.1 ((ev_C e.2.2.1).2.1 e.2.2.2.1).2.2.1) ∧ e.2.2.1 < 12 ∧ e.2.2.2.1 < (ev_C e.2.2.1).2.2 := by decide +kernel
set_option maxRecDepth 100000 in
theorem ev_ft_ok1 : ∀ e ∈ (ev_ft.drop 30).take 30, ev_w e.2.2.2.2.2 = some (.fieldLink (ev_own e.1) e.2.1 ((ev_C e.2.2.1).2.1 e.2.2.2.1).1 ((ev_C e.2.2.1).2.1 e.2.2.2.1).2.1 ((ev_C e.2.2.1).2.1 e.2.2.2.1).2.2.1) ∧ e.2.2.1 < 12 ∧ e.2.2.2.1 < (ev_C e.2.2.1).2.2 := by decide +kernel
set_option maxRecDepth 100000 in
theorem ev_ft_ok2 : ∀ e ∈ (ev_ft.drop 60).take 30, ev_w e.2.2.2.2.2 = some (.fieldLink (ev_own e.1) e.2.1 ((ev_C e.2.2.1).2.1 e.2.2.2.1).1 ((ev_C e.2.2.1).2.1 e.2.2.2.1).2.1 ((ev_C e.2.2.1).2.1 e.2.2.2.1).2.2.1) ∧ e.2.2.1 < 12 ∧ e.2.2.2.1 < (ev_C e.2.2.1).2.2 := by decide +kernel
set_option maxRecDepth 100000 in
theorem ev_ft_ok3 : ∀ e ∈ (ev_ft.drop 90).take 30, ev_w e.2.2.2.2.2 = some (.fieldLink (ev_own e.1) e.2.1 ((ev_C e.2.2.1).2.1 e.2.2.2.1).1 ((ev_C e.2.2.1).2.1 e.2.2.2.1).2.1 ((ev_C e.2.2.1).2.1 e.2.2.2.1).2.2.1) ∧ e.2.2.1 < 12 ∧ e.2.2.2.1 < (ev_C e.2.2.1).2.2 := by decide +kernel
set_option maxRecDepth 100000 in
theorem ev_ft_ok4 : ∀ e ∈ (ev_ft.drop 120).take 30, ev_w e.2.2.2.2.2 = some (.fieldLink (ev_own e.1) e.2.1 ((ev_C e.2.2.1).2.1 e.2.2.2.1).1 ((ev_C e.2.2.1).2.1 e.2.2.2.1).2.1 ((ev_C e.2.2.1).2.1 e.2.2.2.1).2.2.1) ∧ e.2.2.1 < 12 ∧ e.2.2.2.1 < (ev_C e.2.2.1).2.2 := by decide +kernel
theorem ev_ft_ok : ∀ e ∈ ev_ft, ev_w e.2.2.2.2.2 = some (.fieldLink (ev_own e.1) e.2.1 ((ev_C e.2.2.1).2.1 e.2.2.2.1).1 ((ev_C e.2.2.1).2.1 e.2.2.2.1).2.1 ((ev_C e.2.2.1).2.1 e.2.2.2.1).2.2.1) ∧ e.2.2.1 < 12 ∧ e.2.2.2.1 < (ev_C e.2.2.1).2.2 := by
  intro e he
  obtain ⟨i, hi⟩ := List.getElem?_of_mem he
  by_cases h0 : i < 30
  · refine ev_ft_ok0 e (List.mem_of_getElem? (i := i - 0) ?_)
    rw [List.getElem?_take_of_lt (by omega), List.getElem?_drop, show 0 + (i - 0) = i by omega]; exact hi
  by_cases h1 : i < 60
  · refine ev_ft_ok1 e (List.mem_of_getElem? (i := i - 30) ?_)
    rw [List.getElem?_take_of_lt (by omega), List.getElem?_drop, show 30 + (i - 30) = i by omega]; exact hi
  by_cases h2 : i < 90
  · refine ev_ft_ok2 e (List.mem_of_getElem? (i := i - 60) ?_)
    rw [List.getElem?_take_of_lt (by omega), List.getElem?_drop, show 60 + (i - 60) = i by omega]; exact hi
  by_cases h3 : i < 120
  · refine ev_ft_ok3 e (List.mem_of_getElem? (i := i - 90) ?_)
    rw [List.getElem?_take_of_lt (by omega), List.getElem?_drop, show 90 + (i - 90) = i by omega]; exact hi
  by_cases h4 : i < 150
  · refine ev_ft_ok4 e (List.mem_of_getElem? (i := i - 120) ?_)
    rw [List.getElem?_take_of_lt (by omega), List.getElem?_drop, show 120 + (i - 120) = i by omega]; exact hi
  have hl := (List.getElem?_eq_some_iff.mp hi).1
  have h9 : ev_ft.length = 145 := by decide +kernel
  omega
set_option maxRecDepth 100000 in
theorem ev_ct_ok0 : ∀ e ∈ (ev_ct.drop 0).take 30, (1000 ≤ e.2.2.1 ∨ (e.2.2.1 < ev_nm ∧ ev_w e.2.2.2 = some (.methodLink (ev_own e.1) e.2.1 (ev_y e.2.2.1)))) := by decide +kernel
set_option maxRecDepth 100000 in
theorem ev_ct_ok1 : ∀ e ∈ (ev_ct.drop 30).take 30, (1000 ≤ e.2.2.1 ∨ (e.2.2.1 < ev_nm ∧ ev_w e.2.2.2 = some (.methodLink (ev_own e.1) e.2.1 (ev_y e.2.2.1)))) := by decide +kernel
set_option maxRecDepth 100000 in
theorem ev_ct_ok2 : ∀ e ∈ (ev_ct.drop 60).take 30, (1000 ≤ e.2.2.1 ∨ (e.2.2.1 < ev_nm ∧ ev_w e.2.2.2 = some (.methodLink (ev_own e.1) e.2.1 (ev_y e.2.2.1)))) := by decide +kernel
set_option maxRecDepth 100000 in
theorem ev_ct_ok3 : ∀ e ∈ (ev_ct.drop 90).take 30, (1000 ≤ e.2.2.1 ∨ (e.2.2.1 < ev_nm ∧ ev_w e.2.2.2 = some (.methodLink (ev_own e.1) e.2.1 (ev_y e.2.2.1)))) := by decide +kernel
set_option maxRecDepth 100000 in
theorem ev_ct_ok4 : ∀ e ∈ (ev_ct.drop 120).take 30, (1000 ≤ e.2.2.1 ∨ (e.2.2.1 < ev_nm ∧ ev_w e.2.2.2 = some (.methodLink (ev_own e.1) e.2.1 (ev_y e.2.2.1)))) := by decide +kernel
set_option maxRecDepth 100000 in
theorem ev_ct_ok5 : ∀ e ∈ (ev_ct.drop 150).take 30, (1000 ≤ e.2.2.1 ∨ (e.2.2.1 < ev_nm ∧ ev_w e.2.2.2 = some (.methodLink (ev_own e.1) e.2.1 (ev_y e.2.2.1)))) := by decide +kernel
set_option maxRecDepth 100000 in
theorem ev_ct_ok6 : ∀ e ∈ (ev_ct.drop 180).take 30, (1000 ≤ e.2.2.1 ∨ (e.2.2.1 < ev_nm ∧ ev_w e.2.2.2 = some (.methodLink (ev_own e.1) e.2.1 (ev_y e.2.2.1)))) := by decide +kernel
set_option maxRecDepth 100000 in
theorem ev_ct_ok7 : ∀ e ∈ (ev_ct.drop 210).take 30, (1000 ≤ e.2.2.1 ∨ (e.2.2.1 < ev_nm ∧ ev_w e.2.2.2 = some (.methodLink (ev_own e.1) e.2.1 (ev_y e.2.2.1)))) := by decide +kernel
set_option maxRecDepth 100000 in
theorem ev_ct_ok8 : ∀ e ∈ (ev_ct.drop 240).take 30, (1000 ≤ e.2.2.1 ∨ (e.2.2.1 < ev_nm ∧ ev_w e.2.2.2 = some (.methodLink (ev_own e.1) e.2.1 (ev_y e.2.2.1)))) := by decide +kernel
set_option maxRecDepth 100000 in
theorem ev_ct_ok9 : ∀ e ∈ (ev_ct.drop 270).take 30, (1000 ≤ e.2.2.1 ∨ (e.2.2.1 < ev_nm ∧ ev_w e.2.2.2 = some (.methodLink (ev_own e.1) e.2.1 (ev_y e.2.2.1)))) := by decide +kernel
set_option maxRecDepth 100000 in
theorem ev_ct_ok10 : ∀ e ∈ (ev_ct.drop 300).take 30, (1000 ≤ e.2.2.1 ∨ (e.2.2.1 < ev_nm ∧ ev_w e.2.2.2 = some (.methodLink (ev_own e.1) e.2.1 (ev_y e.2.2.1)))) := by decide +kernel
set_option maxRecDepth 100000 in
theorem ev_ct_ok11 : ∀ e ∈ (ev_ct.drop 330).take 30, (1000 ≤ e.2.2.1 ∨ (e.2.2.1 < ev_nm ∧ ev_w e.2.2.2 = some (.methodLink (ev_own e.1) e.2.1 (ev_y e.2.2.1)))) := by decide +kernel
set_option maxRecDepth 100000 in
theorem ev_ct_ok12 : ∀ e ∈ (ev_ct.drop 360).take 30, (1000 ≤ e.2.2.1 ∨ (e.2.2.1 < ev_nm ∧ ev_w e.2.2.2 = some (.methodLink (ev_own e.1) e.2.1 (ev_y e.2.2.1)))) := by decide +kernel
set_option maxRecDepth 100000 in
theorem ev_ct_ok13 : ∀ e ∈ (ev_ct.drop 390).take 30, (1000 ≤ e.2.2.1 ∨ (e.2.2.1 < ev_nm ∧ ev_w e.2.2.2 = some (.methodLink (ev_own e.1) e.2.1 (ev_y e.2.2.1)))) := by decide +kernel
set_option maxRecDepth 100000 in
theorem ev_ct_ok14 : ∀ e ∈ (ev_ct.drop 420).take 30, (1000 ≤ e.2.2.1 ∨ (e.2.2.1 < ev_nm ∧ ev_w e.2.2.2 = some (.methodLink (ev_own e.1) e.2.1 (ev_y e.2.2.1)))) := by decide +kernel
theorem ev_ct_ok : ∀ e ∈ ev_ct, (1000 ≤ e.2.2.1 ∨ (e.2.2.1 < ev_nm ∧ ev_w e.2.2.2 = some (.methodLink (ev_own e.1) e.2.1 (ev_y e.2.2.1)))) := by
  intro e he
  obtain ⟨i, hi⟩ := List.getElem?_of_mem he
  by_cases h0 : i < 30
  · refine ev_ct_ok0 e (List.mem_of_getElem? (i := i - 0) ?_)
    rw [List.getElem?_take_of_lt (by omega), List.getElem?_drop, show 0 + (i - 0) = i by omega]; exact hi
  by_cases h1 : i < 60
  · refine ev_ct_ok1 e (List.mem_of_getElem? (i := i - 30) ?_)
    rw [List.getElem?_take_of_lt (by omega), List.getElem?_drop, show 30 + (i - 30) = i by omega]; exact hi
  by_cases h2 : i < 90
  · refine ev_ct_ok2 e (List.mem_of_getElem? (i := i - 60) ?_)
    rw [List.getElem?_take_of_lt (by omega), List.getElem?_drop, show 60 + (i - 60) = i by omega]; exact hi
  by_cases h3 : i < 120
  · refine ev_ct_ok3 e (List.mem_of_getElem? (i := i - 90) ?_)
    rw [List.getElem?_take_of_lt (by omega), List.getElem?_drop, show 90 + (i - 90) = i by omega]; exact hi
  by_cases h4 : i < 150
  · refine ev_ct_ok4 e (List.mem_of_getElem? (i := i - 120) ?_)
    rw [List.getElem?_take_of_lt (by omega), List.getElem?_drop, show 120 + (i - 120) = i by omega]; exact hi
  by_cases h5 : i < 180
  · refine ev_ct_ok5 e (List.mem_of_getElem? (i := i - 150) ?_)
    rw [List.getElem?_take_of_lt (by omega), List.getElem?_drop, show 150 + (i - 150) = i by omega]; exact hi
  by_cases h6 : i < 210
  · refine ev_ct_ok6 e (List.mem_of_getElem? (i := i - 180) ?_)
    rw [List.getElem?_take_of_lt (by omega), List.getElem?_drop, show 180 + (i - 180) = i by omega]; exact hi
  by_cases h7 : i < 240
  · refine ev_ct_ok7 e (List.mem_of_getElem? (i := i - 210) ?_)
    rw [List.getElem?_take_of_lt (by omega), List.getElem?_drop, show 210 + (i - 210) = i by omega]; exact hi
  by_cases h8 : i < 270
  · refine ev_ct_ok8 e (List.mem_of_getElem? (i := i - 240) ?_)
    rw [List.getElem?_take_of_lt (by omega), List.getElem?_drop, show 240 + (i - 240) = i by omega]; exact hi
  by_cases h9 : i < 300
  · refine ev_ct_ok9 e (List.mem_of_getElem? (i := i - 270) ?_)
    rw [List.getElem?_take_of_lt (by omega), List.getElem?_drop, show 270 + (i - 270) = i by omega]; exact hi
  by_cases h10 : i < 330
  · refine ev_ct_ok10 e (List.mem_of_getElem? (i := i - 300) ?_)
    rw [List.getElem?_take_of_lt (by omega), List.getElem?_drop, show 300 + (i - 300) = i by omega]; exact hi
  by_cases h11 : i < 360
  · refine ev_ct_ok11 e (List.mem_of_getElem? (i := i - 330) ?_)
    rw [List.getElem?_take_of_lt (by omega), List.getElem?_drop, show 330 + (i - 330) = i by omega]; exact hi
  by_cases h12 : i < 390
  · refine ev_ct_ok12 e (List.mem_of_getElem? (i := i - 360) ?_)
    rw [List.getElem?_take_of_lt (by omega), List.getElem?_drop, show 360 + (i - 360) = i by omega]; exact hi
  by_cases h13 : i < 420
  · refine ev_ct_ok13 e (List.mem_of_getElem? (i := i - 390) ?_)
    rw [List.getElem?_take_of_lt (by omega), List.getElem?_drop, show 390 + (i - 390) = i by omega]; exact hi
  by_cases h14 : i < 450
  · refine ev_ct_ok14 e (List.mem_of_getElem? (i := i - 420) ?_)
    rw [List.getElem?_take_of_lt (by omega), List.getElem?_drop, show 420 + (i - 420) = i by omega]; exact hi
  have hl := (List.getElem?_eq_some_iff.mp hi).1
  have h9 : ev_ct.length = 439 := by decide +kernel
  omega
set_option maxRecDepth 100000 in
theorem ev_nt_ok0 : ∀ e ∈ (ev_nt.drop 0).take 30, ev_w e.2.2.2 = some (.classLink (ev_own e.1) e.2.1 (ev_own e.2.2.1)) ∧ e.2.2.1 < 12 := by decide +kernel
theorem ev_nt_ok : ∀ e ∈ ev_nt, ev_w e.2.2.2 = some (.classLink (ev_own e.1) e.2.1 (ev_own e.2.2.1)) ∧ e.2.2.1 < 12 := by
  intro e he
  obtain ⟨i, hi⟩ := List.getElem?_of_mem he
  by_cases h0 : i < 30
  · refine ev_nt_ok0 e (List.mem_of_getElem? (i := i - 0) ?_)
    rw [List.getElem?_take_of_lt (by omega), List.getElem?_drop, show 0 + (i - 0) = i by omega]; exact hi
  have hl := (List.getElem?_eq_some_iff.mp hi).1
  have h9 : ev_nt.length = 15 := by decide +kernel
  omega
set_option maxRecDepth 100000 in
theorem ev_xt_ok0 : ∀ e ∈ (ev_xt.drop 0).take 30, ev_w e.2.2.2 = some (.classLink (ev_own e.1) e.2.1 (ev_X.getD e.2.2.1 "")) := by decide +kernel
theorem ev_xt_ok : ∀ e ∈ ev_xt, ev_w e.2.2.2 = some (.classLink (ev_own e.1) e.2.1 (ev_X.getD e.2.2.1 "")) := by
  intro e he
  obtain ⟨i, hi⟩ := List.getElem?_of_mem he
  by_cases h0 : i < 30
  · refine ev_xt_ok0 e (List.mem_of_getElem? (i := i - 0) ?_)
    rw [List.getElem?_take_of_lt (by omega), List.getElem?_drop, show 0 + (i - 0) = i by omega]; exact hi
  have hl := (List.getElem?_eq_some_iff.mp hi).1
  have h9 : ev_xt.length = 8 := by decide +kernel
  omega
set_option maxRecDepth 100000 in
theorem ev_sr_ok0 : ∀ e ∈ (ev_sr.drop 0).take 30, ev_w e.2.2.2.2 = some (.stringRef (ev_own e.1) e.2.1 e.2.2.1) := by decide +kernel
theorem ev_sr_ok : ∀ e ∈ ev_sr, ev_w e.2.2.2.2 = some (.stringRef (ev_own e.1) e.2.1 e.2.2.1) := by
  intro e he
  obtain ⟨i, hi⟩ := List.getElem?_of_mem he
  by_cases h0 : i < 30
  · refine ev_sr_ok0 e (List.mem_of_getElem? (i := i - 0) ?_)
    rw [List.getElem?_take_of_lt (by omega), List.getElem?_drop, show 0 + (i - 0) = i by omega]; exact hi
  have hl := (List.getElem?_eq_some_iff.mp hi).1
  have h9 : ev_sr.length = 17 := by decide +kernel
  omega
theorem ev_pA_ok : ev_w (ev_pA.getD 0 0) = some (.arrayClass .int) ∧ ev_w (ev_pA.getD 1 0) = some (.arrayClass .byte) ∧ ev_w (ev_pA.getD 2 0) = some (.arrayClass .long) := by decide +kernel
theorem ev_pO_ok : ev_w ev_pO = some (.arrayOver (.object "LanternChess$Game")) ∧ ev_w ev_pH = some (.classLink (ev_own 4) 9 "LanternChess$Game") := by decide +kernel
theorem ev_pV_ok : ev_w (ev_pV.getD 0 0) = some (.fieldLink (ev_own 1) 34 "LanternChess$Field" "VALUES" "[I") ∧ ev_w (ev_pV.getD 1 0) = some (.fieldLink (ev_own 11) 118 "LanternChessModel" "VALUES" "[I") := by decide +kernel
theorem ev_fty : ∀ e ∈ ev_ft, (e.2.2.2.2.1 = 0 → ev_ty e.2.2.1 e.2.2.2.1 = .int) ∧ (e.2.2.2.2.1 = 1 → ev_ty e.2.2.1 e.2.2.2.1 = .boolean) ∧ (e.2.2.2.2.1 = 2 → refKind (ev_ty e.2.2.1 e.2.2.2.1) = true) := by decide +kernel
def ev_okK (e : Nat × Nat × Value × Nat) : Bool := match e.2.2.1 with
  | .int v => decide (ev_w e.2.2.2 = some (.constant (ev_own e.1) e.2.1 v))
  | .long v => decide (ev_w e.2.2.2 = some (.constantLong (ev_own e.1) e.2.1 v))
  | _ => false
set_option maxRecDepth 100000 in
theorem ev_kt_ok : ∀ e ∈ ev_kt, ev_okK e = true := by decide +kernel
theorem ev_tyok : ∀ c, c < 12 → ∀ k, k < (ev_C c).2.2 → parseFieldDescriptor ((ev_C c).2.1 k).2.2.1 = some (ev_ty c k) := by decide +kernel
theorem ev_nmok : ∀ c, c < 12 → ∀ a, a < (ev_C c).2.2 → ∀ b, b < (ev_C c).2.2 → a ≠ b → ((ev_C c).2.1 a).2.1 ≠ ((ev_C c).2.1 b).2.1 := by decide +kernel
theorem ev_newok : ∀ c, c < 12 → ∀ k, k < (ev_C c).2.2 → defaultValue (ev_ty c k) = vp_V (ev_new c) k := by decide +kernel
def ev_lp (c : Nat) : List Nat := match c with
  | 0 => [11121, 11123, 11125, 11127, 11129, 11131]
  | 1 => [11103, 11105, 11107]
  | 2 => [11146, 11148, 11150, 11152]
  | 3 => [11202, 11204, 11206, 11208, 11210, 11212, 11214, 11216, 11218, 11220, 11222, 11224, 11226]
  | 4 => [12002, 12004, 12006]
  | 5 => [11166, 11168, 11170]
  | 6 => [12064, 12066, 12068, 12070, 12072]
  | 7 => [12033, 12035, 12037, 12039, 12041, 12043, 12045, 12047]
  | 8 => [11056, 11058, 11060, 11062, 11064, 11066, 11068, 11070, 11072, 11074]
  | 9 => [12087, 12089, 12091, 12093]
  | 10 => [12137, 12139, 12141, 12143, 12145, 12147, 12149, 12151, 12153, 12155, 12157]
  | _ => [17024, 17026, 17028, 17030, 17032, 17034, 17036, 17038, 17040, 17042, 17044, 17046, 17048, 17050, 17052, 17054, 17056, 17058, 17060, 17062, 17064, 17066, 17068, 17070, 17072, 17074, 17076, 17078, 17080, 17082, 17084]
def ev_ip (c : Nat) : Nat := match c with
  | 0 => 11085
  | 1 => 11091
  | 2 => 11135
  | 3 => 11079
  | 4 => 11230
  | 5 => 11156
  | 6 => 12051
  | 7 => 12010
  | 8 => 11037
  | 9 => 12076
  | 10 => 11029
  | _ => 16224
set_option maxRecDepth 100000 in
theorem ev_lay0 : (ev_lp 0).map ev_w = (u_ws (ev_C 0).1 (ev_C 0).2.1 (ev_C 0).2.2).map some ∧ ev_w (ev_ip 0) = some (.instantiable (ev_C 0).1 (ev_C 0).2.2) ∧ (ev_C 0).1 = ev_own 0 ∧ Cond.initialized (ev_C 0).1 ∈ tables_1_1.take 28 := by decide +kernel
set_option maxRecDepth 100000 in
theorem ev_lay1 : (ev_lp 1).map ev_w = (u_ws (ev_C 1).1 (ev_C 1).2.1 (ev_C 1).2.2).map some ∧ ev_w (ev_ip 1) = some (.instantiable (ev_C 1).1 (ev_C 1).2.2) ∧ (ev_C 1).1 = ev_own 1 ∧ Cond.initialized (ev_C 1).1 ∈ tables_1_1.take 28 := by decide +kernel
set_option maxRecDepth 100000 in
theorem ev_lay2 : (ev_lp 2).map ev_w = (u_ws (ev_C 2).1 (ev_C 2).2.1 (ev_C 2).2.2).map some ∧ ev_w (ev_ip 2) = some (.instantiable (ev_C 2).1 (ev_C 2).2.2) ∧ (ev_C 2).1 = ev_own 2 ∧ Cond.initialized (ev_C 2).1 ∈ tables_1_1.take 28 := by decide +kernel
set_option maxRecDepth 100000 in
theorem ev_lay3 : (ev_lp 3).map ev_w = (u_ws (ev_C 3).1 (ev_C 3).2.1 (ev_C 3).2.2).map some ∧ ev_w (ev_ip 3) = some (.instantiable (ev_C 3).1 (ev_C 3).2.2) ∧ (ev_C 3).1 = ev_own 3 ∧ Cond.initialized (ev_C 3).1 ∈ tables_1_1.take 28 := by decide +kernel
set_option maxRecDepth 100000 in
theorem ev_lay4 : (ev_lp 4).map ev_w = (u_ws (ev_C 4).1 (ev_C 4).2.1 (ev_C 4).2.2).map some ∧ ev_w (ev_ip 4) = some (.instantiable (ev_C 4).1 (ev_C 4).2.2) ∧ (ev_C 4).1 = ev_own 4 ∧ Cond.initialized (ev_C 4).1 ∈ tables_1_1.take 28 := by decide +kernel
set_option maxRecDepth 100000 in
theorem ev_lay5 : (ev_lp 5).map ev_w = (u_ws (ev_C 5).1 (ev_C 5).2.1 (ev_C 5).2.2).map some ∧ ev_w (ev_ip 5) = some (.instantiable (ev_C 5).1 (ev_C 5).2.2) ∧ (ev_C 5).1 = ev_own 5 ∧ Cond.initialized (ev_C 5).1 ∈ tables_1_1.take 28 := by decide +kernel
set_option maxRecDepth 100000 in
theorem ev_lay6 : (ev_lp 6).map ev_w = (u_ws (ev_C 6).1 (ev_C 6).2.1 (ev_C 6).2.2).map some ∧ ev_w (ev_ip 6) = some (.instantiable (ev_C 6).1 (ev_C 6).2.2) ∧ (ev_C 6).1 = ev_own 6 ∧ Cond.initialized (ev_C 6).1 ∈ tables_1_1.take 28 := by decide +kernel
set_option maxRecDepth 100000 in
theorem ev_lay7 : (ev_lp 7).map ev_w = (u_ws (ev_C 7).1 (ev_C 7).2.1 (ev_C 7).2.2).map some ∧ ev_w (ev_ip 7) = some (.instantiable (ev_C 7).1 (ev_C 7).2.2) ∧ (ev_C 7).1 = ev_own 7 ∧ Cond.initialized (ev_C 7).1 ∈ tables_1_1.take 28 := by decide +kernel
set_option maxRecDepth 100000 in
theorem ev_lay8 : (ev_lp 8).map ev_w = (u_ws (ev_C 8).1 (ev_C 8).2.1 (ev_C 8).2.2).map some ∧ ev_w (ev_ip 8) = some (.instantiable (ev_C 8).1 (ev_C 8).2.2) ∧ (ev_C 8).1 = ev_own 8 ∧ Cond.initialized (ev_C 8).1 ∈ tables_1_1.take 28 := by decide +kernel
set_option maxRecDepth 100000 in
theorem ev_lay9 : (ev_lp 9).map ev_w = (u_ws (ev_C 9).1 (ev_C 9).2.1 (ev_C 9).2.2).map some ∧ ev_w (ev_ip 9) = some (.instantiable (ev_C 9).1 (ev_C 9).2.2) ∧ (ev_C 9).1 = ev_own 9 ∧ Cond.initialized (ev_C 9).1 ∈ tables_1_1.take 28 := by decide +kernel
set_option maxRecDepth 100000 in
theorem ev_lay10 : (ev_lp 10).map ev_w = (u_ws (ev_C 10).1 (ev_C 10).2.1 (ev_C 10).2.2).map some ∧ ev_w (ev_ip 10) = some (.instantiable (ev_C 10).1 (ev_C 10).2.2) ∧ (ev_C 10).1 = ev_own 10 ∧ Cond.initialized (ev_C 10).1 ∈ tables_1_1.take 28 := by decide +kernel
set_option maxRecDepth 100000 in
theorem ev_lay11 : (ev_lp 11).map ev_w = (u_ws (ev_C 11).1 (ev_C 11).2.1 (ev_C 11).2.2).map some ∧ ev_w (ev_ip 11) = some (.instantiable (ev_C 11).1 (ev_C 11).2.2) ∧ (ev_C 11).1 = ev_own 11 ∧ Cond.initialized (ev_C 11).1 ∈ tables_1_1.take 28 := by decide +kernel
theorem ev_lay : ∀ c, c < 12 → (ev_lp c).map ev_w = (u_ws (ev_C c).1 (ev_C c).2.1 (ev_C c).2.2).map some ∧ ev_w (ev_ip c) = some (.instantiable (ev_C c).1 (ev_C c).2.2) ∧ (ev_C c).1 = ev_own c ∧ Cond.initialized (ev_C c).1 ∈ tables_1_1.take 28 := by
  intro c h
  match c, h with
  | 0, _ => exact ev_lay0
  | 1, _ => exact ev_lay1
  | 2, _ => exact ev_lay2
  | 3, _ => exact ev_lay3
  | 4, _ => exact ev_lay4
  | 5, _ => exact ev_lay5
  | 6, _ => exact ev_lay6
  | 7, _ => exact ev_lay7
  | 8, _ => exact ev_lay8
  | 9, _ => exact ev_lay9
  | 10, _ => exact ev_lay10
  | 11, _ => exact ev_lay11
theorem ev_wsin {c : Nat} (h : c < 12) : ∀ w ∈ u_ws (ev_C c).1 (ev_C c).2.1 (ev_C c).2.2, w ∈ lw_tbl := by
  intro w hw
  have h1 := (ev_lay c h).1
  have h2 : some w ∈ (ev_lp c).map ev_w := by rw [h1]; exact List.mem_map.mpr ⟨w, hw, rfl⟩
  obtain ⟨p, -, hp⟩ := List.mem_map.mp h2
  exact ev_mem hp
theorem ev_init {w : Cond} (h : w ∈ tables_1_1.take 28) : w ∈ lw_tbl := List.mem_append_right _ (List.mem_append_left _ (List.mem_of_mem_take h))
