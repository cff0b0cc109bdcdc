/-! the program as tables: classes, methods, links, constants, rooms (written by a program out of the listing) -/
def ev_N : List String := ["LanternChess$Board", "LanternChess$Field", "LanternChess$Fogs", "LanternChess$Game", "LanternChess$History", "LanternChess$Log", "LanternChess$MoveList", "LanternChess$Sending", "LanternChess$SetupText", "LanternChess$Walk", "LanternChess", "LanternChess$Log", "LanternChessLaw", "java/util/Arrays", "java/lang/Integer"]
def ev_own (k : Nat) : String := ev_N.getD k ""
def ev_T0 : u_T := fun k => match k with
  | 0 => ("LanternChess$Board", "now", "LLanternChess$Field;", true)
  | 1 => ("LanternChess$Board", "before", "LLanternChess$Field;", true)
  | 2 => ("LanternChess$Board", "made", "I", false)
  | 3 => ("LanternChess$Board", "latestSide", "I", false)
  | 4 => ("LanternChess$Board", "latestFrom", "I", false)
  | _ => ("LanternChess$Board", "latestTo", "I", false)
def ev_T1 : u_T := fun k => match k with
  | 0 => ("LanternChess$Field", "cells", "[I", true)
  | 1 => ("LanternChess$Field", "width", "I", false)
  | _ => ("LanternChess$Field", "height", "I", false)
def ev_T2 : u_T := fun k => match k with
  | 0 => ("LanternChess$Fogs", "first", "[I", true)
  | 1 => ("LanternChess$Fogs", "lasting", "[I", true)
  | 2 => ("LanternChess$Fogs", "every", "[I", true)
  | _ => ("LanternChess$Fogs", "size", "I", false)
def ev_T3 : u_T := fun k => match k with
  | 0 => ("LanternChess$Game", "white", "LLanternChess$Board;", true)
  | 1 => ("LanternChess$Game", "black", "LLanternChess$Board;", true)
  | 2 => ("LanternChess$Game", "fogs", "LLanternChess$Fogs;", true)
  | 3 => ("LanternChess$Game", "sendings", "LLanternChess$Log;", true)
  | 4 => ("LanternChess$Game", "answers", "LLanternChess$Log;", true)
  | 5 => ("LanternChess$Game", "time", "I", false)
  | 6 => ("LanternChess$Game", "toMove", "I", false)
  | 7 => ("LanternChess$Game", "outcome", "I", false)
  | 8 => ("LanternChess$Game", "pause", "I", false)
  | 9 => ("LanternChess$Game", "waiting", "I", false)
  | 10 => ("LanternChess$Game", "tries", "I", false)
  | 11 => ("LanternChess$Game", "whiteClock", "I", false)
  | _ => ("LanternChess$Game", "blackClock", "I", false)
def ev_T4 : u_T := fun k => match k with
  | 0 => ("LanternChess$History", "games", "[LLanternChess$Game;", true)
  | 1 => ("LanternChess$History", "next", "I", false)
  | _ => ("LanternChess$History", "size", "I", false)
def ev_T5 : u_T := fun k => match k with
  | 0 => ("LanternChess$Log", "numbers", "[I", true)
  | 1 => ("LanternChess$Log", "kept", "I", false)
  | _ => ("LanternChess$Log", "total", "I", false)
def ev_T6 : u_T := fun k => match k with
  | 0 => ("LanternChess$MoveList", "froms", "[I", true)
  | 1 => ("LanternChess$MoveList", "tos", "[I", true)
  | 2 => ("LanternChess$MoveList", "worths", "[I", true)
  | 3 => ("LanternChess$MoveList", "behind", "LLanternChess$Field;", true)
  | _ => ("LanternChess$MoveList", "size", "I", false)
def ev_T7 : u_T := fun k => match k with
  | 0 => ("LanternChess$Sending", "flashes", "[I", true)
  | 1 => ("LanternChess$Sending", "looks", "[I", true)
  | 2 => ("LanternChess$Sending", "messageLength", "I", false)
  | 3 => ("LanternChess$Sending", "reading", "I", false)
  | 4 => ("LanternChess$Sending", "answer", "I", false)
  | 5 => ("LanternChess$Sending", "answerSeen", "I", false)
  | 6 => ("LanternChess$Sending", "isAnswered", "Z", false)
  | _ => ("LanternChess$Sending", "ticks", "I", false)
def ev_T8 : u_T := fun k => match k with
  | 0 => ("LanternChess$SetupText", "text", "[B", true)
  | 1 => ("LanternChess$SetupText", "length", "I", false)
  | 2 => ("LanternChess$SetupText", "code", "I", false)
  | 3 => ("LanternChess$SetupText", "offset", "I", false)
  | 4 => ("LanternChess$SetupText", "pieces", "I", false)
  | 5 => ("LanternChess$SetupText", "told", "I", false)
  | 6 => ("LanternChess$SetupText", "position", "I", false)
  | 7 => ("LanternChess$SetupText", "tokenKind", "I", false)
  | 8 => ("LanternChess$SetupText", "tokenStart", "I", false)
  | _ => ("LanternChess$SetupText", "takenStart", "I", false)
def ev_T9 : u_T := fun k => match k with
  | 0 => ("LanternChess$Walk", "others", "LLanternChess$Field;", true)
  | 1 => ("LanternChess$Walk", "distance", "[I", true)
  | 2 => ("LanternChess$Walk", "queue", "[I", true)
  | _ => ("LanternChess$Walk", "queued", "I", false)
def ev_T10 : u_T := fun k => match k with
  | 0 => ("LanternChess", "setup", "LLanternChess$SetupText;", true)
  | 1 => ("LanternChess", "game", "LLanternChess$Game;", true)
  | 2 => ("LanternChess", "trial", "LLanternChess$Game;", true)
  | 3 => ("LanternChess", "saved", "LLanternChess$Game;", true)
  | 4 => ("LanternChess", "isSaved", "Z", false)
  | 5 => ("LanternChess", "history", "LLanternChess$History;", true)
  | 6 => ("LanternChess", "foretold", "LLanternChess$Sending;", true)
  | 7 => ("LanternChess", "list", "LLanternChess$MoveList;", true)
  | 8 => ("LanternChess", "walk", "LLanternChess$Walk;", true)
  | 9 => ("LanternChess", "output", "[B", true)
  | _ => ("LanternChess", "outputLength", "I", false)
def ev_T11 : u_T := fun k => match k with
  | 0 => ("LanternChess$Log", "numbers", "[I", true)
  | 1 => ("LanternChess$Log", "kept", "I", false)
  | _ => ("LanternChess$Log", "total", "I", false)
def ev_y0 : Nat → FieldType := fun k => match k with
  | 0 => .object "LanternChess$Field"
  | 1 => .object "LanternChess$Field"
  | 2 => .int
  | 3 => .int
  | 4 => .int
  | _ => .int
def ev_y1 : Nat → FieldType := fun k => match k with
  | 0 => .array .int
  | 1 => .int
  | _ => .int
def ev_y2 : Nat → FieldType := fun k => match k with
  | 0 => .array .int
  | 1 => .array .int
  | 2 => .array .int
  | _ => .int
def ev_y3 : Nat → FieldType := fun k => match k with
  | 0 => .object "LanternChess$Board"
  | 1 => .object "LanternChess$Board"
  | 2 => .object "LanternChess$Fogs"
  | 3 => .object "LanternChess$Log"
  | 4 => .object "LanternChess$Log"
  | 5 => .int
  | 6 => .int
  | 7 => .int
  | 8 => .int
  | 9 => .int
  | 10 => .int
  | 11 => .int
  | _ => .int
def ev_y4 : Nat → FieldType := fun k => match k with
  | 0 => .array (.object "LanternChess$Game")
  | 1 => .int
  | _ => .int
def ev_y5 : Nat → FieldType := fun k => match k with
  | 0 => .array .int
  | 1 => .int
  | _ => .int
def ev_y6 : Nat → FieldType := fun k => match k with
  | 0 => .array .int
  | 1 => .array .int
  | 2 => .array .int
  | 3 => .object "LanternChess$Field"
  | _ => .int
def ev_y7 : Nat → FieldType := fun k => match k with
  | 0 => .array .int
  | 1 => .array .int
  | 2 => .int
  | 3 => .int
  | 4 => .int
  | 5 => .int
  | 6 => .boolean
  | _ => .int
def ev_y8 : Nat → FieldType := fun k => match k with
  | 0 => .array .byte
  | 1 => .int
  | 2 => .int
  | 3 => .int
  | 4 => .int
  | 5 => .int
  | 6 => .int
  | 7 => .int
  | 8 => .int
  | _ => .int
def ev_y9 : Nat → FieldType := fun k => match k with
  | 0 => .object "LanternChess$Field"
  | 1 => .array .int
  | 2 => .array .int
  | _ => .int
def ev_y10 : Nat → FieldType := fun k => match k with
  | 0 => .object "LanternChess$SetupText"
  | 1 => .object "LanternChess$Game"
  | 2 => .object "LanternChess$Game"
  | 3 => .object "LanternChess$Game"
  | 4 => .boolean
  | 5 => .object "LanternChess$History"
  | 6 => .object "LanternChess$Sending"
  | 7 => .object "LanternChess$MoveList"
  | 8 => .object "LanternChess$Walk"
  | 9 => .array .byte
  | _ => .int
def ev_y11 : Nat → FieldType := fun k => match k with
  | 0 => .array .int
  | 1 => .int
  | _ => .int
abbrev ev_cl : List vw_C := [("LanternChess$Board", ev_T0, 6), ("LanternChess$Field", ev_T1, 3), ("LanternChess$Fogs", ev_T2, 4), ("LanternChess$Game", ev_T3, 13), ("LanternChess$History", ev_T4, 3), ("LanternChess$Log", ev_T5, 3), ("LanternChess$MoveList", ev_T6, 5), ("LanternChess$Sending", ev_T7, 8), ("LanternChess$SetupText", ev_T8, 10), ("LanternChess$Walk", ev_T9, 4), ("LanternChess", ev_T10, 11), ("LanternChess$Log", ev_T11, 3)]
def ev_ty (k : Nat) : Nat → FieldType := match k with
  | 0 => ev_y0
  | 1 => ev_y1
  | 2 => ev_y2
  | 3 => ev_y3
  | 4 => ev_y4
  | 5 => ev_y5
  | 6 => ev_y6
  | 7 => ev_y7
  | 8 => ev_y8
  | 9 => ev_y9
  | 10 => ev_y10
  | _ => ev_y11
/-- a new object: its fields -/
def ev_new (k : Nat) : List Value := match k with
  | 0 => [.null, .null, .int 0, .int 0, .int 0, .int 0]
  | 1 => [.null, .int 0, .int 0]
  | 2 => [.null, .null, .null, .int 0]
  | 3 => [.null, .null, .null, .null, .null, .int 0, .int 0, .int 0, .int 0, .int 0, .int 0, .int 0, .int 0]
  | 4 => [.null, .int 0, .int 0]
  | 5 => [.null, .int 0, .int 0]
  | 6 => [.null, .null, .null, .null, .int 0]
  | 7 => [.null, .null, .int 0, .int 0, .int 0, .int 0, .int 0, .int 0]
  | 8 => [.null, .int 0, .int 0, .int 0, .int 0, .int 0, .int 0, .int 0, .int 0, .int 0]
  | 9 => [.null, .null, .null, .int 0]
  | 10 => [.null, .null, .null, .null, .int 0, .null, .null, .null, .null, .null, .int 0]
  | _ => [.null, .int 0, .int 0]
/-- a method: name, code, locals, answer, class, kind (0 static, 1 of an object, 2 a constructor), depth, locals of its callees, cells, slots, places of its words, handlers -/
abbrev ev_R : Type := MethodName × Nat × Option FieldType × Nat × Nat × (Nat × Nat × Nat × Nat) × (Nat × Nat × Nat) × List (Nat × Nat × Nat × Nat) × List (Nat × Nat × Nat × Nat × Nat)
def ev_mt0 : List ev_R := [
(⟨"LanternChess$Board", "<init>", "()V"⟩, 1, none, 0, 2, (3, 50, 4, 134), (11090, 11089, 0), [], []),
  (⟨"LanternChess$Board", "begin", "(II)V"⟩, 3, none, 0, 1, (3, 75, 0, 0), (12105, 12103, 12104), [], []),
  (⟨"LanternChess$Board", "copyFrom", "(LLanternChess$Board;)V"⟩, 2, none, 0, 1, (3, 81, 0, 0), (13116, 13114, 13115), [], []),
  (⟨"LanternChess$Board", "carryOut", "(III)V"⟩, 4, none, 0, 1, (5, 118, 0, 0), (16222, 16220, 16221), [], []),
  (⟨"LanternChess$Board", "putRight", "(II)V"⟩, 3, none, 0, 1, (5, 118, 0, 0), (16227, 16226, 2013), [], []),
  (⟨"LanternChess$Board", "turnFlashes", "()I"⟩, 1, some (.int), 0, 1, (1, 30, 0, 0), (16108, 16106, 16107), [], []),
  (⟨"LanternChess$Board", "readingOf", "(IIII)I"⟩, 5, some (.int), 0, 1, (4, 112, 0, 0), (16151, 16149, 16150), [], []),
  (⟨"LanternChess$Board", "totalBehind", "(III)I"⟩, 4, some (.int), 0, 1, (5, 117, 0, 0), (16157, 16155, 16156), [], []),
  (⟨"LanternChess$Board", "follow", "(IIII)V"⟩, 5, none, 0, 1, (6, 141, 0, 0), (16218, 16216, 16217), [], []),
  (⟨"LanternChess$Field", "<init>", "()V"⟩, 1, none, 1, 2, (2, 30, 1, 64), (11096, 11095, 0), [], []),
  (⟨"LanternChess$Field", "begin", "(II)V"⟩, 3, none, 1, 1, (2, 53, 0, 0), (12109, 12107, 12108), [], []),
  (⟨"LanternChess$Field", "copyFrom", "(LLanternChess$Field;)V"⟩, 2, none, 1, 1, (2, 60, 0, 0), (13120, 13118, 13119), [], []),
  (⟨"LanternChess$Field", "cellOf", "(II)I"⟩, 2, some (.int), 1, 0, (1, 30, 0, 0), (12119, 12118, 0), [], []),
  (⟨"LanternChess$Field", "columnOf", "(I)I"⟩, 1, some (.int), 1, 0, (1, 30, 0, 0), (15177, 15176, 0), [], []),
  (⟨"LanternChess$Field", "rowOf", "(I)I"⟩, 1, some (.int), 1, 0, (1, 30, 0, 0), (15180, 15179, 0), [], []),
  (⟨"LanternChess$Field", "hasCell", "(II)Z"⟩, 3, some (.boolean), 1, 1, (1, 30, 0, 0), (15165, 15163, 15164), [], []),
  (⟨"LanternChess$Field", "numberOf", "(I)I"⟩, 2, some (.int), 1, 1, (1, 30, 0, 0), (13040, 13038, 13039), [], []),
  (⟨"LanternChess$Field", "at", "(I)I"⟩, 2, some (.int), 1, 1, (1, 30, 0, 0), (14117, 14115, 14116), [], []),
  (⟨"LanternChess$Field", "put", "(II)V"⟩, 3, none, 1, 1, (1, 30, 0, 0), (12127, 12125, 12126), [], []),
  (⟨"LanternChess$Field", "isOf", "(II)Z"⟩, 2, some (.boolean), 1, 0, (1, 30, 0, 0), (15174, 15173, 0), [], []),
  (⟨"LanternChess$Field", "valueOf", "(I)I"⟩, 2, some (.int), 1, 0, (1, 30, 0, 0), (15235, 15234, 0), [], []),
  (⟨"LanternChess$Field", "allows", "(III)Z"⟩, 6, some (.boolean), 1, 1, (3, 87, 0, 0), (15170, 15168, 15169), [], []),
  (⟨"LanternChess$Field", "reaches", "(IIIZ)Z"⟩, 13, some (.boolean), 1, 1, (2, 55, 0, 0), (15185, 15183, 15184), [], []),
  (⟨"LanternChess$Field", "isClear", "(III)Z"⟩, 6, some (.boolean), 1, 1, (1, 30, 0, 0), (15196, 15195, 2003), [], []),
  (⟨"LanternChess$Field", "becomesQueen", "(II)Z"⟩, 3, some (.boolean), 1, 1, (2, 50, 0, 0), (16001, 16000, 2006), [], []),
  (⟨"LanternChess$Field", "arriving", "(II)I"⟩, 4, some (.int), 1, 1, (3, 72, 0, 0), (16015, 16014, 2007), [], []),
  (⟨"LanternChess$Field", "carryOut", "(II)V"⟩, 4, none, 1, 1, (4, 95, 0, 0), (16011, 16009, 16010), [], []),
  (⟨"LanternChess$Field", "gainOf", "(II)I"⟩, 3, some (.int), 1, 1, (3, 72, 0, 0), (15232, 15230, 15231), [], []),
  (⟨"LanternChess$Field", "greatestGain", "(I)I"⟩, 6, some (.int), 1, 1, (4, 112, 0, 0), (16020, 16018, 16019), [], []),
  (⟨"LanternChess$Field", "attacksOn", "(II)I"⟩, 5, some (.int), 1, 1, (3, 87, 0, 0), (16068, 16066, 16067), [], []),
  (⟨"LanternChess$Field", "isKingExposed", "(I)Z"⟩, 3, some (.boolean), 1, 1, (4, 111, 0, 0), (16064, 16062, 16063), [], []),
  (⟨"LanternChess$Field", "columnOf", "(I)I"⟩, 1, some (.int), 1, 0, (1, 30, 0, 0), (15177, 15176, 0), [], []),
  (⟨"LanternChess$Field", "weightOf", "(II)I"⟩, 3, some (.int), 1, 1, (2, 51, 0, 0), (13036, 13035, 1001), [], []),
  (⟨"LanternChess$Field", "total", "()I"⟩, 3, some (.int), 1, 1, (3, 73, 0, 0), (13032, 13030, 13031), [], []),
  (⟨"LanternChess$Field", "totalWith", "(II)I"⟩, 3, some (.int), 1, 1, (4, 95, 0, 0), (16161, 16159, 16160), [], []),
  (⟨"LanternChess$Field", "differences", "(LLanternChess$Field;)I"⟩, 4, some (.int), 1, 1, (1, 30, 0, 0), (13056, 13054, 13055), [], []),
  (⟨"LanternChess$Field", "firstDifference", "(LLanternChess$Field;)I"⟩, 3, some (.int), 1, 1, (2, 51, 0, 0), (13064, 13062, 13063), [], []),
  (⟨"LanternChess$Fogs", "<init>", "()V"⟩, 1, none, 2, 2, (2, 30, 3, 24), (11140, 11139, 0), [], []),
  (⟨"LanternChess$Fogs", "copyFrom", "(LLanternChess$Fogs;)V"⟩, 2, none, 2, 1, (2, 60, 0, 0), (13127, 13125, 13126), [], []),
  (⟨"LanternChess$Fogs", "isFull", "()Z"⟩, 1, some (.boolean), 2, 1, (1, 30, 0, 0), (14128, 14126, 14127), [], [])]
def ev_mt1 : List ev_R := [
(⟨"LanternChess$Fogs", "beginsAt", "(I)Z"⟩, 3, some (.boolean), 2, 1, (1, 30, 0, 0), (14132, 14130, 14131), [], []),
  (⟨"LanternChess$Fogs", "put", "(III)I"⟩, 6, some (.int), 2, 1, (1, 30, 0, 0), (14136, 14134, 14135), [], []),
  (⟨"LanternChess$Field", "columnOf", "(I)I"⟩, 1, some (.int), 1, 0, (1, 30, 0, 0), (15177, 15176, 0), [], []),
  (⟨"LanternChess$Field", "columnOf", "(I)I"⟩, 1, some (.int), 1, 0, (1, 30, 0, 0), (15177, 15176, 0), [], []),
  (⟨"LanternChess$Fogs", "hides", "(I)Z"⟩, 4, some (.boolean), 2, 1, (1, 30, 0, 0), (16129, 16127, 16128), [], []),
  (⟨"LanternChess$Fogs", "clearOnes", "(II)I"⟩, 5, some (.int), 2, 1, (2, 53, 0, 0), (16125, 16123, 16124), [], []),
  (⟨"LanternChess$Field", "columnOf", "(I)I"⟩, 1, some (.int), 1, 0, (1, 30, 0, 0), (15177, 15176, 0), [], []),
  (⟨"LanternChess$Game", "<init>", "()V"⟩, 1, none, 3, 2, (4, 70, 18, 634), (11084, 11083, 0), [], []),
  (⟨"LanternChess$Game", "begin", "(II)V"⟩, 3, none, 3, 1, (4, 97, 0, 0), (12101, 12099, 12100), [], []),
  (⟨"LanternChess$Game", "copyFrom", "(LLanternChess$Game;)V"⟩, 2, none, 3, 1, (4, 102, 0, 0), (13112, 13110, 13111), [], []),
  (⟨"LanternChess$Game", "place", "(II)V"⟩, 3, none, 3, 1, (2, 52, 0, 0), (12123, 12121, 12122), [], []),
  (⟨"LanternChess$Game", "boardOf", "(I)LLanternChess$Board;"⟩, 2, some ((Jvm.ClassFile.FieldType.object "LanternChess$Board")), 3, 1, (1, 30, 0, 0), (13028, 13026, 13027), [], []),
  (⟨"LanternChess$Game", "clockOf", "(I)I"⟩, 2, some (.int), 3, 1, (1, 30, 0, 0), (13020, 13018, 13019), [], []),
  (⟨"LanternChess$Game", "setClock", "(II)V"⟩, 3, none, 3, 1, (1, 30, 0, 0), (13154, 13152, 13153), [], []),
  (⟨"LanternChess$Game", "differences", "()I"⟩, 1, some (.int), 3, 1, (2, 53, 0, 0), (13052, 13050, 13051), [], []),
  (⟨"LanternChess$Game", "firstDifference", "()I"⟩, 1, some (.int), 3, 1, (3, 73, 0, 0), (13060, 13058, 13059), [], []),
  (⟨"LanternChess$Game", "canMove", "(II)Z"⟩, 3, some (.boolean), 3, 1, (4, 112, 0, 0), (16181, 16179, 16180), [], []),
  (⟨"LanternChess$Game", "endWith", "(I)V"⟩, 2, none, 3, 1, (1, 30, 0, 0), (13140, 13138, 13139), [], []),
  (⟨"LanternChess$Game", "spend", "(I)Z"⟩, 4, some (.boolean), 3, 1, (2, 52, 0, 0), (16187, 16185, 16186), [], []),
  (⟨"LanternChess$Game", "foretell", "(LLanternChess$Sending;III)V"⟩, 8, none, 3, 1, (6, 140, 0, 0), (16103, 16101, 16102), [], []),
  (⟨"LanternChess$Game", "tell", "(LLanternChess$Sending;II)I"⟩, 7, some (.int), 3, 1, (7, 167, 0, 0), (16177, 16175, 16176), [], []),
  (⟨"LanternChess$Game", "noteSending", "(LLanternChess$Sending;I)V"⟩, 3, none, 3, 1, (3, 80, 0, 0), (16195, 16194, 2012), [], []),
  (⟨"LanternChess$Game", "finishMove", "(III)V"⟩, 7, none, 3, 1, (6, 141, 0, 0), (16231, 16230, 2014), [], []),
  (⟨"LanternChess$History", "<init>", "()V"⟩, 2, none, 4, 2, (5, 90, 153, 5184), (11235, 11234, 0), [], []),
  (⟨"LanternChess$History", "forget", "()V"⟩, 1, none, 4, 1, (1, 30, 0, 0), (13192, 13190, 13191), [], []),
  (⟨"LanternChess$History", "keep", "(LLanternChess$Game;)V"⟩, 3, none, 4, 1, (5, 123, 0, 0), (13108, 13106, 13107), [], []),
  (⟨"LanternChess$History", "takeBack", "(LLanternChess$Game;)V"⟩, 3, none, 4, 1, (5, 123, 0, 0), (13178, 13176, 13177), [], []),
  (⟨"LanternChess$Log", "<init>", "()V"⟩, 1, none, 5, 2, (2, 30, 1, 160), (11161, 11160, 0), [], []),
  (⟨"LanternChess$Log", "copyFrom", "(LLanternChess$Log;)V"⟩, 2, none, 5, 1, (2, 60, 0, 0), (13132, 13130, 13131), [], []),
  (⟨"LanternChess$Log", "clear", "()V"⟩, 1, none, 5, 1, (1, 30, 0, 0), (12116, 12114, 12115), [], []),
  (⟨"LanternChess$Log", "openRow", "()V"⟩, 1, none, 5, 1, (2, 60, 0, 0), (16199, 16197, 16198), [], []),
  (⟨"LanternChess$Log", "note", "(II)V"⟩, 4, none, 5, 1, (1, 30, 0, 0), (16203, 16201, 16202), [], []),
  (⟨"LanternChess$Log", "partOf", "(II)I"⟩, 4, some (.int), 5, 1, (1, 30, 0, 0), (13076, 13074, 13075), [], []),
  (⟨"LanternChess$Log", "partSum", "(I)I"⟩, 4, some (.int), 5, 1, (2, 53, 0, 0), (13072, 13070, 13071), [], []),
  (⟨"LanternChess$MoveList", "<init>", "()V"⟩, 1, none, 6, 2, (3, 50, 5, 2578), (12056, 12055, 0), [], []),
  (⟨"LanternChess$MoveList", "fill", "(LLanternChess$Field;I)V"⟩, 4, none, 6, 1, (5, 136, 0, 0), (15204, 15202, 15203), [], []),
  (⟨"LanternChess$MoveList", "fillFrom", "(LLanternChess$Field;II)V"⟩, 5, none, 6, 1, (4, 112, 0, 0), (15210, 15209, 2004), [], []),
  (⟨"LanternChess$MoveList", "fromOf", "(I)I"⟩, 2, some (.int), 6, 1, (1, 30, 0, 0), (15223, 15221, 15222), [], []),
  (⟨"LanternChess$MoveList", "toOf", "(I)I"⟩, 2, some (.int), 6, 1, (1, 30, 0, 0), (15227, 15225, 15226), [], []),
  (⟨"LanternChess$MoveList", "worthOf", "(LLanternChess$Field;III)I"⟩, 6, some (.int), 6, 1, (5, 137, 0, 0), (16005, 16003, 16004), [], [])]
def ev_mt2 : List ev_R := [
(⟨"LanternChess$MoveList", "weigh", "(LLanternChess$Field;I)V"⟩, 4, none, 6, 1, (6, 162, 0, 0), (16082, 16080, 16081), [], []),
  (⟨"LanternChess$MoveList", "placeOf", "(I)I"⟩, 3, some (.int), 6, 1, (2, 53, 0, 0), (16087, 16085, 16086), [], []),
  (⟨"LanternChess$MoveList", "rankOf", "(I)I"⟩, 4, some (.int), 6, 1, (1, 30, 0, 0), (16091, 16090, 2010), [], []),
  (⟨"LanternChess$Sending", "<init>", "()V"⟩, 1, none, 7, 2, (2, 30, 2, 12), (12015, 12014, 0), [], []),
  (⟨"LanternChess$Sending", "flashesOf", "(I)I"⟩, 2, some (.int), 7, 1, (1, 30, 0, 0), (16169, 16167, 16168), [], []),
  (⟨"LanternChess$Sending", "lookOf", "(I)I"⟩, 2, some (.int), 7, 1, (1, 30, 0, 0), (16138, 16136, 16137), [], []),
  (⟨"LanternChess$Sending", "compose", "(III)V"⟩, 4, none, 7, 1, (2, 52, 0, 0), (16112, 16110, 16111), [], []),
  (⟨"LanternChess$Sending", "checkOf", "([I)I"⟩, 3, some (.int), 7, 0, (1, 30, 0, 0), (16117, 16116, 0), [], []),
  (⟨"LanternChess$Sending", "watch", "(LLanternChess$Fogs;II)V"⟩, 6, none, 7, 1, (3, 77, 0, 0), (16121, 16119, 16120), [], []),
  (⟨"LanternChess$Sending", "isWhole", "(LLanternChess$Field;)Z"⟩, 5, some (.boolean), 7, 1, (2, 52, 0, 0), (16133, 16131, 16132), [], []),
  (⟨"LanternChess$Sending", "seenFrom", "()I"⟩, 1, some (.int), 7, 1, (2, 51, 0, 0), (16142, 16140, 16141), [], []),
  (⟨"LanternChess$Sending", "seenTo", "()I"⟩, 1, some (.int), 7, 1, (2, 51, 0, 0), (16147, 16145, 16146), [], []),
  (⟨"LanternChess$Sending", "allFlashes", "()I"⟩, 1, some (.int), 7, 1, (2, 52, 0, 0), (16207, 16205, 16206), [], []),
  (⟨"LanternChess$Sending", "allLooks", "()I"⟩, 1, some (.int), 7, 1, (2, 52, 0, 0), (16214, 16212, 16213), [], []),
  (⟨"LanternChess$Sending", "sumOf", "([I)I"⟩, 3, some (.int), 7, 0, (1, 30, 0, 0), (16210, 16209, 0), [], []),
  (⟨"LanternChess$SetupText", "<init>", "()V"⟩, 1, none, 8, 2, (2, 30, 1, 600), (11043, 11042, 0), [], []),
  (⟨"LanternChess$SetupText", "hasRoom", "()Z"⟩, 1, some (.boolean), 8, 1, (1, 30, 0, 0), (14022, 14020, 14021), [], []),
  (⟨"LanternChess$SetupText", "append", "(I)V"⟩, 3, none, 8, 1, (1, 30, 0, 0), (14026, 14024, 14025), [], []),
  (⟨"LanternChess$SetupText", "read", "(LLanternChess$Game;)V"⟩, 5, none, 8, 1, (11, 271, 0, 0), (14038, 14036, 14037), [], []),
  (⟨"LanternChess$SetupText", "readStatement", "(LLanternChess$Game;)V"⟩, 2, none, 8, 1, (10, 250, 0, 0), (14084, 14083, 1011), [], []),
  (⟨"LanternChess$SetupText", "readPiece", "(LLanternChess$Game;I)V"⟩, 7, none, 8, 1, (9, 224, 0, 0), (14098, 14097, 1013), [], []),
  (⟨"LanternChess$SetupText", "readFog", "(LLanternChess$Game;)V"⟩, 5, none, 8, 1, (4, 96, 0, 0), (14124, 14123, 2000), [], []),
  (⟨"LanternChess$SetupText", "takeKind", "(I)I"⟩, 3, some (.int), 8, 1, (8, 202, 0, 0), (14102, 14101, 1014), [], []),
  (⟨"LanternChess$SetupText", "kindOfWord", "()I"⟩, 1, some (.int), 8, 1, (7, 182, 0, 0), (14106, 14105, 1015), [], []),
  (⟨"LanternChess$SetupText", "takeOnce", "(I)V"⟩, 2, none, 8, 1, (3, 71, 0, 0), (14089, 14088, 1012), [], []),
  (⟨"LanternChess$SetupText", "takeWord", "(Ljava/lang/String;)V"⟩, 2, none, 8, 1, (7, 182, 0, 0), (14057, 14056, 1005), [], []),
  (⟨"LanternChess$SetupText", "takeSemicolon", "()V"⟩, 1, none, 8, 1, (3, 71, 0, 0), (14079, 14078, 1010), [], []),
  (⟨"LanternChess$SetupText", "takeNumber", "(II)I"⟩, 4, some (.int), 8, 1, (3, 73, 0, 0), (14071, 14070, 1008), [], []),
  (⟨"LanternChess$SetupText", "numberOfToken", "()I"⟩, 3, some (.int), 8, 1, (2, 51, 0, 0), (14075, 14074, 1009), [], []),
  (⟨"LanternChess$SetupText", "isWord", "(Ljava/lang/String;)Z"⟩, 3, some (.boolean), 8, 1, (6, 160, 0, 0), (14061, 14060, 1006), [], []),
  (⟨"LanternChess$SetupText", "fail", "(II)V"⟩, 3, none, 8, 1, (1, 30, 0, 0), (14067, 14066, 1007), [], []),
  (⟨"LanternChess$SetupText", "takeToken", "()V"⟩, 1, none, 8, 1, (2, 51, 0, 0), (14042, 14041, 1003), [], []),
  (⟨"LanternChess$SetupText", "byteAt", "(I)I"⟩, 2, some (.int), 8, 1, (1, 30, 0, 0), (14046, 14045, 1004), [], []),
  (⟨"LanternChess$SetupText", "isLetter", "(I)Z"⟩, 1, some (.boolean), 8, 0, (1, 30, 0, 0), (14049, 14048, 0), [], []),
  (⟨"LanternChess$SetupText", "isDigit", "(I)Z"⟩, 1, some (.boolean), 8, 0, (1, 30, 0, 0), (14052, 14051, 0), [], []),
  (⟨"LanternChess$Walk", "<init>", "()V"⟩, 1, none, 9, 2, (3, 50, 4, 195), (12081, 12080, 0), [], []),
  (⟨"LanternChess$Walk", "fewest", "(LLanternChess$Field;II)I"⟩, 6, some (.int), 9, 1, (4, 115, 0, 0), (16035, 16033, 16034), [], []),
  (⟨"LanternChess$Walk", "enter", "(II)V"⟩, 3, none, 9, 1, (2, 51, 0, 0), (16043, 16042, 2008), [], []),
  (⟨"LanternChess$Walk", "goOnFrom", "(III)V"⟩, 9, none, 9, 1, (3, 87, 0, 0), (16047, 16046, 2009), [], []),
  (⟨"LanternChess", "<init>", "()V"⟩, 1, none, 10, 2, (6, 119, 228, 10819), (11035, 11034, 0), [], [])]
def ev_mt3 : List ev_R := [
(⟨"LanternChess", "appendInput", "(IIIII)I"⟩, 6, some (.int), 10, 1, (2, 52, 0, 0), (14018, 14016, 14017), [], []),
  (⟨"LanternChess", "truncateInput", "(I)Z"⟩, 2, some (.boolean), 10, 1, (1, 30, 0, 0), (14030, 14028, 14029), [], []),
  (⟨"LanternChess", "loadGame", "()I"⟩, 1, some (.int), 10, 1, (12, 295, 0, 0), (14034, 14032, 14033), [], []),
  (⟨"LanternChess$Field", "columnOf", "(I)I"⟩, 1, some (.int), 1, 0, (1, 30, 0, 0), (15177, 15176, 0), [], []),
  (⟨"LanternChess$Field", "columnOf", "(I)I"⟩, 1, some (.int), 1, 0, (1, 30, 0, 0), (15177, 15176, 0), [], []),
  (⟨"LanternChess", "count", "(I)I"⟩, 2, some (.int), 10, 1, (1, 30, 0, 0), (12165, 12163, 12164), [], []),
  (⟨"LanternChess", "clock", "(I)I"⟩, 2, some (.int), 10, 1, (2, 51, 0, 0), (12237, 12235, 12236), [], []),
  (⟨"LanternChess", "piece", "(III)I"⟩, 4, some (.int), 10, 1, (3, 74, 0, 0), (16026, 16024, 16025), [], []),
  (⟨"LanternChess", "isMove", "(IIIIII)Z"⟩, 7, some (.boolean), 10, 1, (4, 112, 0, 0), (15153, 15151, 15152), [], []),
  (⟨"LanternChess", "moves", "(II)I"⟩, 3, some (.int), 10, 1, (6, 159, 0, 0), (16056, 16054, 16055), [], []),
  (⟨"LanternChess", "move", "(IIII)I"⟩, 6, some (.int), 10, 1, (7, 188, 0, 0), (15200, 15198, 15199), [], []),
  (⟨"LanternChess", "ranked", "(II)I"⟩, 4, some (.int), 10, 1, (7, 188, 0, 0), (16078, 16076, 16077), [], []),
  (⟨"LanternChess", "moveInfo", "(LLanternChess$Field;III)I"⟩, 7, some (.int), 10, 1, (6, 162, 0, 0), (15219, 15218, 2005), [], []),
  (⟨"LanternChess$Field", "columnOf", "(I)I"⟩, 1, some (.int), 1, 0, (1, 30, 0, 0), (15177, 15176, 0), [], []),
  (⟨"LanternChess", "isInCheck", "(II)Z"⟩, 3, some (.boolean), 10, 1, (5, 133, 0, 0), (16060, 16058, 16059), [], []),
  (⟨"LanternChess$Field", "columnOf", "(I)I"⟩, 1, some (.int), 1, 0, (1, 30, 0, 0), (15177, 15176, 0), [], []),
  (⟨"LanternChess", "sum", "(I)I"⟩, 2, some (.int), 10, 1, (4, 95, 0, 0), (13024, 13022, 13023), [], []),
  (⟨"LanternChess", "differ", "(I)I"⟩, 2, some (.int), 10, 1, (4, 93, 0, 0), (13044, 13042, 13043), [], []),
  (⟨"LanternChess", "fewestMoves", "(IIIII)I"⟩, 6, some (.int), 10, 1, (5, 140, 0, 0), (16031, 16029, 16030), [], []),
  (⟨"LanternChess$Field", "columnOf", "(I)I"⟩, 1, some (.int), 1, 0, (1, 30, 0, 0), (15177, 15176, 0), [], []),
  (⟨"LanternChess$Field", "columnOf", "(I)I"⟩, 1, some (.int), 1, 0, (1, 30, 0, 0), (15177, 15176, 0), [], []),
  (⟨"LanternChess$Field", "columnOf", "(I)I"⟩, 1, some (.int), 1, 0, (1, 30, 0, 0), (15177, 15176, 0), [], []),
  (⟨"LanternChess$Field", "columnOf", "(I)I"⟩, 1, some (.int), 1, 0, (1, 30, 0, 0), (15177, 15176, 0), [], []),
  (⟨"LanternChess", "group", "(IIIII)I"⟩, 6, some (.int), 10, 1, (8, 191, 0, 0), (16095, 16093, 16094), [], []),
  (⟨"LanternChess$Field", "columnOf", "(I)I"⟩, 1, some (.int), 1, 0, (1, 30, 0, 0), (15177, 15176, 0), [], []),
  (⟨"LanternChess", "messageTicks", "(IIII)I"⟩, 5, some (.int), 10, 1, (8, 191, 0, 0), (17006, 17004, 17005), [], []),
  (⟨"LanternChess", "readsAs", "(IIII)I"⟩, 5, some (.int), 10, 1, (8, 191, 0, 0), (17002, 17000, 17001), [], []),
  (⟨"LanternChess", "foretellNow", "(IIII)V"⟩, 5, none, 10, 1, (7, 167, 0, 0), (16099, 16098, 2011), [], []),
  (⟨"LanternChess", "ifPlayed", "(IIIII)I"⟩, 7, some (.int), 10, 1, (8, 193, 0, 0), (16173, 16171, 16172), [], []),
  (⟨"LanternChess", "delay", "(IIIII)I"⟩, 10, some (.int), 10, 1, (7, 167, 0, 0), (16237, 16235, 16236), [], []),
  (⟨"LanternChess", "sent", "(II)I"⟩, 3, some (.int), 10, 1, (2, 53, 0, 0), (17019, 17017, 17018), [], []),
  (⟨"LanternChess", "made", "(II)I"⟩, 4, some (.int), 10, 1, (2, 53, 0, 0), (17014, 17012, 17013), [], []),
  (⟨"LanternChess", "meanTries", "()D"⟩, 2, some (.double), 10, 1, (3, 76, 0, 0), (13068, 13066, 13067), [], []),
  (⟨"LanternChess", "hiddenShare", "()F"⟩, 4, some (.float), 10, 1, (3, 76, 0, 0), (13080, 13078, 13079), [], []),
  (⟨"LanternChess", "play", "(IIII)I"⟩, 7, some (.int), 10, 1, (8, 193, 0, 0), (17010, 17008, 17009), [], []),
  (⟨"LanternChess$Field", "columnOf", "(I)I"⟩, 1, some (.int), 1, 0, (1, 30, 0, 0), (15177, 15176, 0), [], []),
  (⟨"LanternChess", "resign", "()I"⟩, 2, some (.int), 10, 1, (6, 145, 0, 0), (13084, 13082, 13083), [], []),
  (⟨"LanternChess", "settle", "(I)I"⟩, 3, some (.int), 10, 1, (6, 145, 0, 0), (13144, 13142, 13143), [], []),
  (⟨"LanternChess", "wind", "(II)I"⟩, 4, some (.int), 10, 1, (6, 145, 0, 0), (13149, 13147, 13148), [], []),
  (⟨"LanternChess$Field", "columnOf", "(I)I"⟩, 1, some (.int), 1, 0, (1, 30, 0, 0), (15177, 15176, 0), [], [])]
def ev_mt4 : List ev_R := [
(⟨"LanternChess$Field", "columnOf", "(I)I"⟩, 1, some (.int), 1, 0, (1, 30, 0, 0), (15177, 15176, 0), [], []),
  (⟨"LanternChess$Field", "columnOf", "(I)I"⟩, 1, some (.int), 1, 0, (1, 30, 0, 0), (15177, 15176, 0), [], []),
  (⟨"LanternChess$Field", "columnOf", "(I)I"⟩, 1, some (.int), 1, 0, (1, 30, 0, 0), (15177, 15176, 0), [], []),
  (⟨"LanternChess$Field", "columnOf", "(I)I"⟩, 1, some (.int), 1, 0, (1, 30, 0, 0), (15177, 15176, 0), [], []),
  (⟨"LanternChess$Field", "columnOf", "(I)I"⟩, 1, some (.int), 1, 0, (1, 30, 0, 0), (15177, 15176, 0), [], []),
  (⟨"LanternChess", "undo", "()I"⟩, 1, some (.int), 10, 1, (6, 145, 0, 0), (13158, 13156, 13157), [], []),
  (⟨"LanternChess$Field", "columnOf", "(I)I"⟩, 1, some (.int), 1, 0, (1, 30, 0, 0), (15177, 15176, 0), [], []),
  (⟨"LanternChess$Field", "columnOf", "(I)I"⟩, 1, some (.int), 1, 0, (1, 30, 0, 0), (15177, 15176, 0), [], []),
  (⟨"LanternChess$Field", "columnOf", "(I)I"⟩, 1, some (.int), 1, 0, (1, 30, 0, 0), (15177, 15176, 0), [], []),
  (⟨"LanternChess$Field", "columnOf", "(I)I"⟩, 1, some (.int), 1, 0, (1, 30, 0, 0), (15177, 15176, 0), [], []),
  (⟨"LanternChess$Field", "columnOf", "(I)I"⟩, 1, some (.int), 1, 0, (1, 30, 0, 0), (15177, 15176, 0), [], []),
  (⟨"LanternChess$Field", "columnOf", "(I)I"⟩, 1, some (.int), 1, 0, (1, 30, 0, 0), (15177, 15176, 0), [], []),
  (⟨"LanternChess$Field", "columnOf", "(I)I"⟩, 1, some (.int), 1, 0, (1, 30, 0, 0), (15177, 15176, 0), [], []),
  (⟨"LanternChess", "saveState", "()I"⟩, 1, some (.int), 10, 1, (5, 123, 0, 0), (13182, 13180, 13181), [], []),
  (⟨"LanternChess", "restoreState", "()I"⟩, 1, some (.int), 10, 1, (5, 123, 0, 0), (13187, 13185, 13186), [], []),
  (⟨"LanternChess", "needSide", "(I)V"⟩, 1, none, 10, 0, (1, 30, 0, 0), (13000, 12239, 0), [], []),
  (⟨"LanternChess", "needIndex", "(II)V"⟩, 2, none, 10, 0, (1, 30, 0, 0), (15214, 15213, 0), [], []),
  (⟨"LanternChess", "needRange", "(III)V"⟩, 3, none, 10, 0, (1, 30, 0, 0), (13047, 13046, 0), [], []),
  (⟨"LanternChess", "needCell", "(II)V"⟩, 3, none, 10, 1, (2, 52, 0, 0), (15161, 15160, 2002), [], []),
  (⟨"LanternChess", "needCells", "(IIII)V"⟩, 5, none, 10, 1, (3, 74, 0, 0), (15157, 15156, 2001), [], []),
  (⟨"LanternChess", "needGoingOn", "()V"⟩, 1, none, 10, 1, (1, 30, 0, 0), (13088, 13087, 1002), [], []),
  (⟨"LanternChessLaw", "cell", "([II)I"⟩, 2, some (.int), 12, 0, (1, 30, 0, 0), (13198, 13197, 0), [], []),
  (⟨"LanternChessLaw", "draw", "([IIII)I"⟩, 4, some (.int), 12, 0, (2, 51, 0, 0), (13195, 13194, 0), [], []),
  (⟨"LanternChessLaw", "areMoves", "(LLanternChess;II)Z"⟩, 11, some (.boolean), 12, 0, (8, 213, 0, 0), (15149, 15148, 0), [], []),
  (⟨"LanternChessLaw", "areBoards", "(LLanternChess;)Z"⟩, 7, some (.boolean), 12, 0, (5, 116, 1, 2), (16071, 16070, 0), [], []),
  (⟨"LanternChessLaw", "isPlayed", "(LLanternChess;[II)Z"⟩, 20, some (.boolean), 12, 0, (9, 219, 0, 0), (16074, 16073, 0), [], []),
  (⟨"LanternChessLaw", "law", "([I)Z"⟩, 8, some (.boolean), 12, 0, (10, 258, 232, 10836), (0, 0, 0), [], []),
  (⟨"java/util/Arrays", "fill", "([II)V"⟩, 4, none, 13, 0, (1, 30, 0, 0), (12112, 12111, 0), [], []),
  (⟨"java/lang/Integer", "signum", "(I)I"⟩, 1, some (.int), 14, 0, (1, 30, 0, 0), (15192, 15191, 0), [], [])]
def ev_z : ev_R := (⟨"", "", ""⟩, 0, none, 0, 0, (0, 0, 0, 0), (0, 0, 0), [], [])
def ev_mts : List (List ev_R) := [ev_mt0, ev_mt1, ev_mt2, ev_mt3, ev_mt4]
def ev_m (k : Nat) : ev_R := (ev_mts.getD (k / 40) []).getD (k % 40) ev_z
def ev_nm : Nat := 189
def ev_lawM : Nat := 186
def ev_y (k : Nat) : MethodName := (ev_m k).1
def ev_ml (k : Nat) : Nat := (ev_m k).2.1
def ev_rt (k : Nat) : Option FieldType := (ev_m k).2.2.1
def ev_ci (k : Nat) : Nat := (ev_m k).2.2.2.1
def ev_kd (k : Nat) : Nat := (ev_m k).2.2.2.2.1
def ev_dp (k : Nat) : Nat := (ev_m k).2.2.2.2.2.1.1
def ev_lc (k : Nat) : Nat := (ev_m k).2.2.2.2.2.1.2.1
def ev_k1 (k : Nat) : Nat := (ev_m k).2.2.2.2.2.1.2.2.1
def ev_k2 (k : Nat) : Nat := (ev_m k).2.2.2.2.2.1.2.2.2
def ev_pw (k : Nat) : Nat × Nat × Nat := (ev_m k).2.2.2.2.2.2.1
def ev_hh (k : Nat) : List (Nat × Nat × Nat × Nat) := (ev_m k).2.2.2.2.2.2.2.1
def ev_eh (k : Nat) : List (Nat × Nat × Nat × Nat × Nat) := (ev_m k).2.2.2.2.2.2.2.2
/-- a field by its place in a pool: class, place; class of the object, slot, kind (0 int, 1 boolean, 2 a reference); place of the word -/
def ev_ft : List (Nat × Nat × Nat × Nat × Nat × Nat) := [(8, 9, 8, 0, 2, 11045), (8, 15, 8, 1, 0, 11046), (10, 90, 8, 1, 0, 11047), (8, 19, 8, 2, 0, 11048), (10, 97, 8, 2, 0, 11049), (8, 22, 8, 3, 0, 11050), (8, 25, 8, 4, 0, 11051), (10, 106, 8, 4, 0, 11052), (8, 28, 8, 5, 0, 11053), (8, 31, 8, 6, 0, 11054), (8, 34, 8, 7, 0, 11055), (8, 37, 8, 8, 0, 11056), (8, 40, 8, 9, 0, 11057), (1, 9, 1, 0, 2, 11098), (1, 15, 1, 1, 0, 11099), (8, 124, 1, 1, 0, 11100), (10, 122, 1, 1, 0, 11101), (1, 19, 1, 2, 0, 11102), (8, 129, 1, 2, 0, 11103), (10, 125, 1, 2, 0, 11104), (0, 12, 0, 0, 2, 11113), (3, 83, 0, 0, 2, 11114), (8, 118, 0, 0, 2, 11115), (10, 116, 0, 0, 2, 11116), (0, 18, 0, 1, 2, 11117), (0, 21, 0, 2, 0, 11118), (10, 155, 0, 2, 0, 11119), (0, 25, 0, 3, 0, 11120), (0, 28, 0, 4, 0, 11121), (0, 31, 0, 5, 0, 11122), (2, 9, 2, 0, 2, 11142), (2, 15, 2, 1, 2, 11143), (2, 18, 2, 2, 2, 11144), (2, 21, 2, 3, 0, 11145), (3, 67, 2, 3, 0, 11146), (10, 150, 2, 3, 0, 11147), (5, 9, 5, 0, 2, 11163), (5, 15, 5, 1, 0, 11164), (10, 173, 5, 1, 0, 11165), (5, 19, 5, 2, 0, 11166), (10, 165, 5, 2, 0, 11167), (3, 12, 3, 0, 2, 11175), (8, 115, 3, 0, 2, 11176), (10, 112, 3, 0, 2, 11177), (3, 18, 3, 1, 2, 11178), (10, 158, 3, 1, 2, 11179), (3, 24, 3, 2, 2, 11180), (8, 141, 3, 2, 2, 11181), (10, 146, 3, 2, 2, 11182), (3, 31, 3, 3, 2, 11183), (10, 170, 3, 3, 2, 11184), (3, 35, 3, 4, 2, 11185), (10, 161, 3, 4, 2, 11186), (3, 38, 3, 5, 0, 11187), (10, 128, 3, 5, 0, 11188), (3, 42, 3, 6, 0, 11189), (10, 131, 3, 6, 0, 11190), (3, 45, 3, 7, 0, 11191), (10, 134, 3, 7, 0, 11192), (3, 48, 3, 8, 0, 11193), (8, 87, 3, 8, 0, 11194), (10, 137, 3, 8, 0, 11195), (3, 51, 3, 9, 0, 11196), (8, 91, 3, 9, 0, 11197), (10, 140, 3, 9, 0, 11198), (3, 54, 3, 10, 0, 11199), (8, 96, 3, 10, 0, 11200), (10, 143, 3, 10, 0, 11201), (3, 57, 3, 11, 0, 11202), (3, 60, 3, 12, 0, 11203), (4, 11, 4, 0, 2, 12000), (4, 17, 4, 1, 0, 12001), (4, 21, 4, 2, 0, 12002), (10, 176, 4, 2, 0, 12003), (7, 9, 7, 0, 2, 12017), (7, 15, 7, 1, 2, 12018), (7, 18, 7, 2, 0, 12019), (3, 165, 7, 2, 0, 12020), (10, 291, 7, 2, 0, 12021), (7, 22, 7, 3, 0, 12022), (3, 138, 7, 3, 0, 12023), (10, 294, 7, 3, 0, 12024), (7, 25, 7, 4, 0, 12025), (3, 158, 7, 4, 0, 12026), (7, 28, 7, 5, 0, 12027), (3, 171, 7, 5, 0, 12028), (7, 31, 7, 6, 1, 12029), (3, 177, 7, 6, 1, 12030), (10, 312, 7, 6, 1, 12031), (7, 35, 7, 7, 0, 12032), (3, 181, 7, 7, 0, 12033), (10, 315, 7, 7, 0, 12034), (6, 9, 6, 0, 2, 12060), (6, 15, 6, 1, 2, 12061), (6, 18, 6, 2, 2, 12062), (6, 24, 6, 3, 2, 12063), (6, 28, 6, 4, 0, 12064), (10, 213, 6, 4, 0, 12065), (9, 12, 9, 0, 2, 12085), (9, 18, 9, 1, 2, 12086), (9, 22, 9, 2, 2, 12087), (9, 25, 9, 3, 0, 12088), (10, 10, 10, 0, 2, 12128), (10, 19, 10, 1, 2, 12129), (10, 23, 10, 2, 2, 12130), (10, 26, 10, 3, 2, 12131), (10, 29, 10, 4, 1, 12132), (10, 36, 10, 5, 2, 12133), (10, 43, 10, 6, 2, 12134), (10, 50, 10, 7, 2, 12135), (10, 57, 10, 8, 2, 12136), (10, 61, 10, 9, 2, 12137), (10, 65, 10, 10, 0, 12138)]
/-- a method by its place in a pool (1000 and more: the JDK's own) -/
def ev_ct : List (Nat × Nat × Nat × Nat) := [(12, 160, 119, 11033), (10, 1, 1006, 11036), (10, 9, 95, 11041), (8, 3, 1006, 11044), (10, 18, 47, 11082), (3, 3, 1006, 11085), (3, 11, 0, 11088), (0, 3, 1006, 11091), (0, 11, 9, 11094), (1, 3, 1006, 11097), (3, 23, 37, 11138), (2, 3, 1006, 11141), (3, 30, 67, 11159), (5, 3, 1006, 11162), (10, 35, 63, 11233), (4, 3, 1006, 11236), (4, 24, 47, 11239), (10, 42, 83, 12013), (7, 3, 1006, 12016), (10, 49, 74, 12054), (6, 3, 1006, 12057), (6, 23, 9, 12059), (10, 56, 115, 12079), (9, 3, 1006, 12082), (9, 11, 9, 12084), (10, 69, 48, 12098), (3, 63, 1, 12102), (0, 34, 10, 12106), (1, 22, 187, 12110), (3, 70, 69, 12113), (10, 73, 12, 12117), (10, 79, 50, 12120), (3, 87, 18, 12124), (12, 97, 125, 12162), (12, 148, 126, 12234), (10, 184, 175, 12238), (10, 187, 52, 13017), (12, 124, 136, 13021), (10, 194, 51, 13025), (10, 256, 33, 13029), (1, 101, 32, 13033), (1, 98, 16, 13037), (12, 127, 137, 13041), (10, 217, 177, 13045), (10, 259, 54, 13049), (3, 92, 35, 13053), (10, 262, 55, 13057), (3, 96, 36, 13061), (12, 185, 152, 13065), (10, 319, 73, 13069), (5, 28, 72, 13073), (12, 181, 153, 13077), (12, 198, 156, 13081), (10, 301, 180, 13085), (10, 322, 65, 13105), (4, 25, 49, 13109), (3, 73, 2, 13113), (0, 38, 11, 13117), (1, 28, 1000, 13121), (3, 77, 38, 13124), (2, 25, 1000, 13128), (3, 80, 68, 13129), (5, 22, 1000, 13133), (4, 29, 1003, 13134), (10, 328, 57, 13137), (12, 192, 157, 13141), (10, 331, 2, 13145), (12, 201, 158, 13146), (10, 339, 53, 13151), (12, 195, 165, 13155), (10, 371, 66, 13175), (12, 189, 173, 13179), (10, 100, 49, 13183), (12, 204, 174, 13184), (10, 103, 64, 13189), (12, 52, 182, 13193), (12, 8, 181, 13196), (12, 15, 1004, 13207), (12, 21, 1005, 13217), (12, 25, 120, 14015), (10, 82, 96, 14019), (10, 86, 97, 14023), (12, 31, 121, 14027), (12, 39, 122, 14031), (10, 93, 98, 14035), (8, 43, 111, 14039), (8, 178, 112, 14043), (8, 189, 113, 14047), (8, 192, 114, 14050), (8, 48, 105, 14054), (8, 74, 109, 14058), (8, 181, 1004, 14062), (8, 185, 1005, 14063), (8, 69, 110, 14064), (8, 52, 107, 14068), (8, 175, 108, 14072), (8, 56, 106, 14076), (8, 59, 48, 14080), (8, 65, 99, 14081), (8, 78, 104, 14086), (8, 82, 53, 14090), (8, 100, 100, 14095), (8, 111, 102, 14099), (8, 159, 103, 14103), (8, 132, 12, 14113), (8, 135, 17, 14114), (8, 138, 50, 14118), (8, 108, 101, 14121), (8, 145, 39, 14125), (8, 151, 40, 14129), (8, 155, 41, 14133), (13, 304, 1003, 14206), (13, 150, 1000, 14207), (12, 173, 183, 15147), (12, 101, 128, 15150), (10, 201, 179, 15154), (10, 191, 178, 15158), (10, 411, 15, 15162), (10, 205, 21, 15167), (1, 37, 17, 15171), (1, 41, 19, 15172), (1, 45, 13, 15175), (1, 48, 14, 15178), (1, 51, 15, 15181), (1, 54, 22, 15182), (1, 58, 1001, 15186), (1, 63, 1002, 15189), (1, 67, 188, 15190), (1, 72, 23, 15193), (12, 105, 130, 15197), (10, 209, 75, 15201), (6, 32, 17, 15205), (6, 36, 19, 15206), (6, 40, 76, 15207), (6, 44, 21, 15211), (10, 214, 176, 15212), (10, 221, 132, 15216), (10, 231, 77, 15220), (10, 234, 78, 15224), (10, 237, 16, 15228), (10, 240, 27, 15229), (1, 86, 20, 15233), (1, 76, 24, 15238), (10, 243, 79, 16002), (6, 48, 27, 16006), (6, 52, 11, 16007), (6, 56, 26, 16008), (1, 79, 25, 16012), (1, 82, 18, 16016), (6, 60, 28, 16017), (1, 89, 27, 16021), (1, 92, 21, 16022), (12, 109, 127, 16023), (10, 198, 17, 16027), (12, 113, 138, 16028), (10, 265, 116, 16032), (9, 29, 17, 16036), (9, 33, 11, 16037), (9, 37, 18, 16038), (9, 41, 187, 16039), (9, 47, 117, 16040), (9, 50, 118, 16044), (9, 54, 19, 16048), (9, 58, 13, 16049), (9, 61, 14, 16050), (9, 64, 15, 16051), (9, 67, 22, 16052), (12, 116, 129, 16053), (12, 120, 134, 16057), (10, 249, 30, 16061), (1, 95, 29, 16065), (12, 169, 184, 16069), (12, 177, 185, 16072), (12, 130, 131, 16075), (10, 225, 80, 16079), (6, 63, 79, 16083), (10, 228, 81, 16084), (6, 67, 82, 16088), (12, 133, 143, 16092), (10, 282, 147, 16096), (10, 297, 59, 16100), (3, 99, 51, 16104), (3, 124, 5, 16105), (3, 128, 86, 16109), (7, 38, 13, 16113), (7, 44, 14, 16114), (7, 47, 87, 16115), (3, 134, 88, 16118), (7, 51, 45, 16122), (2, 31, 44, 16126), (3, 141, 89, 16130), (7, 57, 15, 16134), (3, 145, 85, 16135), (3, 148, 90, 16139), (7, 61, 12, 16143), (3, 151, 91, 16144), (3, 154, 6, 16148), (0, 45, 5, 16152), (0, 49, 21, 16153), (3, 161, 7, 16154), (0, 53, 34, 16158), (1, 104, 33, 16162), (0, 57, 33, 16163), (3, 168, 45, 16164), (3, 174, 34, 16165), (10, 285, 84, 16166), (12, 136, 148, 16170), (10, 304, 60, 16174), (3, 184, 56, 16178), (3, 103, 21, 16182), (3, 188, 59, 16183), (3, 192, 58, 16184), (3, 107, 52, 16188), (3, 111, 1003, 16189), (3, 117, 53, 16190), (3, 120, 57, 16191), (3, 196, 61, 16192), (3, 207, 70, 16196), (3, 210, 71, 16200), (3, 213, 92, 16204), (7, 64, 94, 16208), (3, 216, 93, 16211), (3, 200, 8, 16215), (0, 60, 3, 16219), (0, 42, 26, 16223), (0, 63, 4, 16224), (3, 204, 62, 16228), (3, 219, 17, 16232), (3, 222, 3, 16233), (12, 139, 149, 16234), (10, 308, 56, 16238), (12, 142, 146, 16239), (12, 145, 145, 17003), (12, 151, 154, 17007), (12, 154, 151, 17011), (10, 318, 72, 17015), (12, 157, 150, 17016)]
/-- constants -/
def ev_kt : List (Nat × Nat × Value × Nat) := [(12, 7, .int 131071, 13199), (12, 14, .int 2147483647, 13200)]
/-- texts: class, place, text, address -/
def ev_sr : List (Nat × Nat × String × Nat × Nat) := [(8, 46, "game", 3, 14053), (8, 72, "clock", 4, 14085), (8, 85, "pause", 5, 14091), (8, 89, "wait", 6, 14092), (8, 94, "tries", 7, 14093), (8, 98, "white", 8, 14094), (8, 163, "king", 9, 14107), (8, 165, "queen", 10, 14108), (8, 167, "rook", 11, 14109), (8, 169, "bishop", 12, 14110), (8, 171, "knight", 13, 14111), (8, 173, "pawn", 14, 14112), (8, 104, "black", 15, 14119), (8, 106, "fog", 16, 14120), (8, 46, "game", 17, 14053), (8, 46, "game", 18, 14053), (8, 46, "game", 19, 14053)]
/-- classes by their places in pools -/
def ev_nt : List (Nat × Nat × Nat × Nat) := [(12, 26, 10, 11031), (10, 7, 8, 11039), (10, 16, 3, 11080), (3, 9, 0, 11086), (0, 9, 1, 11092), (3, 21, 2, 11136), (3, 28, 5, 11157), (10, 33, 4, 11231), (4, 9, 3, 11237), (10, 40, 7, 12011), (10, 47, 6, 12052), (6, 21, 1, 12058), (10, 54, 9, 12077), (9, 9, 1, 12083)]
/-- throws: class, place of the exception's class in the pool; which exception -/
def ev_X : List String := ["java/lang/IllegalArgumentException", "java/lang/IndexOutOfBoundsException", "java/lang/IllegalStateException", "java/util/NoSuchElementException"]
def ev_xt : List (Nat × Nat × Nat × Nat) := [(10, 177, 0, 12166), (10, 402, 1, 13001), (10, 334, 2, 13089), (10, 366, 3, 13159)]
def ev_th : List (Nat × Nat × Nat × Nat × Nat × Nat × Bool × String) := []
/-- the bytes of the texts -/
def ev_tb (k : Nat) : List Int32 := match k with
  | 0 => [103, 97, 109, 101]
  | 1 => [99, 108, 111, 99, 107]
  | 2 => [112, 97, 117, 115, 101]
  | 3 => [119, 97, 105, 116]
  | 4 => [116, 114, 105, 101, 115]
  | 5 => [119, 104, 105, 116, 101]
  | 6 => [107, 105, 110, 103]
  | 7 => [113, 117, 101, 101, 110]
  | 8 => [114, 111, 111, 107]
  | 9 => [98, 105, 115, 104, 111, 112]
  | 10 => [107, 110, 105, 103, 104, 116]
  | 11 => [112, 97, 119, 110]
  | 12 => [98, 108, 97, 99, 107]
  | 13 => [102, 111, 103]
  | 14 => [103, 97, 109, 101]
  | 15 => [103, 97, 109, 101]
  | 16 => [103, 97, 109, 101]
  | _ => []
def ev_pA : List Nat := [11112, 11079, 11112]
def ev_pO : Nat := 11238
def ev_pH : Nat := 11237
def ev_pV : List Nat := [15236, 15236]
def ev_S : Nat := 20
/-! the words stand where the tables say -/
def ev_ck (k : Nat) : List Cond := match k with
  | 1 => k2_sels lw_privs_1
  | 2 => k2_sels lw_privs_2
  | 11 => tables_1_1
  | 12 => tables_1_2
  | 13 => tables_1_3
  | 14 => tables_1_4
  | 15 => tables_1_5
  | 16 => tables_1_6
  | 17 => tables_1_7
  | _ => []
def ev_w (p : Nat) : Option Cond := (ev_ck (p / 1000))[p % 1000]?
theorem ev_mem {w : Cond} {p : Nat} (h : ev_w p = some w) : w ∈ lw_tbl := by
  have h1 : w ∈ ev_ck (p / 1000) := List.mem_of_getElem? h
  generalize p / 1000 = k at h1
  have hs : ∀ l : List (MethodName × Nat), (∀ q ∈ l, q ∈ lw_privs) → w ∈ k2_sels l → w ∈ lw_tbl := fun l hl hw => by
    obtain ⟨q, hq, rfl⟩ := List.mem_map.mp hw
    exact List.mem_append_left _ (List.mem_map.mpr ⟨q, hl q hq, rfl⟩)
  unfold ev_ck at h1
  split at h1
  all_goals first
    | exact hs _ (fun q hq => by simp only [lw_privs, List.mem_append]; simp [hq]) h1
    | exact absurd h1 List.not_mem_nil
    | (refine List.mem_append_right _ ?_
       simp only [tables_1, List.mem_append]
       simp [h1])
/-- a method's code, out of its word -/
def ev_cd (k : Nat) : ByteArray := if k = ev_lawM then code else match ev_w (ev_pw k).1 with
  | some (.code _ b _ _) => b
  | some (.codeWith _ b _ _ _) => b
  | _ => ⟨#[]⟩
def ev_okM (k : Nat) : Bool := match ev_w (ev_pw k).1 with
  | some (.code y _ m r) => decide (y = ev_y k ∧ m = ev_ml k ∧ r = ev_rt k ∧ ev_hh k = [])
  | some (.codeWith y _ m r h) => decide (y = ev_y k ∧ m = ev_ml k ∧ r = ev_rt k ∧ ev_hh k = h ∧ ¬ h = [])
  | _ => false
def ev_okI (k : Nat) : Bool :=
  match ev_kd k with
  | 0 => decide (ev_w (ev_pw k).2.1 = some (.static (ev_y k)))
  | 1 => decide (ev_w (ev_pw k).2.1 = some (.instanceMethod (ev_y k))) && decide (ev_w (ev_pw k).2.2 = some (.selects (ev_y k).cls (ev_y k) (ev_y k)))
  | _ => decide (ev_w (ev_pw k).2.1 = some (.instanceMethod (ev_y k)))
def ev_okN (k : Nat) : Bool := decide ((ev_y k).cls = ev_own (ev_ci k)) && decide ((ev_y k).cls ≠ "java/lang/invoke/MethodHandle") && decide ((ev_y k).cls ≠ "java/lang/invoke/VarHandle") && plainName (ev_y k).cls && decide (ev_kd k = 2 → (ev_y k).name = "<init>") && decide (Cond.initialized (ev_y k).cls ∈ tables_1_1.take 31)
def ev_C (c : Nat) : vw_C := ev_cl.getD c ("", ev_T0, 0)
set_option maxRecDepth 100000 in
theorem ev_okM_0 : ∀ r, r < 25 → (ev_okM (25 * 0 + r) || decide (25 * 0 + r = ev_lawM ∨ ev_nm ≤ 25 * 0 + r)) = true := by decide +kernel
set_option maxRecDepth 100000 in
theorem ev_okM_1 : ∀ r, r < 25 → (ev_okM (25 * 1 + r) || decide (25 * 1 + r = ev_lawM ∨ ev_nm ≤ 25 * 1 + r)) = true := by decide +kernel
set_option maxRecDepth 100000 in
theorem ev_okM_2 : ∀ r, r < 25 → (ev_okM (25 * 2 + r) || decide (25 * 2 + r = ev_lawM ∨ ev_nm ≤ 25 * 2 + r)) = true := by decide +kernel
set_option maxRecDepth 100000 in
theorem ev_okM_3 : ∀ r, r < 25 → (ev_okM (25 * 3 + r) || decide (25 * 3 + r = ev_lawM ∨ ev_nm ≤ 25 * 3 + r)) = true := by decide +kernel
set_option maxRecDepth 100000 in
theorem ev_okM_4 : ∀ r, r < 25 → (ev_okM (25 * 4 + r) || decide (25 * 4 + r = ev_lawM ∨ ev_nm ≤ 25 * 4 + r)) = true := by decide +kernel
set_option maxRecDepth 100000 in
theorem ev_okM_5 : ∀ r, r < 25 → (ev_okM (25 * 5 + r) || decide (25 * 5 + r = ev_lawM ∨ ev_nm ≤ 25 * 5 + r)) = true := by decide +kernel
set_option maxRecDepth 100000 in
theorem ev_okM_6 : ∀ r, r < 25 → (ev_okM (25 * 6 + r) || decide (25 * 6 + r = ev_lawM ∨ ev_nm ≤ 25 * 6 + r)) = true := by decide +kernel
set_option maxRecDepth 100000 in
theorem ev_okM_7 : ∀ r, r < 25 → (ev_okM (25 * 7 + r) || decide (25 * 7 + r = ev_lawM ∨ ev_nm ≤ 25 * 7 + r)) = true := by decide +kernel
theorem ev_okM_all {k : Nat} (h : k < ev_nm) (hl : k ≠ ev_lawM) : ev_okM k = true := by
  have e : 25 * (k / 25) + k % 25 = k := Nat.div_add_mod k 25
  have hr : k % 25 < 25 := Nat.mod_lt _ (by decide)
  have hg : k / 25 < 8 := by have : ev_nm = 189 := rfl; omega
  have key : (ev_okM k || decide (k = ev_lawM ∨ ev_nm ≤ k)) = true := by
    rw [← e]
    generalize k / 25 = g at hg
    generalize k % 25 = r at hr
    match g, hg with
    | 0, _ => exact ev_okM_0 r hr
    | 1, _ => exact ev_okM_1 r hr
    | 2, _ => exact ev_okM_2 r hr
    | 3, _ => exact ev_okM_3 r hr
    | 4, _ => exact ev_okM_4 r hr
    | 5, _ => exact ev_okM_5 r hr
    | 6, _ => exact ev_okM_6 r hr
    | 7, _ => exact ev_okM_7 r hr
  rw [Bool.or_eq_true] at key
  rcases key with q | q
  · exact q
  · rcases of_decide_eq_true q with q | q
    · exact absurd q hl
    · omega
set_option maxRecDepth 100000 in
theorem ev_okI_0 : ∀ r, r < 25 → (ev_okI (25 * 0 + r) || decide (25 * 0 + r = ev_lawM ∨ ev_nm ≤ 25 * 0 + r)) = true := by decide +kernel
set_option maxRecDepth 100000 in
theorem ev_okI_1 : ∀ r, r < 25 → (ev_okI (25 * 1 + r) || decide (25 * 1 + r = ev_lawM ∨ ev_nm ≤ 25 * 1 + r)) = true := by decide +kernel
set_option maxRecDepth 100000 in
theorem ev_okI_2 : ∀ r, r < 25 → (ev_okI (25 * 2 + r) || decide (25 * 2 + r = ev_lawM ∨ ev_nm ≤ 25 * 2 + r)) = true := by decide +kernel
set_option maxRecDepth 100000 in
theorem ev_okI_3 : ∀ r, r < 25 → (ev_okI (25 * 3 + r) || decide (25 * 3 + r = ev_lawM ∨ ev_nm ≤ 25 * 3 + r)) = true := by decide +kernel
set_option maxRecDepth 100000 in
theorem ev_okI_4 : ∀ r, r < 25 → (ev_okI (25 * 4 + r) || decide (25 * 4 + r = ev_lawM ∨ ev_nm ≤ 25 * 4 + r)) = true := by decide +kernel
set_option maxRecDepth 100000 in
theorem ev_okI_5 : ∀ r, r < 25 → (ev_okI (25 * 5 + r) || decide (25 * 5 + r = ev_lawM ∨ ev_nm ≤ 25 * 5 + r)) = true := by decide +kernel
set_option maxRecDepth 100000 in
theorem ev_okI_6 : ∀ r, r < 25 → (ev_okI (25 * 6 + r) || decide (25 * 6 + r = ev_lawM ∨ ev_nm ≤ 25 * 6 + r)) = true := by decide +kernel
set_option maxRecDepth 100000 in
theorem ev_okI_7 : ∀ r, r < 25 → (ev_okI (25 * 7 + r) || decide (25 * 7 + r = ev_lawM ∨ ev_nm ≤ 25 * 7 + r)) = true := by decide +kernel
theorem ev_okI_all {k : Nat} (h : k < ev_nm) (hl : k ≠ ev_lawM) : ev_okI k = true := by
  have e : 25 * (k / 25) + k % 25 = k := Nat.div_add_mod k 25
  have hr : k % 25 < 25 := Nat.mod_lt _ (by decide)
  have hg : k / 25 < 8 := by have : ev_nm = 189 := rfl; omega
  have key : (ev_okI k || decide (k = ev_lawM ∨ ev_nm ≤ k)) = true := by
    rw [← e]
    generalize k / 25 = g at hg
    generalize k % 25 = r at hr
    match g, hg with
    | 0, _ => exact ev_okI_0 r hr
    | 1, _ => exact ev_okI_1 r hr
    | 2, _ => exact ev_okI_2 r hr
    | 3, _ => exact ev_okI_3 r hr
    | 4, _ => exact ev_okI_4 r hr
    | 5, _ => exact ev_okI_5 r hr
    | 6, _ => exact ev_okI_6 r hr
    | 7, _ => exact ev_okI_7 r hr
  rw [Bool.or_eq_true] at key
  rcases key with q | q
  · exact q
  · rcases of_decide_eq_true q with q | q
    · exact absurd q hl
    · omega
set_option maxRecDepth 100000 in
theorem ev_okN_0 : ∀ r, r < 25 → (ev_okN (25 * 0 + r) || decide (25 * 0 + r = ev_lawM ∨ ev_nm ≤ 25 * 0 + r)) = true := by decide +kernel
set_option maxRecDepth 100000 in
theorem ev_okN_1 : ∀ r, r < 25 → (ev_okN (25 * 1 + r) || decide (25 * 1 + r = ev_lawM ∨ ev_nm ≤ 25 * 1 + r)) = true := by decide +kernel
set_option maxRecDepth 100000 in
theorem ev_okN_2 : ∀ r, r < 25 → (ev_okN (25 * 2 + r) || decide (25 * 2 + r = ev_lawM ∨ ev_nm ≤ 25 * 2 + r)) = true := by decide +kernel
set_option maxRecDepth 100000 in
theorem ev_okN_3 : ∀ r, r < 25 → (ev_okN (25 * 3 + r) || decide (25 * 3 + r = ev_lawM ∨ ev_nm ≤ 25 * 3 + r)) = true := by decide +kernel
set_option maxRecDepth 100000 in
theorem ev_okN_4 : ∀ r, r < 25 → (ev_okN (25 * 4 + r) || decide (25 * 4 + r = ev_lawM ∨ ev_nm ≤ 25 * 4 + r)) = true := by decide +kernel
set_option maxRecDepth 100000 in
theorem ev_okN_5 : ∀ r, r < 25 → (ev_okN (25 * 5 + r) || decide (25 * 5 + r = ev_lawM ∨ ev_nm ≤ 25 * 5 + r)) = true := by decide +kernel
set_option maxRecDepth 100000 in
theorem ev_okN_6 : ∀ r, r < 25 → (ev_okN (25 * 6 + r) || decide (25 * 6 + r = ev_lawM ∨ ev_nm ≤ 25 * 6 + r)) = true := by decide +kernel
set_option maxRecDepth 100000 in
theorem ev_okN_7 : ∀ r, r < 25 → (ev_okN (25 * 7 + r) || decide (25 * 7 + r = ev_lawM ∨ ev_nm ≤ 25 * 7 + r)) = true := by decide +kernel
theorem ev_okN_all {k : Nat} (h : k < ev_nm) (hl : k ≠ ev_lawM) : ev_okN k = true := by
  have e : 25 * (k / 25) + k % 25 = k := Nat.div_add_mod k 25
  have hr : k % 25 < 25 := Nat.mod_lt _ (by decide)
  have hg : k / 25 < 8 := by have : ev_nm = 189 := rfl; omega
  have key : (ev_okN k || decide (k = ev_lawM ∨ ev_nm ≤ k)) = true := by
    rw [← e]
    generalize k / 25 = g at hg
    generalize k % 25 = r at hr
    match g, hg with
    | 0, _ => exact ev_okN_0 r hr
    | 1, _ => exact ev_okN_1 r hr
    | 2, _ => exact ev_okN_2 r hr
    | 3, _ => exact ev_okN_3 r hr
    | 4, _ => exact ev_okN_4 r hr
    | 5, _ => exact ev_okN_5 r hr
    | 6, _ => exact ev_okN_6 r hr
    | 7, _ => exact ev_okN_7 r hr
  rw [Bool.or_eq_true] at key
  rcases key with q | q
  · exact q
  · rcases of_decide_eq_true q with q | q
    · exact absurd q hl
    · omega
set_option maxRecDepth 100000 in
theorem ev_ft_ok0 : ∀ e ∈ (ev_ft.drop 0).take 30, ev_w e.2.2.2.2.2 = some (.fieldLink (ev_own e.1) e.2.1 ((ev_C e.2.2.1).2.1 e.2.2.2.1).1 ((ev_C e.2.2.1).2.1 e.2.2.2.1).2.1 ((ev_C e.2.2.1).2.1 e.2.2.2.1).2.2.1) ∧ e.2.2.1 < 12 ∧ e.2.2.2.1 < (ev_C e.2.2.1).2.2 := by decide +kernel
set_option maxRecDepth 100000 in
theorem ev_ft_ok1 : ∀ e ∈ (ev_ft.drop 30).take 30, ev_w e.2.2.2.2.2 = some (.fieldLink (ev_own e.1) e.2.1 ((ev_C e.2.2.1).2.1 e.2.2.2.1).1 ((ev_C e.2.2.1).2.1 e.2.2.2.1).2.1 ((ev_C e.2.2.1).2.1 e.2.2.2.1).2.2.1) ∧ e.2.2.1 < 12 ∧ e.2.2.2.1 < (ev_C e.2.2.1).2.2 := by decide +kernel
set_option maxRecDepth 100000 in
theorem ev_ft_ok2 : ∀ e ∈ (ev_ft.drop 60).take 30, ev_w e.2.2.2.2.2 = some (.fieldLink (ev_own e.1) e.2.1 ((ev_C e.2.2.1).2.1 e.2.2.2.1).1 ((ev_C e.2.2.1).2.1 e.2.2.2.1).2.1 ((ev_C e.2.2.1).2.1 e.2.2.2.1).2.2.1) ∧ e.2.2.1 < 12 ∧ e.2.2.2.1 < (ev_C e.2.2.1).2.2 := by decide +kernel
set_option maxRecDepth 100000 in
theorem ev_ft_ok3 : ∀ e ∈ (ev_ft.drop 90).take 30, ev_w e.2.2.2.2.2 = some (.fieldLink (ev_own e.1) e.2.1 ((ev_C e.2.2.1).2.1 e.2.2.2.1).1 ((ev_C e.2.2.1).2.1 e.2.2.2.1).2.1 ((ev_C e.2.2.1).2.1 e.2.2.2.1).2.2.1) ∧ e.2.2.1 < 12 ∧ e.2.2.2.1 < (ev_C e.2.2.1).2.2 := by decide +kernel
theorem ev_ft_ok : ∀ e ∈ ev_ft, ev_w e.2.2.2.2.2 = some (.fieldLink (ev_own e.1) e.2.1 ((ev_C e.2.2.1).2.1 e.2.2.2.1).1 ((ev_C e.2.2.1).2.1 e.2.2.2.1).2.1 ((ev_C e.2.2.1).2.1 e.2.2.2.1).2.2.1) ∧ e.2.2.1 < 12 ∧ e.2.2.2.1 < (ev_C e.2.2.1).2.2 := by
  intro e he
  obtain ⟨i, hi⟩ := List.getElem?_of_mem he
  by_cases h0 : i < 30
  · refine ev_ft_ok0 e (List.mem_of_getElem? (i := i - 0) ?_)
    rw [List.getElem?_take_of_lt (by omega), List.getElem?_drop, show 0 + (i - 0) = i by omega]; exact hi
  by_cases h1 : i < 60
  · refine ev_ft_ok1 e (List.mem_of_getElem? (i := i - 30) ?_)
    rw [List.getElem?_take_of_lt (by omega), List.getElem?_drop, show 30 + (i - 30) = i by omega]; exact hi
  by_cases h2 : i < 90
  · refine ev_ft_ok2 e (List.mem_of_getElem? (i := i - 60) ?_)
    rw [List.getElem?_take_of_lt (by omega), List.getElem?_drop, show 60 + (i - 60) = i by omega]; exact hi
  by_cases h3 : i < 120
  · refine ev_ft_ok3 e (List.mem_of_getElem? (i := i - 90) ?_)
    rw [List.getElem?_take_of_lt (by omega), List.getElem?_drop, show 90 + (i - 90) = i by omega]; exact hi
  have hl := (List.getElem?_eq_some_iff.mp hi).1
  have h9 : ev_ft.length = 113 := by decide +kernel
  omega
set_option maxRecDepth 100000 in
theorem ev_ct_ok0 : ∀ e ∈ (ev_ct.drop 0).take 30, (1000 ≤ e.2.2.1 ∨ (e.2.2.1 < ev_nm ∧ ev_w e.2.2.2 = some (.methodLink (ev_own e.1) e.2.1 (ev_y e.2.2.1)))) := by decide +kernel
set_option maxRecDepth 100000 in
theorem ev_ct_ok1 : ∀ e ∈ (ev_ct.drop 30).take 30, (1000 ≤ e.2.2.1 ∨ (e.2.2.1 < ev_nm ∧ ev_w e.2.2.2 = some (.methodLink (ev_own e.1) e.2.1 (ev_y e.2.2.1)))) := by decide +kernel
set_option maxRecDepth 100000 in
theorem ev_ct_ok2 : ∀ e ∈ (ev_ct.drop 60).take 30, (1000 ≤ e.2.2.1 ∨ (e.2.2.1 < ev_nm ∧ ev_w e.2.2.2 = some (.methodLink (ev_own e.1) e.2.1 (ev_y e.2.2.1)))) := by decide +kernel
set_option maxRecDepth 100000 in
theorem ev_ct_ok3 : ∀ e ∈ (ev_ct.drop 90).take 30, (1000 ≤ e.2.2.1 ∨ (e.2.2.1 < ev_nm ∧ ev_w e.2.2.2 = some (.methodLink (ev_own e.1) e.2.1 (ev_y e.2.2.1)))) := by decide +kernel
set_option maxRecDepth 100000 in
theorem ev_ct_ok4 : ∀ e ∈ (ev_ct.drop 120).take 30, (1000 ≤ e.2.2.1 ∨ (e.2.2.1 < ev_nm ∧ ev_w e.2.2.2 = some (.methodLink (ev_own e.1) e.2.1 (ev_y e.2.2.1)))) := by decide +kernel
set_option maxRecDepth 100000 in
theorem ev_ct_ok5 : ∀ e ∈ (ev_ct.drop 150).take 30, (1000 ≤ e.2.2.1 ∨ (e.2.2.1 < ev_nm ∧ ev_w e.2.2.2 = some (.methodLink (ev_own e.1) e.2.1 (ev_y e.2.2.1)))) := by decide +kernel
set_option maxRecDepth 100000 in
theorem ev_ct_ok6 : ∀ e ∈ (ev_ct.drop 180).take 30, (1000 ≤ e.2.2.1 ∨ (e.2.2.1 < ev_nm ∧ ev_w e.2.2.2 = some (.methodLink (ev_own e.1) e.2.1 (ev_y e.2.2.1)))) := by decide +kernel
set_option maxRecDepth 100000 in
theorem ev_ct_ok7 : ∀ e ∈ (ev_ct.drop 210).take 30, (1000 ≤ e.2.2.1 ∨ (e.2.2.1 < ev_nm ∧ ev_w e.2.2.2 = some (.methodLink (ev_own e.1) e.2.1 (ev_y e.2.2.1)))) := by decide +kernel
theorem ev_ct_ok : ∀ e ∈ ev_ct, (1000 ≤ e.2.2.1 ∨ (e.2.2.1 < ev_nm ∧ ev_w e.2.2.2 = some (.methodLink (ev_own e.1) e.2.1 (ev_y e.2.2.1)))) := by
  intro e he
  obtain ⟨i, hi⟩ := List.getElem?_of_mem he
  by_cases h0 : i < 30
  · refine ev_ct_ok0 e (List.mem_of_getElem? (i := i - 0) ?_)
    rw [List.getElem?_take_of_lt (by omega), List.getElem?_drop, show 0 + (i - 0) = i by omega]; exact hi
  by_cases h1 : i < 60
  · refine ev_ct_ok1 e (List.mem_of_getElem? (i := i - 30) ?_)
    rw [List.getElem?_take_of_lt (by omega), List.getElem?_drop, show 30 + (i - 30) = i by omega]; exact hi
  by_cases h2 : i < 90
  · refine ev_ct_ok2 e (List.mem_of_getElem? (i := i - 60) ?_)
    rw [List.getElem?_take_of_lt (by omega), List.getElem?_drop, show 60 + (i - 60) = i by omega]; exact hi
  by_cases h3 : i < 120
  · refine ev_ct_ok3 e (List.mem_of_getElem? (i := i - 90) ?_)
    rw [List.getElem?_take_of_lt (by omega), List.getElem?_drop, show 90 + (i - 90) = i by omega]; exact hi
  by_cases h4 : i < 150
  · refine ev_ct_ok4 e (List.mem_of_getElem? (i := i - 120) ?_)
    rw [List.getElem?_take_of_lt (by omega), List.getElem?_drop, show 120 + (i - 120) = i by omega]; exact hi
  by_cases h5 : i < 180
  · refine ev_ct_ok5 e (List.mem_of_getElem? (i := i - 150) ?_)
    rw [List.getElem?_take_of_lt (by omega), List.getElem?_drop, show 150 + (i - 150) = i by omega]; exact hi
  by_cases h6 : i < 210
  · refine ev_ct_ok6 e (List.mem_of_getElem? (i := i - 180) ?_)
    rw [List.getElem?_take_of_lt (by omega), List.getElem?_drop, show 180 + (i - 180) = i by omega]; exact hi
  by_cases h7 : i < 240
  · refine ev_ct_ok7 e (List.mem_of_getElem? (i := i - 210) ?_)
    rw [List.getElem?_take_of_lt (by omega), List.getElem?_drop, show 210 + (i - 210) = i by omega]; exact hi
  have hl := (List.getElem?_eq_some_iff.mp hi).1
  have h9 : ev_ct.length = 237 := by decide +kernel
  omega
set_option maxRecDepth 100000 in
theorem ev_nt_ok0 : ∀ e ∈ (ev_nt.drop 0).take 30, ev_w e.2.2.2 = some (.classLink (ev_own e.1) e.2.1 (ev_own e.2.2.1)) ∧ e.2.2.1 < 12 := by decide +kernel
theorem ev_nt_ok : ∀ e ∈ ev_nt, ev_w e.2.2.2 = some (.classLink (ev_own e.1) e.2.1 (ev_own e.2.2.1)) ∧ e.2.2.1 < 12 := by
  intro e he
  obtain ⟨i, hi⟩ := List.getElem?_of_mem he
  by_cases h0 : i < 30
  · refine ev_nt_ok0 e (List.mem_of_getElem? (i := i - 0) ?_)
    rw [List.getElem?_take_of_lt (by omega), List.getElem?_drop, show 0 + (i - 0) = i by omega]; exact hi
  have hl := (List.getElem?_eq_some_iff.mp hi).1
  have h9 : ev_nt.length = 14 := by decide +kernel
  omega
set_option maxRecDepth 100000 in
theorem ev_xt_ok0 : ∀ e ∈ (ev_xt.drop 0).take 30, ev_w e.2.2.2 = some (.classLink (ev_own e.1) e.2.1 (ev_X.getD e.2.2.1 "")) := by decide +kernel
theorem ev_xt_ok : ∀ e ∈ ev_xt, ev_w e.2.2.2 = some (.classLink (ev_own e.1) e.2.1 (ev_X.getD e.2.2.1 "")) := by
  intro e he
  obtain ⟨i, hi⟩ := List.getElem?_of_mem he
  by_cases h0 : i < 30
  · refine ev_xt_ok0 e (List.mem_of_getElem? (i := i - 0) ?_)
    rw [List.getElem?_take_of_lt (by omega), List.getElem?_drop, show 0 + (i - 0) = i by omega]; exact hi
  have hl := (List.getElem?_eq_some_iff.mp hi).1
  have h9 : ev_xt.length = 4 := by decide +kernel
  omega
set_option maxRecDepth 100000 in
theorem ev_sr_ok0 : ∀ e ∈ (ev_sr.drop 0).take 30, ev_w e.2.2.2.2 = some (.stringRef (ev_own e.1) e.2.1 e.2.2.1) := by decide +kernel
theorem ev_sr_ok : ∀ e ∈ ev_sr, ev_w e.2.2.2.2 = some (.stringRef (ev_own e.1) e.2.1 e.2.2.1) := by
  intro e he
  obtain ⟨i, hi⟩ := List.getElem?_of_mem he
  by_cases h0 : i < 30
  · refine ev_sr_ok0 e (List.mem_of_getElem? (i := i - 0) ?_)
    rw [List.getElem?_take_of_lt (by omega), List.getElem?_drop, show 0 + (i - 0) = i by omega]; exact hi
  have hl := (List.getElem?_eq_some_iff.mp hi).1
  have h9 : ev_sr.length = 17 := by decide +kernel
  omega
theorem ev_pA_ok : ev_w (ev_pA.getD 0 0) = some (.arrayClass .int) ∧ ev_w (ev_pA.getD 1 0) = some (.arrayClass .byte) ∧ ev_w (ev_pA.getD 2 0) = some (.arrayClass .int) := by decide +kernel
theorem ev_pO_ok : ev_w ev_pO = some (.arrayOver (.object "LanternChess$Game")) ∧ ev_w ev_pH = some (.classLink (ev_own 4) 9 "LanternChess$Game") := by decide +kernel
theorem ev_pV_ok : ev_w (ev_pV.getD 0 0) = some (.fieldLink (ev_own 1) 34 "LanternChess$Field" "VALUES" "[I") ∧ ev_w (ev_pV.getD 1 0) = some (.fieldLink (ev_own 1) 34 "LanternChess$Field" "VALUES" "[I") := by decide +kernel
theorem ev_fty : ∀ e ∈ ev_ft, (e.2.2.2.2.1 = 0 → ev_ty e.2.2.1 e.2.2.2.1 = .int) ∧ (e.2.2.2.2.1 = 1 → ev_ty e.2.2.1 e.2.2.2.1 = .boolean) ∧ (e.2.2.2.2.1 = 2 → refKind (ev_ty e.2.2.1 e.2.2.2.1) = true) := by decide +kernel
def ev_okK (e : Nat × Nat × Value × Nat) : Bool := match e.2.2.1 with
  | .int v => decide (ev_w e.2.2.2 = some (.constant (ev_own e.1) e.2.1 v))
  | .long v => decide (ev_w e.2.2.2 = some (.constantLong (ev_own e.1) e.2.1 v))
  | _ => false
set_option maxRecDepth 100000 in
theorem ev_kt_ok : ∀ e ∈ ev_kt, ev_okK e = true := by decide +kernel
theorem ev_tyok : ∀ c, c < 12 → ∀ k, k < (ev_C c).2.2 → parseFieldDescriptor ((ev_C c).2.1 k).2.2.1 = some (ev_ty c k) := by decide +kernel
theorem ev_nmok : ∀ c, c < 12 → ∀ a, a < (ev_C c).2.2 → ∀ b, b < (ev_C c).2.2 → a ≠ b → ((ev_C c).2.1 a).2.1 ≠ ((ev_C c).2.1 b).2.1 := by decide +kernel
theorem ev_newok : ∀ c, c < 12 → ∀ k, k < (ev_C c).2.2 → defaultValue (ev_ty c k) = vp_V (ev_new c) k := by decide +kernel
def ev_lp (c : Nat) : List Nat := match c with
  | 0 => [11123, 11125, 11127, 11129, 11131, 11133]
  | 1 => [11105, 11107, 11109]
  | 2 => [11148, 11150, 11152, 11154]
  | 3 => [11204, 11206, 11208, 11210, 11212, 11214, 11216, 11218, 11220, 11222, 11224, 11226, 11228]
  | 4 => [12004, 12006, 12008]
  | 5 => [11168, 11170, 11172]
  | 6 => [12066, 12068, 12070, 12072, 12074]
  | 7 => [12035, 12037, 12039, 12041, 12043, 12045, 12047, 12049]
  | 8 => [11058, 11060, 11062, 11064, 11066, 11068, 11070, 11072, 11074, 11076]
  | 9 => [12089, 12091, 12093, 12095]
  | 10 => [12139, 12141, 12143, 12145, 12147, 12149, 12151, 12153, 12155, 12157, 12159]
  | _ => [11168, 11170, 11172]
def ev_ip (c : Nat) : Nat := match c with
  | 0 => 11087
  | 1 => 11093
  | 2 => 11137
  | 3 => 11081
  | 4 => 11232
  | 5 => 11158
  | 6 => 12053
  | 7 => 12012
  | 8 => 11040
  | 9 => 12078
  | 10 => 11032
  | _ => 11158
set_option maxRecDepth 100000 in
theorem ev_lay0 : (ev_lp 0).map ev_w = (u_ws (ev_C 0).1 (ev_C 0).2.1 (ev_C 0).2.2).map some ∧ ev_w (ev_ip 0) = some (.instantiable (ev_C 0).1 (ev_C 0).2.2) ∧ (ev_C 0).1 = ev_own 0 ∧ Cond.initialized (ev_C 0).1 ∈ tables_1_1.take 31 := by decide +kernel
set_option maxRecDepth 100000 in
theorem ev_lay1 : (ev_lp 1).map ev_w = (u_ws (ev_C 1).1 (ev_C 1).2.1 (ev_C 1).2.2).map some ∧ ev_w (ev_ip 1) = some (.instantiable (ev_C 1).1 (ev_C 1).2.2) ∧ (ev_C 1).1 = ev_own 1 ∧ Cond.initialized (ev_C 1).1 ∈ tables_1_1.take 31 := by decide +kernel
set_option maxRecDepth 100000 in
theorem ev_lay2 : (ev_lp 2).map ev_w = (u_ws (ev_C 2).1 (ev_C 2).2.1 (ev_C 2).2.2).map some ∧ ev_w (ev_ip 2) = some (.instantiable (ev_C 2).1 (ev_C 2).2.2) ∧ (ev_C 2).1 = ev_own 2 ∧ Cond.initialized (ev_C 2).1 ∈ tables_1_1.take 31 := by decide +kernel
set_option maxRecDepth 100000 in
theorem ev_lay3 : (ev_lp 3).map ev_w = (u_ws (ev_C 3).1 (ev_C 3).2.1 (ev_C 3).2.2).map some ∧ ev_w (ev_ip 3) = some (.instantiable (ev_C 3).1 (ev_C 3).2.2) ∧ (ev_C 3).1 = ev_own 3 ∧ Cond.initialized (ev_C 3).1 ∈ tables_1_1.take 31 := by decide +kernel
set_option maxRecDepth 100000 in
theorem ev_lay4 : (ev_lp 4).map ev_w = (u_ws (ev_C 4).1 (ev_C 4).2.1 (ev_C 4).2.2).map some ∧ ev_w (ev_ip 4) = some (.instantiable (ev_C 4).1 (ev_C 4).2.2) ∧ (ev_C 4).1 = ev_own 4 ∧ Cond.initialized (ev_C 4).1 ∈ tables_1_1.take 31 := by decide +kernel
set_option maxRecDepth 100000 in
theorem ev_lay5 : (ev_lp 5).map ev_w = (u_ws (ev_C 5).1 (ev_C 5).2.1 (ev_C 5).2.2).map some ∧ ev_w (ev_ip 5) = some (.instantiable (ev_C 5).1 (ev_C 5).2.2) ∧ (ev_C 5).1 = ev_own 5 ∧ Cond.initialized (ev_C 5).1 ∈ tables_1_1.take 31 := by decide +kernel
set_option maxRecDepth 100000 in
theorem ev_lay6 : (ev_lp 6).map ev_w = (u_ws (ev_C 6).1 (ev_C 6).2.1 (ev_C 6).2.2).map some ∧ ev_w (ev_ip 6) = some (.instantiable (ev_C 6).1 (ev_C 6).2.2) ∧ (ev_C 6).1 = ev_own 6 ∧ Cond.initialized (ev_C 6).1 ∈ tables_1_1.take 31 := by decide +kernel
set_option maxRecDepth 100000 in
theorem ev_lay7 : (ev_lp 7).map ev_w = (u_ws (ev_C 7).1 (ev_C 7).2.1 (ev_C 7).2.2).map some ∧ ev_w (ev_ip 7) = some (.instantiable (ev_C 7).1 (ev_C 7).2.2) ∧ (ev_C 7).1 = ev_own 7 ∧ Cond.initialized (ev_C 7).1 ∈ tables_1_1.take 31 := by decide +kernel
set_option maxRecDepth 100000 in
theorem ev_lay8 : (ev_lp 8).map ev_w = (u_ws (ev_C 8).1 (ev_C 8).2.1 (ev_C 8).2.2).map some ∧ ev_w (ev_ip 8) = some (.instantiable (ev_C 8).1 (ev_C 8).2.2) ∧ (ev_C 8).1 = ev_own 8 ∧ Cond.initialized (ev_C 8).1 ∈ tables_1_1.take 31 := by decide +kernel
set_option maxRecDepth 100000 in
theorem ev_lay9 : (ev_lp 9).map ev_w = (u_ws (ev_C 9).1 (ev_C 9).2.1 (ev_C 9).2.2).map some ∧ ev_w (ev_ip 9) = some (.instantiable (ev_C 9).1 (ev_C 9).2.2) ∧ (ev_C 9).1 = ev_own 9 ∧ Cond.initialized (ev_C 9).1 ∈ tables_1_1.take 31 := by decide +kernel
set_option maxRecDepth 100000 in
theorem ev_lay10 : (ev_lp 10).map ev_w = (u_ws (ev_C 10).1 (ev_C 10).2.1 (ev_C 10).2.2).map some ∧ ev_w (ev_ip 10) = some (.instantiable (ev_C 10).1 (ev_C 10).2.2) ∧ (ev_C 10).1 = ev_own 10 ∧ Cond.initialized (ev_C 10).1 ∈ tables_1_1.take 31 := by decide +kernel
set_option maxRecDepth 100000 in
theorem ev_lay11 : (ev_lp 11).map ev_w = (u_ws (ev_C 11).1 (ev_C 11).2.1 (ev_C 11).2.2).map some ∧ ev_w (ev_ip 11) = some (.instantiable (ev_C 11).1 (ev_C 11).2.2) ∧ (ev_C 11).1 = ev_own 11 ∧ Cond.initialized (ev_C 11).1 ∈ tables_1_1.take 31 := by decide +kernel
theorem ev_lay : ∀ c, c < 12 → (ev_lp c).map ev_w = (u_ws (ev_C c).1 (ev_C c).2.1 (ev_C c).2.2).map some ∧ ev_w (ev_ip c) = some (.instantiable (ev_C c).1 (ev_C c).2.2) ∧ (ev_C c).1 = ev_own c ∧ Cond.initialized (ev_C c).1 ∈ tables_1_1.take 31 := by
  intro c h
  match c, h with
  | 0, _ => exact ev_lay0
  | 1, _ => exact ev_lay1
  | 2, _ => exact ev_lay2
  | 3, _ => exact ev_lay3
  | 4, _ => exact ev_lay4
  | 5, _ => exact ev_lay5
  | 6, _ => exact ev_lay6
  | 7, _ => exact ev_lay7
  | 8, _ => exact ev_lay8
  | 9, _ => exact ev_lay9
  | 10, _ => exact ev_lay10
  | 11, _ => exact ev_lay11
theorem ev_wsin {c : Nat} (h : c < 12) : ∀ w ∈ u_ws (ev_C c).1 (ev_C c).2.1 (ev_C c).2.2, w ∈ lw_tbl := by
  intro w hw
  have h1 := (ev_lay c h).1
  have h2 : some w ∈ (ev_lp c).map ev_w := by rw [h1]; exact List.mem_map.mpr ⟨w, hw, rfl⟩
  obtain ⟨p, -, hp⟩ := List.mem_map.mp h2
  exact ev_mem hp
theorem ev_init {w : Cond} (h : w ∈ tables_1_1.take 31) : w ∈ lw_tbl := List.mem_append_right _ (List.mem_append_left _ (List.mem_of_mem_take h))
