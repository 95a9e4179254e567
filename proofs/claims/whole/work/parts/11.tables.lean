/-! TABLES of this claim, written by wip/whole/gen_tables.py: classes, strings, methods, instructions -/
def am_T0 : u_T := fun k => match k with
  | 0 => ("MarkInlines", "ready", "LMarkInlines$Row;", true)
  | 1 => ("MarkInlines", "tape", "LMarkInlines$Row;", true)
  | 2 => ("MarkInlines", "definitions", "LMarkInlines$Definitions;", true)
  | 3 => ("MarkInlines", "reader", "LMarkInlines$Reader;", true)
  | 4 => ("MarkInlines", "nodes", "LMarkInlines$Nodes;", true)
  | 5 => ("MarkInlines", "writer", "LMarkInlines$Writer;", true)
  | _ => ("MarkInlines", "latestFault", "I", false)
def am_ty0 : Nat → FieldType := fun k => match k with
  | 0 => .object "MarkInlines$Row"
  | 1 => .object "MarkInlines$Row"
  | 2 => .object "MarkInlines$Definitions"
  | 3 => .object "MarkInlines$Reader"
  | 4 => .object "MarkInlines$Nodes"
  | 5 => .object "MarkInlines$Writer"
  | _ => .int
def am_T1 : u_T := fun k => match k with
  | 0 => ("MarkInlines$Definitions", "tape", "LMarkInlines$Row;", true)
  | 1 => ("MarkInlines$Definitions", "scan", "LMarkInlines$Scan;", true)
  | 2 => ("MarkInlines$Definitions", "letters", "LMarkInlines$Row;", true)
  | 3 => ("MarkInlines$Definitions", "ends", "LMarkInlines$Row;", true)
  | _ => ("MarkInlines$Definitions", "wanted", "LMarkInlines$Row;", true)
def am_ty1 : Nat → FieldType := fun k => match k with
  | 0 => .object "MarkInlines$Row"
  | 1 => .object "MarkInlines$Scan"
  | 2 => .object "MarkInlines$Row"
  | 3 => .object "MarkInlines$Row"
  | _ => .object "MarkInlines$Row"
def am_T2 : u_T := fun k => match k with
  | 0 => ("MarkInlines$Links", "tape", "LMarkInlines$Row;", true)
  | 1 => ("MarkInlines$Links", "scan", "LMarkInlines$Scan;", true)
  | 2 => ("MarkInlines$Links", "marks", "LMarkInlines$Marks;", true)
  | 3 => ("MarkInlines$Links", "runs", "LMarkInlines$Runs;", true)
  | 4 => ("MarkInlines$Links", "definitions", "LMarkInlines$Definitions;", true)
  | 5 => ("MarkInlines$Links", "places", "LMarkInlines$Row;", true)
  | 6 => ("MarkInlines$Links", "images", "LMarkInlines$Row;", true)
  | 7 => ("MarkInlines$Links", "deads", "LMarkInlines$Row;", true)
  | 8 => ("MarkInlines$Links", "runsAhead", "LMarkInlines$Row;", true)
  | 9 => ("MarkInlines$Links", "ordinals", "LMarkInlines$Row;", true)
  | _ => ("MarkInlines$Links", "met", "I", false)
def am_ty2 : Nat → FieldType := fun k => match k with
  | 0 => .object "MarkInlines$Row"
  | 1 => .object "MarkInlines$Scan"
  | 2 => .object "MarkInlines$Marks"
  | 3 => .object "MarkInlines$Runs"
  | 4 => .object "MarkInlines$Definitions"
  | 5 => .object "MarkInlines$Row"
  | 6 => .object "MarkInlines$Row"
  | 7 => .object "MarkInlines$Row"
  | 8 => .object "MarkInlines$Row"
  | 9 => .object "MarkInlines$Row"
  | _ => .int
def am_T3 : u_T := fun k => match k with
  | 0 => ("MarkInlines$Marks", "kinds", "LMarkInlines$Row;", true)
  | 1 => ("MarkInlines$Marks", "values", "LMarkInlines$Row;", true)
  | 2 => ("MarkInlines$Marks", "leadManners", "LMarkInlines$Row;", true)
  | 3 => ("MarkInlines$Marks", "leadNumbers", "LMarkInlines$Row;", true)
  | 4 => ("MarkInlines$Marks", "targetFroms", "LMarkInlines$Row;", true)
  | 5 => ("MarkInlines$Marks", "targetTos", "LMarkInlines$Row;", true)
  | 6 => ("MarkInlines$Marks", "titleFroms", "LMarkInlines$Row;", true)
  | _ => ("MarkInlines$Marks", "titleTos", "LMarkInlines$Row;", true)
def am_ty3 : Nat → FieldType := fun k => match k with
  | 0 => .object "MarkInlines$Row"
  | 1 => .object "MarkInlines$Row"
  | 2 => .object "MarkInlines$Row"
  | 3 => .object "MarkInlines$Row"
  | 4 => .object "MarkInlines$Row"
  | 5 => .object "MarkInlines$Row"
  | 6 => .object "MarkInlines$Row"
  | _ => .object "MarkInlines$Row"
def am_T4 : u_T := fun k => match k with
  | 0 => ("MarkInlines$Nodes", "tape", "LMarkInlines$Row;", true)
  | 1 => ("MarkInlines$Nodes", "references", "LMarkInlines$References;", true)
  | 2 => ("MarkInlines$Nodes", "marks", "LMarkInlines$Marks;", true)
  | 3 => ("MarkInlines$Nodes", "kinds", "LMarkInlines$Row;", true)
  | 4 => ("MarkInlines$Nodes", "holders", "LMarkInlines$Row;", true)
  | 5 => ("MarkInlines$Nodes", "depths", "LMarkInlines$Row;", true)
  | 6 => ("MarkInlines$Nodes", "froms", "LMarkInlines$Row;", true)
  | 7 => ("MarkInlines$Nodes", "sizes", "LMarkInlines$Row;", true)
  | 8 => ("MarkInlines$Nodes", "titleFroms", "LMarkInlines$Row;", true)
  | 9 => ("MarkInlines$Nodes", "titleSizes", "LMarkInlines$Row;", true)
  | 10 => ("MarkInlines$Nodes", "numbers", "LMarkInlines$Row;", true)
  | 11 => ("MarkInlines$Nodes", "letters", "LMarkInlines$Row;", true)
  | _ => ("MarkInlines$Nodes", "isRead", "Z", false)
def am_ty4 : Nat → FieldType := fun k => match k with
  | 0 => .object "MarkInlines$Row"
  | 1 => .object "MarkInlines$References"
  | 2 => .object "MarkInlines$Marks"
  | 3 => .object "MarkInlines$Row"
  | 4 => .object "MarkInlines$Row"
  | 5 => .object "MarkInlines$Row"
  | 6 => .object "MarkInlines$Row"
  | 7 => .object "MarkInlines$Row"
  | 8 => .object "MarkInlines$Row"
  | 9 => .object "MarkInlines$Row"
  | 10 => .object "MarkInlines$Row"
  | 11 => .object "MarkInlines$Row"
  | _ => .boolean
def am_T5 : u_T := fun k => match k with
  | 0 => ("MarkInlines$Reader", "tape", "LMarkInlines$Row;", true)
  | 1 => ("MarkInlines$Reader", "scan", "LMarkInlines$Scan;", true)
  | 2 => ("MarkInlines$Reader", "references", "LMarkInlines$References;", true)
  | 3 => ("MarkInlines$Reader", "marks", "LMarkInlines$Marks;", true)
  | 4 => ("MarkInlines$Reader", "runs", "LMarkInlines$Runs;", true)
  | 5 => ("MarkInlines$Reader", "links", "LMarkInlines$Links;", true)
  | 6 => ("MarkInlines$Reader", "faultKind", "I", false)
  | _ => ("MarkInlines$Reader", "faultPlace", "I", false)
def am_ty5 : Nat → FieldType := fun k => match k with
  | 0 => .object "MarkInlines$Row"
  | 1 => .object "MarkInlines$Scan"
  | 2 => .object "MarkInlines$References"
  | 3 => .object "MarkInlines$Marks"
  | 4 => .object "MarkInlines$Runs"
  | 5 => .object "MarkInlines$Links"
  | 6 => .int
  | _ => .int
def am_T6 : u_T := fun k => match k with
  | 0 => ("MarkInlines$References", "tape", "LMarkInlines$Row;", true)
  | _ => ("MarkInlines$References", "told", "I", false)
def am_ty6 : Nat → FieldType := fun k => match k with
  | 0 => .object "MarkInlines$Row"
  | _ => .int
def am_T7 : u_T := fun k => match k with
  | 0 => ("MarkInlines$Row", "most", "I", true)
  | 1 => ("MarkInlines$Row", "cells", "[I", false)
  | _ => ("MarkInlines$Row", "count", "I", false)
def am_ty7 : Nat → FieldType := fun k => match k with
  | 0 => .int
  | 1 => .array .int
  | _ => .int
def am_T8 : u_T := fun k => match k with
  | 0 => ("MarkInlines$Runs", "tape", "LMarkInlines$Row;", true)
  | 1 => ("MarkInlines$Runs", "marks", "LMarkInlines$Marks;", true)
  | 2 => ("MarkInlines$Runs", "signs", "LMarkInlines$Row;", true)
  | 3 => ("MarkInlines$Runs", "lengths", "LMarkInlines$Row;", true)
  | 4 => ("MarkInlines$Runs", "firsts", "LMarkInlines$Row;", true)
  | 5 => ("MarkInlines$Runs", "ends", "LMarkInlines$Row;", true)
  | 6 => ("MarkInlines$Runs", "openers", "LMarkInlines$Row;", true)
  | _ => ("MarkInlines$Runs", "closers", "LMarkInlines$Row;", true)
def am_ty8 : Nat → FieldType := fun k => match k with
  | 0 => .object "MarkInlines$Row"
  | 1 => .object "MarkInlines$Marks"
  | 2 => .object "MarkInlines$Row"
  | 3 => .object "MarkInlines$Row"
  | 4 => .object "MarkInlines$Row"
  | 5 => .object "MarkInlines$Row"
  | 6 => .object "MarkInlines$Row"
  | _ => .object "MarkInlines$Row"
def am_T9 : u_T := fun k => match k with
  | _ => ("MarkInlines$Scan", "tape", "LMarkInlines$Row;", true)
def am_ty9 : Nat → FieldType := fun k => match k with
  | _ => .object "MarkInlines$Row"
def am_T10 : u_T := fun k => match k with
  | 0 => ("MarkInlines$Writer", "nodes", "LMarkInlines$Nodes;", true)
  | _ => ("MarkInlines$Writer", "out", "LMarkInlines$Row;", true)
def am_ty10 : Nat → FieldType := fun k => match k with
  | 0 => .object "MarkInlines$Nodes"
  | _ => .object "MarkInlines$Row"
def am_T11 : u_T := fun k => match k with
  | 0 => ("MarkInlinesModel", "thrown", "I", false)
  | 1 => ("MarkInlinesModel", "tape", "[I", true)
  | 2 => ("MarkInlinesModel", "ready", "[I", true)
  | 3 => ("MarkInlinesModel", "size", "I", false)
  | 4 => ("MarkInlinesModel", "labels", "[I", true)
  | 5 => ("MarkInlinesModel", "labelSizes", "[I", true)
  | 6 => ("MarkInlinesModel", "normal", "[I", true)
  | 7 => ("MarkInlinesModel", "definitions", "I", false)
  | 8 => ("MarkInlinesModel", "normalSize", "I", false)
  | 9 => ("MarkInlinesModel", "pool", "[I", true)
  | 10 => ("MarkInlinesModel", "pooled", "I", false)
  | 11 => ("MarkInlinesModel", "kinds", "[I", true)
  | 12 => ("MarkInlinesModel", "letters", "[I", true)
  | 13 => ("MarkInlinesModel", "texts", "[I", true)
  | 14 => ("MarkInlinesModel", "sizes", "[I", true)
  | 15 => ("MarkInlinesModel", "titles", "[I", true)
  | 16 => ("MarkInlinesModel", "titleSizes", "[I", true)
  | 17 => ("MarkInlinesModel", "leads", "[I", true)
  | 18 => ("MarkInlinesModel", "behind", "[I", true)
  | 19 => ("MarkInlinesModel", "ahead", "[I", true)
  | 20 => ("MarkInlinesModel", "items", "I", false)
  | 21 => ("MarkInlinesModel", "last", "I", false)
  | 22 => ("MarkInlinesModel", "runs", "[I", true)
  | 23 => ("MarkInlinesModel", "lengths", "[I", true)
  | 24 => ("MarkInlinesModel", "left", "[I", true)
  | 25 => ("MarkInlinesModel", "opens", "[Z", true)
  | 26 => ("MarkInlinesModel", "closes", "[Z", true)
  | 27 => ("MarkInlinesModel", "over", "[Z", true)
  | 28 => ("MarkInlinesModel", "runCount", "I", false)
  | 29 => ("MarkInlinesModel", "brackets", "[I", true)
  | 30 => ("MarkInlinesModel", "begins", "[I", true)
  | 31 => ("MarkInlinesModel", "runsAhead", "[I", true)
  | 32 => ("MarkInlinesModel", "met", "[I", true)
  | 33 => ("MarkInlinesModel", "images", "[Z", true)
  | 34 => ("MarkInlinesModel", "dead", "[Z", true)
  | 35 => ("MarkInlinesModel", "there", "I", false)
  | 36 => ("MarkInlinesModel", "metCount", "I", false)
  | 37 => ("MarkInlinesModel", "kind", "[I", true)
  | 38 => ("MarkInlinesModel", "parent", "[I", true)
  | 39 => ("MarkInlinesModel", "text", "[I", true)
  | 40 => ("MarkInlinesModel", "textSize", "[I", true)
  | 41 => ("MarkInlinesModel", "title", "[I", true)
  | 42 => ("MarkInlinesModel", "titleSize", "[I", true)
  | 43 => ("MarkInlinesModel", "lead", "[I", true)
  | 44 => ("MarkInlinesModel", "deep", "[I", true)
  | 45 => ("MarkInlinesModel", "nodes", "I", false)
  | 46 => ("MarkInlinesModel", "faultKind", "I", false)
  | 47 => ("MarkInlinesModel", "faultPlace", "I", false)
  | 48 => ("MarkInlinesModel", "out", "[I", true)
  | 49 => ("MarkInlinesModel", "outSize", "I", false)
  | 50 => ("MarkInlinesModel", "end", "I", false)
  | 51 => ("MarkInlinesModel", "told", "I", false)
  | 52 => ("MarkInlinesModel", "from", "I", false)
  | 53 => ("MarkInlinesModel", "to", "I", false)
  | 54 => ("MarkInlinesModel", "otherFrom", "I", false)
  | 55 => ("MarkInlinesModel", "otherTo", "I", false)
  | 56 => ("MarkInlinesModel", "isTitled", "Z", false)
  | _ => ("MarkInlinesModel", "names", "[I", true)
def am_ty11 : Nat → FieldType := fun k => match k with
  | 0 => .int
  | 1 => .array .int
  | 2 => .array .int
  | 3 => .int
  | 4 => .array .int
  | 5 => .array .int
  | 6 => .array .int
  | 7 => .int
  | 8 => .int
  | 9 => .array .int
  | 10 => .int
  | 11 => .array .int
  | 12 => .array .int
  | 13 => .array .int
  | 14 => .array .int
  | 15 => .array .int
  | 16 => .array .int
  | 17 => .array .int
  | 18 => .array .int
  | 19 => .array .int
  | 20 => .int
  | 21 => .int
  | 22 => .array .int
  | 23 => .array .int
  | 24 => .array .int
  | 25 => .array .boolean
  | 26 => .array .boolean
  | 27 => .array .boolean
  | 28 => .int
  | 29 => .array .int
  | 30 => .array .int
  | 31 => .array .int
  | 32 => .array .int
  | 33 => .array .boolean
  | 34 => .array .boolean
  | 35 => .int
  | 36 => .int
  | 37 => .array .int
  | 38 => .array .int
  | 39 => .array .int
  | 40 => .array .int
  | 41 => .array .int
  | 42 => .array .int
  | 43 => .array .int
  | 44 => .array .int
  | 45 => .int
  | 46 => .int
  | 47 => .int
  | 48 => .array .int
  | 49 => .int
  | 50 => .int
  | 51 => .int
  | 52 => .int
  | 53 => .int
  | 54 => .int
  | 55 => .int
  | 56 => .boolean
  | _ => .array .int
def am_T12 : u_T := fun k => match k with
  | 0 => ("java/lang/String", "value", "[B", true)
  | _ => ("java/lang/String", "coder", "B", true)
def am_ty12 : Nat → FieldType := fun k => match k with
  | 0 => .array .byte
  | _ => .byte
def am_cls : List vw_C := [("MarkInlines", am_T0, 7), ("MarkInlines$Definitions", am_T1, 5), ("MarkInlines$Links", am_T2, 11), ("MarkInlines$Marks", am_T3, 8), ("MarkInlines$Nodes", am_T4, 13), ("MarkInlines$Reader", am_T5, 8), ("MarkInlines$References", am_T6, 2), ("MarkInlines$Row", am_T7, 3), ("MarkInlines$Runs", am_T8, 8), ("MarkInlines$Scan", am_T9, 1), ("MarkInlines$Writer", am_T10, 2), ("MarkInlinesModel", am_T11, 58), ("java/lang/String", am_T12, 2)]
def am_ty : Nat → Nat → FieldType := fun i => match i with
  | 0 => am_ty0
  | 1 => am_ty1
  | 2 => am_ty2
  | 3 => am_ty3
  | 4 => am_ty4
  | 5 => am_ty5
  | 6 => am_ty6
  | 7 => am_ty7
  | 8 => am_ty8
  | 9 => am_ty9
  | 10 => am_ty10
  | 11 => am_ty11
  | _ => am_ty12
def am_fs : Nat → List Value := fun i => match i with
  | 0 => [.null, .null, .null, .null, .null, .null, .int 0]
  | 1 => [.null, .null, .null, .null, .null]
  | 2 => [.null, .null, .null, .null, .null, .null, .null, .null, .null, .null, .int 0]
  | 3 => [.null, .null, .null, .null, .null, .null, .null, .null]
  | 4 => [.null, .null, .null, .null, .null, .null, .null, .null, .null, .null, .null, .null, .int 0]
  | 5 => [.null, .null, .null, .null, .null, .null, .int 0, .int 0]
  | 6 => [.null, .int 0]
  | 7 => [.int 0, .null, .int 0]
  | 8 => [.null, .null, .null, .null, .null, .null, .null, .null]
  | 9 => [.null]
  | 10 => [.null, .null]
  | 11 => [.int 0, .null, .null, .int 0, .null, .null, .null, .int 0, .int 0, .null, .int 0, .null, .null, .null, .null, .null, .null, .null, .null, .null, .int 0, .int 0, .null, .null, .null, .null, .null, .null, .int 0, .null, .null, .null, .null, .null, .null, .int 0, .int 0, .null, .null, .null, .null, .null, .null, .null, .null, .int 0, .int 0, .int 0, .null, .int 0, .int 0, .int 0, .int 0, .int 0, .int 0, .int 0, .int 0, .null]
  | 12 => [.null, .int 0]
  | _ => []
def am_S : List (String × String × String) := [("java/lang/String", "COMPACT_STRINGS", "Z"), ("MarkInlines$References", "NAMED", "[I"), ("jdk/internal/util/Preconditions", "SIOOBE_FORMATTER", "Ljava/util/function/BiFunction;")]
def am_str : List (String × Nat × String × Nat) := [("MarkInlines", 102, "the tape is no label", 2),
  ("MarkInlines", 115, "there are too many definitions", 4),
  ("MarkInlines$References", 42, "amp;lt;gt;quot;apos;nbsp;copy;reg;auml;ouml;uuml;szlig;eacute;euro;hellip;mdash;", 6),
  ("MarkInlines$Nodes", 128, "mailto:", 8),
  ("MarkInlines", 133, "the text has a fault", 10),
  ("MarkInlines", 154, "there is no such node", 12),
  ("MarkInlines$Writer", 134, "&amp;", 14),
  ("MarkInlines$Writer", 136, "&lt;", 16),
  ("MarkInlines$Writer", 138, "&gt;", 18),
  ("MarkInlines$Writer", 140, "&quot;", 20),
  ("MarkInlines$Writer", 126, "", 22),
  ("MarkInlines", 163, "nothing is read", 24),
  ("MarkInlines$Writer", 62, "</em>", 26),
  ("MarkInlines$Writer", 68, "</strong>", 28),
  ("MarkInlines$Writer", 70, "</a>", 30),
  ("MarkInlines$Writer", 76, "\n", 32),
  ("MarkInlines$Writer", 78, "<br/>\n", 34),
  ("MarkInlines$Writer", 80, "<code>", 36),
  ("MarkInlines$Writer", 82, "</code>", 38),
  ("MarkInlines$Writer", 84, "<em>", 40),
  ("MarkInlines$Writer", 86, "<strong>", 42),
  ("MarkInlines$Writer", 88, "<a href=\"", 44),
  ("MarkInlines$Writer", 113, "\" title=\"", 46),
  ("MarkInlines$Writer", 96, "\">", 48),
  ("MarkInlines$Writer", 98, "<img src=\"", 50),
  ("MarkInlines$Writer", 100, "\" alt=\"", 52),
  ("MarkInlines$Writer", 102, "\"/>", 54)]
def am_nst : List (String × Nat × String × String × String) := [("MarkInlines", 124, "MarkInlines$Reader", "faultKind", "I"),
  ("MarkInlines", 138, "MarkInlines$Reader", "faultPlace", "I"),
  ("MarkInlines", 160, "MarkInlines$Writer", "out", "LMarkInlines$Row;"),
  ("MarkInlines$Nodes", 72, "MarkInlines$Marks", "kinds", "LMarkInlines$Row;"),
  ("MarkInlines$Nodes", 79, "MarkInlines$Marks", "values", "LMarkInlines$Row;"),
  ("MarkInlines$Nodes", 102, "MarkInlines$Marks", "leadManners", "LMarkInlines$Row;"),
  ("MarkInlines$Nodes", 105, "MarkInlines$Marks", "leadNumbers", "LMarkInlines$Row;"),
  ("MarkInlines$Nodes", 108, "MarkInlines$Marks", "targetFroms", "LMarkInlines$Row;"),
  ("MarkInlines$Nodes", 111, "MarkInlines$Marks", "targetTos", "LMarkInlines$Row;"),
  ("MarkInlines$Nodes", 124, "MarkInlines$Marks", "titleFroms", "LMarkInlines$Row;"),
  ("MarkInlines$Nodes", 125, "MarkInlines$Marks", "titleTos", "LMarkInlines$Row;"),
  ("MarkInlines$Reader", 117, "MarkInlines$Marks", "kinds", "LMarkInlines$Row;"),
  ("MarkInlines$Reader", 130, "MarkInlines$Marks", "values", "LMarkInlines$Row;"),
  ("MarkInlines$Reader", 161, "MarkInlines$References", "told", "I"),
  ("MarkInlines$Runs", 91, "MarkInlines$Marks", "kinds", "LMarkInlines$Row;"),
  ("MarkInlines$Writer", 37, "MarkInlines$Nodes", "holders", "LMarkInlines$Row;"),
  ("MarkInlines$Writer", 51, "MarkInlines$Nodes", "kinds", "LMarkInlines$Row;"),
  ("MarkInlines$Writer", 104, "MarkInlines$Nodes", "numbers", "LMarkInlines$Row;"),
  ("MarkInlines$Writer", 110, "MarkInlines$Nodes", "titleSizes", "LMarkInlines$Row;"),
  ("MarkInlines$Writer", 115, "MarkInlines$Nodes", "sizes", "LMarkInlines$Row;")]
abbrev am_X : Nat := 57
def am_byt : List (List Int32) := [[116, 104, 101, 32, 116, 97, 112, 101, 32, 105, 115, 32, 110, 111, 32, 108, 97, 98, 101, 108],
  [116, 104, 101, 114, 101, 32, 97, 114, 101, 32, 116, 111, 111, 32, 109, 97, 110, 121, 32, 100, 101, 102, 105, 110, 105, 116, 105, 111, 110, 115],
  [97, 109, 112, 59, 108, 116, 59, 103, 116, 59, 113, 117, 111, 116, 59, 97, 112, 111, 115, 59, 110, 98, 115, 112, 59, 99, 111, 112, 121, 59, 114, 101, 103, 59, 97, 117, 109, 108, 59, 111, 117, 109, 108, 59, 117, 117, 109, 108, 59, 115, 122, 108, 105, 103, 59, 101, 97, 99, 117, 116, 101, 59, 101, 117, 114, 111, 59, 104, 101, 108, 108, 105, 112, 59, 109, 100, 97, 115, 104, 59],
  [109, 97, 105, 108, 116, 111, 58],
  [116, 104, 101, 32, 116, 101, 120, 116, 32, 104, 97, 115, 32, 97, 32, 102, 97, 117, 108, 116],
  [116, 104, 101, 114, 101, 32, 105, 115, 32, 110, 111, 32, 115, 117, 99, 104, 32, 110, 111, 100, 101],
  [38, 97, 109, 112, 59],
  [38, 108, 116, 59],
  [38, 103, 116, 59],
  [38, 113, 117, 111, 116, 59],
  [],
  [110, 111, 116, 104, 105, 110, 103, 32, 105, 115, 32, 114, 101, 97, 100],
  [60, 47, 101, 109, 62],
  [60, 47, 115, 116, 114, 111, 110, 103, 62],
  [60, 47, 97, 62],
  [10],
  [60, 98, 114, 47, 62, 10],
  [60, 99, 111, 100, 101, 62],
  [60, 47, 99, 111, 100, 101, 62],
  [60, 101, 109, 62],
  [60, 115, 116, 114, 111, 110, 103, 62],
  [60, 97, 32, 104, 114, 101, 102, 61, 34],
  [34, 32, 116, 105, 116, 108, 101, 61, 34],
  [34, 62],
  [60, 105, 109, 103, 32, 115, 114, 99, 61, 34],
  [34, 32, 97, 108, 116, 61, 34],
  [34, 47, 62]]
/-- a method: its name, its bytes, its locals, what it answers, whether it is static -/
abbrev am_M : Type := MethodName × ByteArray × Nat × Option FieldType × Bool
def am_m0 : am_M := (⟨"MarkInlinesLaw", "law", "([I)Z"⟩, code, 7, (some .boolean), true)
def am_m1 : am_M := (⟨"MarkInlines", "node", "(II)I"⟩, prog_1_method_10_code, 3, (some .int), false)
def am_m2 : am_M := (⟨"MarkInlines", "letter", "(IZI)I"⟩, prog_1_method_11_code, 4, (some .int), false)
def am_m3 : am_M := (⟨"MarkInlines", "plain", "(I)I"⟩, prog_1_method_12_code, 2, (some .int), false)
def am_m4 : am_M := (⟨"MarkInlines", "write", "()I"⟩, prog_1_method_13_code, 1, (some .int), false)
def am_m5 : am_M := (⟨"MarkInlines", "output", "(I)I"⟩, prog_1_method_14_code, 2, (some .int), false)
def am_m6 : am_M := (⟨"MarkInlines", "about", "(I)I"⟩, prog_1_method_15_code, 2, (some .int), false)
def am_m7 : am_M := (⟨"MarkInlines", "<init>", "()V"⟩, prog_1_method_1_code, 4, none, false)
def am_m8 : am_M := (⟨"MarkInlines", "feed", "(IIIII)V"⟩, prog_1_method_2_code, 6, none, false)
def am_m9 : am_M := (⟨"MarkInlines", "makeReady", "(II)V"⟩, prog_1_method_3_code, 4, none, false)
def am_m10 : am_M := (⟨"MarkInlines", "end", "(I)I"⟩, prog_1_method_4_code, 3, (some .int), false)
def am_m11 : am_M := (⟨"MarkInlines", "wipe", "()V"⟩, prog_1_method_5_code, 1, none, false)
def am_m12 : am_M := (⟨"MarkInlines", "define", "()I"⟩, prog_1_method_6_code, 2, (some .int), false)
def am_m13 : am_M := (⟨"MarkInlines", "drop", "()V"⟩, prog_1_method_7_code, 1, none, false)
def am_m14 : am_M := (⟨"MarkInlines", "read", "()I"⟩, prog_1_method_8_code, 1, (some .int), false)
def am_m15 : am_M := (⟨"MarkInlines", "fault", "(I)I"⟩, prog_1_method_9_code, 2, (some .int), false)
def am_m16 : am_M := (⟨"MarkInlines$Definitions", "<init>", "(LMarkInlines$Row;LMarkInlines$Scan;)V"⟩, prog_2_method_1_code, 3, none, false)
def am_m17 : am_M := (⟨"MarkInlines$Definitions", "count", "()I"⟩, prog_2_method_2_code, 1, (some .int), false)
def am_m18 : am_M := (⟨"MarkInlines$Definitions", "clear", "()V"⟩, prog_2_method_3_code, 1, none, false)
def am_m19 : am_M := (⟨"MarkInlines$Definitions", "canBeLabel", "()Z"⟩, prog_2_method_4_code, 1, (some .boolean), false)
def am_m20 : am_M := (⟨"MarkInlines$Definitions", "numberOf", "(II)I"⟩, prog_2_method_5_code, 5, (some .int), false)
def am_m21 : am_M := (⟨"MarkInlines$Definitions", "add", "()I"⟩, prog_2_method_6_code, 2, (some .int), false)
def am_m22 : am_M := (⟨"MarkInlines$Definitions", "wantNormal", "(II)V"⟩, prog_2_method_7_code, 6, none, false)
def am_m23 : am_M := (⟨"MarkInlines$Definitions", "isWanted", "(II)Z"⟩, prog_2_method_8_code, 4, (some .boolean), false)
def am_m24 : am_M := (⟨"MarkInlines$Links", "<init>", "(LMarkInlines$Row;LMarkInlines$Scan;LMarkInlines$Marks;LMarkInlines$Runs;LMarkInlines$Definitions;)V"⟩, prog_3_method_1_code, 6, none, false)
def am_m25 : am_M := (⟨"MarkInlines$Links", "startOver", "()V"⟩, prog_3_method_2_code, 1, none, false)
def am_m26 : am_M := (⟨"MarkInlines$Links", "forgetFrom", "(I)V"⟩, prog_3_method_3_code, 2, none, false)
def am_m27 : am_M := (⟨"MarkInlines$Links", "meet", "(IZ)V"⟩, prog_3_method_4_code, 3, none, false)
def am_m28 : am_M := (⟨"MarkInlines$Links", "killLinkBrackets", "()V"⟩, prog_3_method_5_code, 2, none, false)
def am_m29 : am_M := (⟨"MarkInlines$Links", "close", "(I)I"⟩, prog_3_method_6_code, 5, (some .int), false)
def am_m30 : am_M := (⟨"MarkInlines$Links", "textFrom", "(I)I"⟩, prog_3_method_7_code, 2, (some .int), false)
def am_m31 : am_M := (⟨"MarkInlines$Links", "labelledEnd", "(II)I"⟩, prog_3_method_8_code, 7, (some .int), false)
def am_m32 : am_M := (⟨"MarkInlines$Links", "writtenOutEnd", "(I)I"⟩, prog_3_method_9_code, 11, (some .int), false)
def am_m33 : am_M := (⟨"MarkInlines$Marks", "<init>", "()V"⟩, prog_4_method_1_code, 1, none, false)
def am_m34 : am_M := (⟨"MarkInlines$Marks", "startOver", "(LMarkInlines$Row;)V"⟩, prog_4_method_2_code, 3, none, false)
def am_m35 : am_M := (⟨"MarkInlines$Marks", "erase", "(II)V"⟩, prog_4_method_3_code, 4, none, false)
def am_m36 : am_M := (⟨"MarkInlines$Marks", "hold", "(III)V"⟩, prog_4_method_4_code, 4, none, false)
def am_m37 : am_M := (⟨"MarkInlines$Marks", "addLead", "(IIIIII)V"⟩, prog_4_method_5_code, 7, none, false)
def am_m38 : am_M := (⟨"MarkInlines$Nodes", "addAddress", "(IZ)V"⟩, prog_5_method_10_code, 4, none, false)
def am_m39 : am_M := (⟨"MarkInlines$Nodes", "tell", "(II)I"⟩, prog_5_method_11_code, 3, (some .int), false)
def am_m40 : am_M := (⟨"MarkInlines$Nodes", "letterOf", "(IZI)I"⟩, prog_5_method_12_code, 5, (some .int), false)
def am_m41 : am_M := (⟨"MarkInlines$Nodes", "behind", "(I)I"⟩, prog_5_method_13_code, 3, (some .int), false)
def am_m42 : am_M := (⟨"MarkInlines$Nodes", "<init>", "(LMarkInlines$Row;LMarkInlines$References;LMarkInlines$Marks;)V"⟩, prog_5_method_1_code, 4, none, false)
def am_m43 : am_M := (⟨"MarkInlines$Nodes", "forget", "()V"⟩, prog_5_method_2_code, 1, none, false)
def am_m44 : am_M := (⟨"MarkInlines$Nodes", "count", "()I"⟩, prog_5_method_3_code, 1, (some .int), false)
def am_m45 : am_M := (⟨"MarkInlines$Nodes", "has", "(I)Z"⟩, prog_5_method_4_code, 2, (some .boolean), false)
def am_m46 : am_M := (⟨"MarkInlines$Nodes", "build", "()Z"⟩, prog_5_method_5_code, 6, (some .boolean), false)
def am_m47 : am_M := (⟨"MarkInlines$Nodes", "depthIn", "(I)I"⟩, prog_5_method_6_code, 2, (some .int), false)
def am_m48 : am_M := (⟨"MarkInlines$Nodes", "begin", "(III)I"⟩, prog_5_method_7_code, 5, (some .int), false)
def am_m49 : am_M := (⟨"MarkInlines$Nodes", "addLetter", "(II)V"⟩, prog_5_method_8_code, 3, none, false)
def am_m50 : am_M := (⟨"MarkInlines$Nodes", "addLead", "(II)V"⟩, prog_5_method_9_code, 4, none, false)
def am_m51 : am_M := (⟨"MarkInlines$Reader", "markBracket", "(I)I"⟩, prog_6_method_10_code, 3, (some .int), false)
def am_m52 : am_M := (⟨"MarkInlines$Reader", "stopWith", "(II)V"⟩, prog_6_method_11_code, 3, none, false)
def am_m53 : am_M := (⟨"MarkInlines$Reader", "<init>", "(LMarkInlines$Row;LMarkInlines$Scan;LMarkInlines$References;LMarkInlines$Marks;LMarkInlines$Definitions;)V"⟩, prog_6_method_1_code, 6, none, false)
def am_m54 : am_M := (⟨"MarkInlines$Reader", "markAll", "()V"⟩, prog_6_method_2_code, 3, none, false)
def am_m55 : am_M := (⟨"MarkInlines$Reader", "startOver", "()V"⟩, prog_6_method_3_code, 1, none, false)
def am_m56 : am_M := (⟨"MarkInlines$Reader", "markLineEnd", "(I)V"⟩, prog_6_method_4_code, 3, none, false)
def am_m57 : am_M := (⟨"MarkInlines$Reader", "markBackslash", "(I)I"⟩, prog_6_method_5_code, 2, (some .int), false)
def am_m58 : am_M := (⟨"MarkInlines$Reader", "markCoding", "(I)I"⟩, prog_6_method_6_code, 6, (some .int), false)
def am_m59 : am_M := (⟨"MarkInlines$Reader", "laterRow", "(II)I"⟩, prog_6_method_7_code, 5, (some .int), false)
def am_m60 : am_M := (⟨"MarkInlines$Reader", "markAngle", "(I)I"⟩, prog_6_method_8_code, 4, (some .int), false)
def am_m61 : am_M := (⟨"MarkInlines$Reader", "markReference", "(I)I"⟩, prog_6_method_9_code, 3, (some .int), false)
def am_m62 : am_M := (⟨"MarkInlines$References", "<init>", "(LMarkInlines$Row;)V"⟩, prog_7_method_1_code, 2, none, false)
def am_m63 : am_M := (⟨"MarkInlines$References", "endAt", "(I)I"⟩, prog_7_method_2_code, 3, (some .int), false)
def am_m64 : am_M := (⟨"MarkInlines$References", "numberEnd", "(III)I"⟩, prog_7_method_3_code, 7, (some .int), false)
def am_m65 : am_M := (⟨"MarkInlines$References", "nameEnd", "(I)I"⟩, prog_7_method_4_code, 6, (some .int), false)
def am_m66 : am_M := (⟨"MarkInlines$References", "addUnescaped", "(IILMarkInlines$Row;)V"⟩, prog_7_method_5_code, 6, none, false)
def am_m67 : am_M := (⟨"MarkInlines$Row", "<init>", "(I)V"⟩, prog_8_method_1_code, 2, none, false)
def am_m68 : am_M := (⟨"MarkInlines$Row", "size", "()I"⟩, prog_8_method_2_code, 1, (some .int), false)
def am_m69 : am_M := (⟨"MarkInlines$Row", "at", "(I)I"⟩, prog_8_method_3_code, 2, (some .int), false)
def am_m70 : am_M := (⟨"MarkInlines$Row", "put", "(II)V"⟩, prog_8_method_4_code, 3, none, false)
def am_m71 : am_M := (⟨"MarkInlines$Row", "add", "(I)V"⟩, prog_8_method_5_code, 2, none, false)
def am_m72 : am_M := (⟨"MarkInlines$Row", "cut", "(I)V"⟩, prog_8_method_6_code, 2, none, false)
def am_m73 : am_M := (⟨"MarkInlines$Row", "refill", "(II)V"⟩, prog_8_method_7_code, 3, none, false)
def am_m74 : am_M := (⟨"MarkInlines$Runs", "join", "(II)V"⟩, prog_9_method_10_code, 7, none, false)
def am_m75 : am_M := (⟨"MarkInlines$Runs", "<init>", "(LMarkInlines$Row;LMarkInlines$Marks;)V"⟩, prog_9_method_1_code, 3, none, false)
def am_m76 : am_M := (⟨"MarkInlines$Runs", "count", "()I"⟩, prog_9_method_2_code, 1, (some .int), false)
def am_m77 : am_M := (⟨"MarkInlines$Runs", "forgetFrom", "(I)V"⟩, prog_9_method_3_code, 2, none, false)
def am_m78 : am_M := (⟨"MarkInlines$Runs", "meet", "(II)V"⟩, prog_9_method_4_code, 10, none, false)
def am_m79 : am_M := (⟨"MarkInlines$Runs", "leans", "(II)Z"⟩, prog_9_method_5_code, 3, (some .boolean), false)
def am_m80 : am_M := (⟨"MarkInlines$Runs", "pairFrom", "(I)V"⟩, prog_9_method_6_code, 5, none, false)
def am_m81 : am_M := (⟨"MarkInlines$Runs", "left", "(I)I"⟩, prog_9_method_7_code, 2, (some .int), false)
def am_m82 : am_M := (⟨"MarkInlines$Runs", "openerFor", "(II)I"⟩, prog_9_method_8_code, 4, (some .int), false)
def am_m83 : am_M := (⟨"MarkInlines$Runs", "clash", "(II)Z"⟩, prog_9_method_9_code, 6, (some .boolean), false)
def am_m84 : am_M := (⟨"MarkInlines$Scan", "bareTargetEnd", "(I)I"⟩, prog_10_method_10_code, 5, (some .int), false)
def am_m85 : am_M := (⟨"MarkInlines$Scan", "titleEnd", "(I)I"⟩, prog_10_method_11_code, 6, (some .int), false)
def am_m86 : am_M := (⟨"MarkInlines$Scan", "addressEnd", "(I)I"⟩, prog_10_method_12_code, 3, (some .int), false)
def am_m87 : am_M := (⟨"MarkInlines$Scan", "mailEnd", "(I)I"⟩, prog_10_method_13_code, 5, (some .int), false)
def am_m88 : am_M := (⟨"MarkInlines$Scan", "mailRowEnd", "(I)I"⟩, prog_10_method_14_code, 3, (some .int), false)
def am_m89 : am_M := (⟨"MarkInlines$Scan", "isRaw", "(I)Z"⟩, prog_10_method_15_code, 4, (some .boolean), false)
def am_m90 : am_M := (⟨"MarkInlines$Scan", "laterPlaceOf", "(II)I"⟩, prog_10_method_16_code, 4, (some .int), false)
def am_m91 : am_M := (⟨"MarkInlines$Scan", "<init>", "(LMarkInlines$Row;)V"⟩, prog_10_method_1_code, 2, none, false)
def am_m92 : am_M := (⟨"MarkInlines$Scan", "isEscape", "(I)Z"⟩, prog_10_method_2_code, 2, (some .boolean), false)
def am_m93 : am_M := (⟨"MarkInlines$Scan", "sameEnd", "(I)I"⟩, prog_10_method_3_code, 3, (some .int), false)
def am_m94 : am_M := (⟨"MarkInlines$Scan", "gapEnd", "(I)I"⟩, prog_10_method_4_code, 3, (some .int), false)
def am_m95 : am_M := (⟨"MarkInlines$Scan", "spacesEnd", "(I)I"⟩, prog_10_method_5_code, 3, (some .int), false)
def am_m96 : am_M := (⟨"MarkInlines$Scan", "labelStop", "(I)I"⟩, prog_10_method_6_code, 4, (some .int), false)
def am_m97 : am_M := (⟨"MarkInlines$Scan", "isLabelText", "(II)Z"⟩, prog_10_method_7_code, 3, (some .boolean), false)
def am_m98 : am_M := (⟨"MarkInlines$Scan", "isAllWhite", "(II)Z"⟩, prog_10_method_8_code, 4, (some .boolean), false)
def am_m99 : am_M := (⟨"MarkInlines$Scan", "angleTargetEnd", "(I)I"⟩, prog_10_method_9_code, 4, (some .int), false)
def am_m100 : am_M := (⟨"MarkInlines$Writer", "insteadOf", "(I)Ljava/lang/String;"⟩, prog_12_method_10_code, 2, (some (.object "java/lang/String")), false)
def am_m101 : am_M := (⟨"MarkInlines$Writer", "say", "(Ljava/lang/String;)V"⟩, prog_12_method_11_code, 3, none, false)
def am_m102 : am_M := (⟨"MarkInlines$Writer", "<init>", "(LMarkInlines$Nodes;)V"⟩, prog_12_method_1_code, 2, none, false)
def am_m103 : am_M := (⟨"MarkInlines$Writer", "makePlain", "(I)V"⟩, prog_12_method_2_code, 2, none, false)
def am_m104 : am_M := (⟨"MarkInlines$Writer", "makeWritten", "()V"⟩, prog_12_method_3_code, 4, none, false)
def am_m105 : am_M := (⟨"MarkInlines$Writer", "closeDownTo", "(II)I"⟩, prog_12_method_4_code, 6, (some .int), false)
def am_m106 : am_M := (⟨"MarkInlines$Writer", "begin", "(I)V"⟩, prog_12_method_5_code, 2, none, false)
def am_m107 : am_M := (⟨"MarkInlines$Writer", "addTarget", "(I)V"⟩, prog_12_method_6_code, 3, none, false)
def am_m108 : am_M := (⟨"MarkInlines$Writer", "addTitle", "(I)V"⟩, prog_12_method_7_code, 2, none, false)
def am_m109 : am_M := (⟨"MarkInlines$Writer", "addPlain", "(IZ)V"⟩, prog_12_method_8_code, 6, none, false)
def am_m110 : am_M := (⟨"MarkInlines$Writer", "addLetters", "(IZZ)V"⟩, prog_12_method_9_code, 8, none, false)
def am_m111 : am_M := (⟨"MarkInlinesModel", "isPair", "(I)Z"⟩, prog_14_method_10_code, 2, (some .boolean), false)
def am_m112 : am_M := (⟨"MarkInlinesModel", "hexOf", "(I)I"⟩, prog_14_method_11_code, 1, (some .int), true)
def am_m113 : am_M := (⟨"MarkInlinesModel", "isReference", "(I)Z"⟩, prog_14_method_12_code, 6, (some .boolean), false)
def am_m114 : am_M := (⟨"MarkInlinesModel", "gap", "(I)I"⟩, prog_14_method_13_code, 3, (some .int), false)
def am_m115 : am_M := (⟨"MarkInlinesModel", "isLabelText", "(II)Z"⟩, prog_14_method_14_code, 6, (some .boolean), false)
def am_m116 : am_M := (⟨"MarkInlinesModel", "isLabel", "(I)Z"⟩, prog_14_method_15_code, 3, (some .boolean), false)
def am_m117 : am_M := (⟨"MarkInlinesModel", "isTarget", "(I)Z"⟩, prog_14_method_16_code, 6, (some .boolean), false)
def am_m118 : am_M := (⟨"MarkInlinesModel", "isTitle", "(I)Z"⟩, prog_14_method_17_code, 5, (some .boolean), false)
def am_m119 : am_M := (⟨"MarkInlinesModel", "isRound", "(I)Z"⟩, prog_14_method_18_code, 6, (some .boolean), false)
def am_m120 : am_M := (⟨"MarkInlinesModel", "unescape", "(II)I"⟩, prog_14_method_19_code, 5, (some .int), false)
def am_m121 : am_M := (⟨"MarkInlinesModel", "<init>", "()V"⟩, prog_14_method_1_code, 1, none, false)
def am_m122 : am_M := (⟨"MarkInlinesModel", "keep", "(I)V"⟩, prog_14_method_20_code, 2, none, false)
def am_m123 : am_M := (⟨"MarkInlinesModel", "makeNormal", "(II)V"⟩, prog_14_method_21_code, 6, none, false)
def am_m124 : am_M := (⟨"MarkInlinesModel", "defined", "()I"⟩, prog_14_method_22_code, 4, (some .int), false)
def am_m125 : am_M := (⟨"MarkInlinesModel", "item", "(II)I"⟩, prog_14_method_23_code, 3, (some .int), false)
def am_m126 : am_M := (⟨"MarkInlinesModel", "put", "(II)V"⟩, prog_14_method_24_code, 4, none, false)
def am_m127 : am_M := (⟨"MarkInlinesModel", "append", "(II)I"⟩, prog_14_method_25_code, 4, (some .int), false)
def am_m128 : am_M := (⟨"MarkInlinesModel", "say", "(II)V"⟩, prog_14_method_26_code, 4, none, false)
def am_m129 : am_M := (⟨"MarkInlinesModel", "dropLast", "()V"⟩, prog_14_method_27_code, 1, none, false)
def am_m130 : am_M := (⟨"MarkInlinesModel", "isBoth", "(I)Z"⟩, prog_14_method_28_code, 2, (some .boolean), false)
def am_m131 : am_M := (⟨"MarkInlinesModel", "clashes", "(II)Z"⟩, prog_14_method_29_code, 3, (some .boolean), false)
def am_m132 : am_M := (⟨"MarkInlinesModel", "thrown", "()I"⟩, prog_14_method_2_code, 1, (some .int), false)
def am_m133 : am_M := (⟨"MarkInlinesModel", "opener", "(II)I"⟩, prog_14_method_30_code, 4, (some .int), false)
def am_m134 : am_M := (⟨"MarkInlinesModel", "pair", "(I)V"⟩, prog_14_method_31_code, 7, none, false)
def am_m135 : am_M := (⟨"MarkInlinesModel", "isBlank", "(I)Z"⟩, prog_14_method_32_code, 2, (some .boolean), false)
def am_m136 : am_M := (⟨"MarkInlinesModel", "leans", "(ZZZZ)Z"⟩, prog_14_method_33_code, 4, (some .boolean), true)
def am_m137 : am_M := (⟨"MarkInlinesModel", "run", "(I)I"⟩, prog_14_method_34_code, 10, (some .int), false)
def am_m138 : am_M := (⟨"MarkInlinesModel", "kill", "()V"⟩, prog_14_method_35_code, 2, none, false)
def am_m139 : am_M := (⟨"MarkInlinesModel", "bracket", "(IZ)I"⟩, prog_14_method_36_code, 3, (some .int), false)
def am_m140 : am_M := (⟨"MarkInlinesModel", "close", "(I)I"⟩, prog_14_method_37_code, 9, (some .int), false)
def am_m141 : am_M := (⟨"MarkInlinesModel", "isMail", "(I)Z"⟩, prog_14_method_38_code, 1, (some .boolean), true)
def am_m142 : am_M := (⟨"MarkInlinesModel", "address", "(I)I"⟩, prog_14_method_39_code, 6, (some .int), false)
def am_m143 : am_M := (⟨"MarkInlinesModel", "isWhite", "(I)Z"⟩, prog_14_method_3_code, 1, (some .boolean), true)
def am_m144 : am_M := (⟨"MarkInlinesModel", "isRaw", "(I)Z"⟩, prog_14_method_40_code, 4, (some .boolean), false)
def am_m145 : am_M := (⟨"MarkInlinesModel", "angle", "(I)I"⟩, prog_14_method_41_code, 5, (some .int), false)
def am_m146 : am_M := (⟨"MarkInlinesModel", "code", "(I)I"⟩, prog_14_method_42_code, 10, (some .int), false)
def am_m147 : am_M := (⟨"MarkInlinesModel", "line", "(I)I"⟩, prog_14_method_43_code, 4, (some .int), false)
def am_m148 : am_M := (⟨"MarkInlinesModel", "fail", "(II)V"⟩, prog_14_method_44_code, 3, none, false)
def am_m149 : am_M := (⟨"MarkInlinesModel", "part", "(I)I"⟩, prog_14_method_45_code, 3, (some .int), false)
def am_m150 : am_M := (⟨"MarkInlinesModel", "born", "(II)I"⟩, prog_14_method_46_code, 3, (some .int), false)
def am_m151 : am_M := (⟨"MarkInlinesModel", "spell", "(III)I"⟩, prog_14_method_47_code, 5, (some .int), false)
def am_m152 : am_M := (⟨"MarkInlinesModel", "gather", "()V"⟩, prog_14_method_48_code, 7, none, false)
def am_m153 : am_M := (⟨"MarkInlinesModel", "feed", "(IIIII)V"⟩, prog_14_method_49_code, 8, none, false)
def am_m154 : am_M := (⟨"MarkInlinesModel", "isLetter", "(I)Z"⟩, prog_14_method_4_code, 1, (some .boolean), true)
def am_m155 : am_M := (⟨"MarkInlinesModel", "end", "(I)I"⟩, prog_14_method_50_code, 3, (some .int), false)
def am_m156 : am_M := (⟨"MarkInlinesModel", "wipe", "()V"⟩, prog_14_method_51_code, 1, none, false)
def am_m157 : am_M := (⟨"MarkInlinesModel", "define", "()I"⟩, prog_14_method_52_code, 3, (some .int), false)
def am_m158 : am_M := (⟨"MarkInlinesModel", "drop", "()V"⟩, prog_14_method_53_code, 1, none, false)
def am_m159 : am_M := (⟨"MarkInlinesModel", "read", "()I"⟩, prog_14_method_54_code, 2, (some .int), false)
def am_m160 : am_M := (⟨"MarkInlinesModel", "fault", "(I)I"⟩, prog_14_method_55_code, 2, (some .int), false)
def am_m161 : am_M := (⟨"MarkInlinesModel", "isNode", "(I)Z"⟩, prog_14_method_56_code, 2, (some .boolean), false)
def am_m162 : am_M := (⟨"MarkInlinesModel", "node", "(II)I"⟩, prog_14_method_57_code, 3, (some .int), false)
def am_m163 : am_M := (⟨"MarkInlinesModel", "letter", "(IZI)I"⟩, prog_14_method_58_code, 4, (some .int), false)
def am_m164 : am_M := (⟨"MarkInlinesModel", "send", "(I)V"⟩, prog_14_method_59_code, 2, none, false)
def am_m165 : am_M := (⟨"MarkInlinesModel", "isDigit", "(I)Z"⟩, prog_14_method_5_code, 1, (some .boolean), true)
def am_m166 : am_M := (⟨"MarkInlinesModel", "tell", "(IZ)V"⟩, prog_14_method_60_code, 3, none, false)
def am_m167 : am_M := (⟨"MarkInlinesModel", "tellRow", "(II)V"⟩, prog_14_method_61_code, 4, none, false)
def am_m168 : am_M := (⟨"MarkInlinesModel", "beyond", "(I)I"⟩, prog_14_method_62_code, 3, (some .int), false)
def am_m169 : am_M := (⟨"MarkInlinesModel", "tellPlain", "(IIZ)V"⟩, prog_14_method_63_code, 6, none, false)
def am_m170 : am_M := (⟨"MarkInlinesModel", "plain", "(I)I"⟩, prog_14_method_64_code, 2, (some .int), false)
def am_m171 : am_M := (⟨"MarkInlinesModel", "word", "(J)V"⟩, prog_14_method_65_code, 5, none, false)
def am_m172 : am_M := (⟨"MarkInlinesModel", "number", "(I)V"⟩, prog_14_method_66_code, 2, none, false)
def am_m173 : am_M := (⟨"MarkInlinesModel", "tellTarget", "(I)V"⟩, prog_14_method_67_code, 2, none, false)
def am_m174 : am_M := (⟨"MarkInlinesModel", "tellTitle", "(I)V"⟩, prog_14_method_68_code, 2, none, false)
def am_m175 : am_M := (⟨"MarkInlinesModel", "begin", "(I)V"⟩, prog_14_method_69_code, 2, none, false)
def am_m176 : am_M := (⟨"MarkInlinesModel", "isSign", "(I)Z"⟩, prog_14_method_6_code, 1, (some .boolean), true)
def am_m177 : am_M := (⟨"MarkInlinesModel", "finish", "(I)V"⟩, prog_14_method_70_code, 2, none, false)
def am_m178 : am_M := (⟨"MarkInlinesModel", "write", "()I"⟩, prog_14_method_71_code, 3, (some .int), false)
def am_m179 : am_M := (⟨"MarkInlinesModel", "output", "(I)I"⟩, prog_14_method_72_code, 2, (some .int), false)
def am_m180 : am_M := (⟨"MarkInlinesModel", "about", "(I)I"⟩, prog_14_method_73_code, 2, (some .int), false)
def am_m181 : am_M := (⟨"MarkInlinesModel", "isPunctuation", "(I)Z"⟩, prog_14_method_7_code, 1, (some .boolean), true)
def am_m182 : am_M := (⟨"MarkInlinesModel", "isForbidden", "(I)Z"⟩, prog_14_method_8_code, 1, (some .boolean), true)
def am_m183 : am_M := (⟨"MarkInlinesModel", "at", "(I)I"⟩, prog_14_method_9_code, 2, (some .int), false)
def am_m184 : am_M := (⟨"java/lang/String", "coder", "()B"⟩, prog_25_method_152_code, 1, (some .byte), false)
def am_m185 : am_M := (⟨"java/lang/String", "isLatin1", "()Z"⟩, prog_25_method_154_code, 1, (some .boolean), false)
def am_m186 : am_M := (⟨"java/lang/String", "checkIndex", "(II)V"⟩, prog_25_method_155_code, 2, none, true)
def am_m187 : am_M := (⟨"java/lang/String", "length", "()I"⟩, prog_25_method_54_code, 1, (some .int), false)
def am_m188 : am_M := (⟨"java/lang/String", "isEmpty", "()Z"⟩, prog_25_method_55_code, 1, (some .boolean), false)
def am_m189 : am_M := (⟨"java/lang/String", "charAt", "(I)C"⟩, prog_25_method_56_code, 2, (some .char), false)
def am_m190 : am_M := (⟨"MarkInlines$Signs", "isMailSign", "(I)Z"⟩, prog_11_method_10_code, 1, (some .boolean), true)
def am_m191 : am_M := (⟨"MarkInlines$Signs", "isAddressSign", "(I)Z"⟩, prog_11_method_11_code, 1, (some .boolean), true)
def am_m192 : am_M := (⟨"MarkInlines$Signs", "small", "(I)I"⟩, prog_11_method_12_code, 1, (some .int), true)
def am_m193 : am_M := (⟨"MarkInlines$Signs", "worth", "(II)I"⟩, prog_11_method_13_code, 3, (some .int), true)
def am_m194 : am_M := (⟨"MarkInlines$Signs", "isWhite", "(I)Z"⟩, prog_11_method_2_code, 1, (some .boolean), true)
def am_m195 : am_M := (⟨"MarkInlines$Signs", "isBlank", "(I)Z"⟩, prog_11_method_3_code, 1, (some .boolean), true)
def am_m196 : am_M := (⟨"MarkInlines$Signs", "isLetter", "(I)Z"⟩, prog_11_method_4_code, 1, (some .boolean), true)
def am_m197 : am_M := (⟨"MarkInlines$Signs", "isLetterOrDigit", "(I)Z"⟩, prog_11_method_5_code, 1, (some .boolean), true)
def am_m198 : am_M := (⟨"MarkInlines$Signs", "isAsciiPunctuation", "(I)Z"⟩, prog_11_method_6_code, 1, (some .boolean), true)
def am_m199 : am_M := (⟨"MarkInlines$Signs", "isPunctuation", "(I)Z"⟩, prog_11_method_7_code, 1, (some .boolean), true)
def am_m200 : am_M := (⟨"MarkInlines$Signs", "isForbidden", "(I)Z"⟩, prog_11_method_8_code, 1, (some .boolean), true)
def am_m201 : am_M := (⟨"MarkInlines$Signs", "isSchemeSign", "(I)Z"⟩, prog_11_method_9_code, 1, (some .boolean), true)
def am_m202 : am_M := (⟨"MarkInlinesLaw", "define", "(LMarkInlines;[J)I"⟩, method_3_code, 3, (some .int), true)
def am_m203 : am_M := (⟨"MarkInlinesLaw", "read", "(LMarkInlines;[J)I"⟩, method_4_code, 3, (some .int), true)
def am_m204 : am_M := (⟨"MarkInlinesLaw", "plain", "(LMarkInlines;I[J)I"⟩, method_5_code, 4, (some .int), true)
def am_m205 : am_M := (⟨"MarkInlinesLaw", "write", "(LMarkInlines;[J)I"⟩, method_6_code, 3, (some .int), true)
def am_m206 : am_M := (⟨"java/lang/Math", "max", "(II)I"⟩, prog_23_method_65_code, 2, (some .int), true)
def am_m207 : am_M := (⟨"java/lang/Math", "min", "(II)I"⟩, prog_23_method_69_code, 2, (some .int), true)
def am_m208 : am_M := (⟨"java/lang/StringLatin1", "charAt", "([BI)C"⟩, prog_27_method_2_code, 2, (some .char), true)
def am_m209 : am_M := (⟨"java/util/Arrays", "fill", "([IIII)V"⟩, prog_31_method_104_code, 5, none, true)
def am_m210 : am_M := (⟨"java/util/Arrays", "copyOf", "([II)[I"⟩, prog_31_method_123_code, 3, (some (.array .int)), true)
def am_m211 : am_M := (⟨"java/util/Arrays", "rangeCheck", "(III)V"⟩, prog_31_method_30_code, 3, none, true)
def am_m212 : am_M := (⟨"jdk/internal/util/Preconditions", "checkIndex", "(IILjava/util/function/BiFunction;)I"⟩, prog_33_method_11_code, 3, (some .int), true)
def am_Mt (n : Nat) : am_M := bif Nat.ble n 212 then bif Nat.ble n 105 then bif Nat.ble n 52 then bif Nat.ble n 25 then bif Nat.ble n 12 then bif Nat.ble n 5 then bif Nat.ble n 2 then bif Nat.ble n 0 then am_m0 else bif Nat.ble n 1 then am_m1 else am_m2 else bif Nat.ble n 3 then am_m3 else bif Nat.ble n 4 then am_m4 else am_m5 else bif Nat.ble n 8 then bif Nat.ble n 6 then am_m6 else bif Nat.ble n 7 then am_m7 else am_m8 else bif Nat.ble n 10 then bif Nat.ble n 9 then am_m9 else am_m10 else bif Nat.ble n 11 then am_m11 else am_m12 else bif Nat.ble n 18 then bif Nat.ble n 15 then bif Nat.ble n 13 then am_m13 else bif Nat.ble n 14 then am_m14 else am_m15 else bif Nat.ble n 16 then am_m16 else bif Nat.ble n 17 then am_m17 else am_m18 else bif Nat.ble n 21 then bif Nat.ble n 19 then am_m19 else bif Nat.ble n 20 then am_m20 else am_m21 else bif Nat.ble n 23 then bif Nat.ble n 22 then am_m22 else am_m23 else bif Nat.ble n 24 then am_m24 else am_m25 else bif Nat.ble n 38 then bif Nat.ble n 31 then bif Nat.ble n 28 then bif Nat.ble n 26 then am_m26 else bif Nat.ble n 27 then am_m27 else am_m28 else bif Nat.ble n 29 then am_m29 else bif Nat.ble n 30 then am_m30 else am_m31 else bif Nat.ble n 34 then bif Nat.ble n 32 then am_m32 else bif Nat.ble n 33 then am_m33 else am_m34 else bif Nat.ble n 36 then bif Nat.ble n 35 then am_m35 else am_m36 else bif Nat.ble n 37 then am_m37 else am_m38 else bif Nat.ble n 45 then bif Nat.ble n 41 then bif Nat.ble n 39 then am_m39 else bif Nat.ble n 40 then am_m40 else am_m41 else bif Nat.ble n 43 then bif Nat.ble n 42 then am_m42 else am_m43 else bif Nat.ble n 44 then am_m44 else am_m45 else bif Nat.ble n 48 then bif Nat.ble n 46 then am_m46 else bif Nat.ble n 47 then am_m47 else am_m48 else bif Nat.ble n 50 then bif Nat.ble n 49 then am_m49 else am_m50 else bif Nat.ble n 51 then am_m51 else am_m52 else bif Nat.ble n 78 then bif Nat.ble n 65 then bif Nat.ble n 58 then bif Nat.ble n 55 then bif Nat.ble n 53 then am_m53 else bif Nat.ble n 54 then am_m54 else am_m55 else bif Nat.ble n 56 then am_m56 else bif Nat.ble n 57 then am_m57 else am_m58 else bif Nat.ble n 61 then bif Nat.ble n 59 then am_m59 else bif Nat.ble n 60 then am_m60 else am_m61 else bif Nat.ble n 63 then bif Nat.ble n 62 then am_m62 else am_m63 else bif Nat.ble n 64 then am_m64 else am_m65 else bif Nat.ble n 71 then bif Nat.ble n 68 then bif Nat.ble n 66 then am_m66 else bif Nat.ble n 67 then am_m67 else am_m68 else bif Nat.ble n 69 then am_m69 else bif Nat.ble n 70 then am_m70 else am_m71 else bif Nat.ble n 74 then bif Nat.ble n 72 then am_m72 else bif Nat.ble n 73 then am_m73 else am_m74 else bif Nat.ble n 76 then bif Nat.ble n 75 then am_m75 else am_m76 else bif Nat.ble n 77 then am_m77 else am_m78 else bif Nat.ble n 91 then bif Nat.ble n 84 then bif Nat.ble n 81 then bif Nat.ble n 79 then am_m79 else bif Nat.ble n 80 then am_m80 else am_m81 else bif Nat.ble n 82 then am_m82 else bif Nat.ble n 83 then am_m83 else am_m84 else bif Nat.ble n 87 then bif Nat.ble n 85 then am_m85 else bif Nat.ble n 86 then am_m86 else am_m87 else bif Nat.ble n 89 then bif Nat.ble n 88 then am_m88 else am_m89 else bif Nat.ble n 90 then am_m90 else am_m91 else bif Nat.ble n 98 then bif Nat.ble n 94 then bif Nat.ble n 92 then am_m92 else bif Nat.ble n 93 then am_m93 else am_m94 else bif Nat.ble n 96 then bif Nat.ble n 95 then am_m95 else am_m96 else bif Nat.ble n 97 then am_m97 else am_m98 else bif Nat.ble n 101 then bif Nat.ble n 99 then am_m99 else bif Nat.ble n 100 then am_m100 else am_m101 else bif Nat.ble n 103 then bif Nat.ble n 102 then am_m102 else am_m103 else bif Nat.ble n 104 then am_m104 else am_m105 else bif Nat.ble n 158 then bif Nat.ble n 131 then bif Nat.ble n 118 then bif Nat.ble n 111 then bif Nat.ble n 108 then bif Nat.ble n 106 then am_m106 else bif Nat.ble n 107 then am_m107 else am_m108 else bif Nat.ble n 109 then am_m109 else bif Nat.ble n 110 then am_m110 else am_m111 else bif Nat.ble n 114 then bif Nat.ble n 112 then am_m112 else bif Nat.ble n 113 then am_m113 else am_m114 else bif Nat.ble n 116 then bif Nat.ble n 115 then am_m115 else am_m116 else bif Nat.ble n 117 then am_m117 else am_m118 else bif Nat.ble n 124 then bif Nat.ble n 121 then bif Nat.ble n 119 then am_m119 else bif Nat.ble n 120 then am_m120 else am_m121 else bif Nat.ble n 122 then am_m122 else bif Nat.ble n 123 then am_m123 else am_m124 else bif Nat.ble n 127 then bif Nat.ble n 125 then am_m125 else bif Nat.ble n 126 then am_m126 else am_m127 else bif Nat.ble n 129 then bif Nat.ble n 128 then am_m128 else am_m129 else bif Nat.ble n 130 then am_m130 else am_m131 else bif Nat.ble n 144 then bif Nat.ble n 137 then bif Nat.ble n 134 then bif Nat.ble n 132 then am_m132 else bif Nat.ble n 133 then am_m133 else am_m134 else bif Nat.ble n 135 then am_m135 else bif Nat.ble n 136 then am_m136 else am_m137 else bif Nat.ble n 140 then bif Nat.ble n 138 then am_m138 else bif Nat.ble n 139 then am_m139 else am_m140 else bif Nat.ble n 142 then bif Nat.ble n 141 then am_m141 else am_m142 else bif Nat.ble n 143 then am_m143 else am_m144 else bif Nat.ble n 151 then bif Nat.ble n 147 then bif Nat.ble n 145 then am_m145 else bif Nat.ble n 146 then am_m146 else am_m147 else bif Nat.ble n 149 then bif Nat.ble n 148 then am_m148 else am_m149 else bif Nat.ble n 150 then am_m150 else am_m151 else bif Nat.ble n 154 then bif Nat.ble n 152 then am_m152 else bif Nat.ble n 153 then am_m153 else am_m154 else bif Nat.ble n 156 then bif Nat.ble n 155 then am_m155 else am_m156 else bif Nat.ble n 157 then am_m157 else am_m158 else bif Nat.ble n 185 then bif Nat.ble n 171 then bif Nat.ble n 164 then bif Nat.ble n 161 then bif Nat.ble n 159 then am_m159 else bif Nat.ble n 160 then am_m160 else am_m161 else bif Nat.ble n 162 then am_m162 else bif Nat.ble n 163 then am_m163 else am_m164 else bif Nat.ble n 167 then bif Nat.ble n 165 then am_m165 else bif Nat.ble n 166 then am_m166 else am_m167 else bif Nat.ble n 169 then bif Nat.ble n 168 then am_m168 else am_m169 else bif Nat.ble n 170 then am_m170 else am_m171 else bif Nat.ble n 178 then bif Nat.ble n 174 then bif Nat.ble n 172 then am_m172 else bif Nat.ble n 173 then am_m173 else am_m174 else bif Nat.ble n 176 then bif Nat.ble n 175 then am_m175 else am_m176 else bif Nat.ble n 177 then am_m177 else am_m178 else bif Nat.ble n 181 then bif Nat.ble n 179 then am_m179 else bif Nat.ble n 180 then am_m180 else am_m181 else bif Nat.ble n 183 then bif Nat.ble n 182 then am_m182 else am_m183 else bif Nat.ble n 184 then am_m184 else am_m185 else bif Nat.ble n 198 then bif Nat.ble n 191 then bif Nat.ble n 188 then bif Nat.ble n 186 then am_m186 else bif Nat.ble n 187 then am_m187 else am_m188 else bif Nat.ble n 189 then am_m189 else bif Nat.ble n 190 then am_m190 else am_m191 else bif Nat.ble n 194 then bif Nat.ble n 192 then am_m192 else bif Nat.ble n 193 then am_m193 else am_m194 else bif Nat.ble n 196 then bif Nat.ble n 195 then am_m195 else am_m196 else bif Nat.ble n 197 then am_m197 else am_m198 else bif Nat.ble n 205 then bif Nat.ble n 201 then bif Nat.ble n 199 then am_m199 else bif Nat.ble n 200 then am_m200 else am_m201 else bif Nat.ble n 203 then bif Nat.ble n 202 then am_m202 else am_m203 else bif Nat.ble n 204 then am_m204 else am_m205 else bif Nat.ble n 208 then bif Nat.ble n 206 then am_m206 else bif Nat.ble n 207 then am_m207 else am_m208 else bif Nat.ble n 210 then bif Nat.ble n 209 then am_m209 else am_m210 else bif Nat.ble n 211 then am_m211 else am_m212 else (⟨"java/lang/System", "arraycopy", "(Ljava/lang/Object;ILjava/lang/Object;II)V"⟩, .empty, 0, none, true)
