def zR0 : String := "StateFrames"
def zT0 : u_T := fun k => match k with
  | 0 => ("StateFrames", "in", "LStateFrames$Row;", true)
  | 1 => ("StateFrames", "out", "LStateFrames$Row;", true)
  | 2 => ("StateFrames", "dictionary", "LStateFrames$Dictionary;", true)
  | 3 => ("StateFrames", "report", "LStateFrames$Report;", true)
  | 4 => ("StateFrames", "content", "LStateFrames$Content;", true)
  | _ => ("StateFrames", "reader", "LStateFrames$FrameReader;", true)
def zY0 : Nat → FieldType := fun k => match k with
  | 0 => .object "StateFrames$Row"
  | 1 => .object "StateFrames$Row"
  | 2 => .object "StateFrames$Dictionary"
  | 3 => .object "StateFrames$Report"
  | 4 => .object "StateFrames$Content"
  | _ => .object "StateFrames$FrameReader"
def zR1 : String := "StateFrames$Codes"
def zT1 : u_T := fun k => match k with
  | 0 => ("StateFrames$Codes", "weights", "[I", true)
  | 1 => ("StateFrames$Codes", "lengths", "[I", true)
  | 2 => ("StateFrames$Codes", "cells", "[I", true)
  | 3 => ("StateFrames$Codes", "share", "LStateFrames$Share;", true)
  | 4 => ("StateFrames$Codes", "stream", "LStateFrames$Stream;", true)
  | 5 => ("StateFrames$Codes", "order", "I", false)
  | _ => ("StateFrames$Codes", "count", "I", false)
def zY1 : Nat → FieldType := fun k => match k with
  | 0 => .array .int
  | 1 => .array .int
  | 2 => .array .int
  | 3 => .object "StateFrames$Share"
  | 4 => .object "StateFrames$Stream"
  | 5 => .int
  | _ => .int
def zR2 : String := "StateFrames$Content"
def zT2 : u_T := fun k => match k with
  | 0 => ("StateFrames$Content", "bytes", "LStateFrames$Row;", true)
  | 1 => ("StateFrames$Content", "before", "LStateFrames$Row;", true)
  | 2 => ("StateFrames$Content", "most", "I", false)
  | 3 => ("StateFrames$Content", "frameStart", "I", false)
  | 4 => ("StateFrames$Content", "blockStart", "I", false)
  | _ => ("StateFrames$Content", "window", "J", false)
def zY2 : Nat → FieldType := fun k => match k with
  | 0 => .object "StateFrames$Row"
  | 1 => .object "StateFrames$Row"
  | 2 => .int
  | 3 => .int
  | 4 => .int
  | _ => .long
def zR3 : String := "StateFrames$Dictionary"
def zT3 : u_T := fun k => match k with
  | 0 => ("StateFrames$Dictionary", "content", "LStateFrames$Row;", true)
  | 1 => ("StateFrames$Dictionary", "latest", "LStateFrames$Latest;", true)
  | 2 => ("StateFrames$Dictionary", "id", "J", false)
  | 3 => ("StateFrames$Dictionary", "tells", "Z", false)
  | 4 => ("StateFrames$Dictionary", "codes", "LStateFrames$Codes;", false)
  | 5 => ("StateFrames$Dictionary", "shares", "[LStateFrames$Share;", false)
  | 6 => ("StateFrames$Dictionary", "spareCodes", "LStateFrames$Codes;", false)
  | _ => ("StateFrames$Dictionary", "spareShares", "[LStateFrames$Share;", false)
def zY3 : Nat → FieldType := fun k => match k with
  | 0 => .object "StateFrames$Row"
  | 1 => .object "StateFrames$Latest"
  | 2 => .long
  | 3 => .boolean
  | 4 => .object "StateFrames$Codes"
  | 5 => .array (.object "StateFrames$Share")
  | 6 => .object "StateFrames$Codes"
  | _ => .array (.object "StateFrames$Share")
def zR4 : String := "StateFrames$FrameReader"
def zT4 : u_T := fun k => match k with
  | 0 => ("StateFrames$FrameReader", "in", "LStateFrames$Row;", true)
  | 1 => ("StateFrames$FrameReader", "dictionary", "LStateFrames$Dictionary;", true)
  | 2 => ("StateFrames$FrameReader", "report", "LStateFrames$Report;", true)
  | 3 => ("StateFrames$FrameReader", "content", "LStateFrames$Content;", true)
  | 4 => ("StateFrames$FrameReader", "literals", "LStateFrames$Literals;", true)
  | 5 => ("StateFrames$FrameReader", "sequences", "LStateFrames$Sequences;", true)
  | 6 => ("StateFrames$FrameReader", "place", "I", false)
  | 7 => ("StateFrames$FrameReader", "inFrame", "Z", false)
  | 8 => ("StateFrames$FrameReader", "summed", "Z", false)
  | 9 => ("StateFrames$FrameReader", "sized", "Z", false)
  | 10 => ("StateFrames$FrameReader", "size", "J", false)
  | _ => ("StateFrames$FrameReader", "sizePlace", "I", false)
def zY4 : Nat → FieldType := fun k => match k with
  | 0 => .object "StateFrames$Row"
  | 1 => .object "StateFrames$Dictionary"
  | 2 => .object "StateFrames$Report"
  | 3 => .object "StateFrames$Content"
  | 4 => .object "StateFrames$Literals"
  | 5 => .object "StateFrames$Sequences"
  | 6 => .int
  | 7 => .boolean
  | 8 => .boolean
  | 9 => .boolean
  | 10 => .long
  | _ => .int
def zR5 : String := "StateFrames$Latest"
def zT5 : u_T := fun k => match k with
  | 0 => ("StateFrames$Latest", "first", "J", false)
  | 1 => ("StateFrames$Latest", "second", "J", false)
  | _ => ("StateFrames$Latest", "third", "J", false)
def zY5 : Nat → FieldType := fun k => match k with
  | 0 => .long
  | 1 => .long
  | _ => .long
def zR6 : String := "StateFrames$Literals"
def zT6 : u_T := fun k => match k with
  | 0 => ("StateFrames$Literals", "in", "LStateFrames$Row;", true)
  | 1 => ("StateFrames$Literals", "report", "LStateFrames$Report;", true)
  | 2 => ("StateFrames$Literals", "stream", "LStateFrames$Stream;", true)
  | 3 => ("StateFrames$Literals", "told", "LStateFrames$Codes;", true)
  | 4 => ("StateFrames$Literals", "bytes", "LStateFrames$Row;", true)
  | 5 => ("StateFrames$Literals", "codes", "LStateFrames$Codes;", false)
  | 6 => ("StateFrames$Literals", "hasCodes", "Z", false)
  | 7 => ("StateFrames$Literals", "count", "I", false)
  | 8 => ("StateFrames$Literals", "used", "I", false)
  | 9 => ("StateFrames$Literals", "behind", "I", false)
  | 10 => ("StateFrames$Literals", "kind", "I", false)
  | 11 => ("StateFrames$Literals", "form", "I", false)
  | _ => ("StateFrames$Literals", "start", "I", false)
def zY6 : Nat → FieldType := fun k => match k with
  | 0 => .object "StateFrames$Row"
  | 1 => .object "StateFrames$Report"
  | 2 => .object "StateFrames$Stream"
  | 3 => .object "StateFrames$Codes"
  | 4 => .object "StateFrames$Row"
  | 5 => .object "StateFrames$Codes"
  | 6 => .boolean
  | 7 => .int
  | 8 => .int
  | 9 => .int
  | 10 => .int
  | 11 => .int
  | _ => .int
def zR7 : String := "StateFrames$Report"
def zT7 : u_T := fun k => match k with
  | 0 => ("StateFrames$Report", "fault", "I", false)
  | 1 => ("StateFrames$Report", "place", "I", false)
  | 2 => ("StateFrames$Report", "heads", "I", false)
  | 3 => ("StateFrames$Report", "blocks", "I", false)
  | 4 => ("StateFrames$Report", "sequences", "I", false)
  | _ => ("StateFrames$Report", "window", "I", false)
def zY7 : Nat → FieldType := fun k => match k with
  | 0 => .int
  | 1 => .int
  | 2 => .int
  | 3 => .int
  | 4 => .int
  | _ => .int
def zR8 : String := "StateFrames$Row"
def zT8 : u_T := fun k => match k with
  | 0 => ("StateFrames$Row", "bytes", "[B", true)
  | _ => ("StateFrames$Row", "count", "I", false)
def zY8 : Nat → FieldType := fun k => match k with
  | 0 => .array .byte
  | _ => .int
def zR9 : String := "StateFrames$Sequences"
def zT9 : u_T := fun k => match k with
  | 0 => ("StateFrames$Sequences", "in", "LStateFrames$Row;", true)
  | 1 => ("StateFrames$Sequences", "report", "LStateFrames$Report;", true)
  | 2 => ("StateFrames$Sequences", "content", "LStateFrames$Content;", true)
  | 3 => ("StateFrames$Sequences", "literals", "LStateFrames$Literals;", true)
  | 4 => ("StateFrames$Sequences", "stream", "LStateFrames$Stream;", true)
  | 5 => ("StateFrames$Sequences", "latest", "LStateFrames$Latest;", true)
  | 6 => ("StateFrames$Sequences", "known", "[LStateFrames$Share;", true)
  | 7 => ("StateFrames$Sequences", "told", "[LStateFrames$Share;", true)
  | 8 => ("StateFrames$Sequences", "tables", "[LStateFrames$Share;", true)
  | 9 => ("StateFrames$Sequences", "hasTable", "[Z", true)
  | _ => ("StateFrames$Sequences", "states", "[I", true)
def zY9 : Nat → FieldType := fun k => match k with
  | 0 => .object "StateFrames$Row"
  | 1 => .object "StateFrames$Report"
  | 2 => .object "StateFrames$Content"
  | 3 => .object "StateFrames$Literals"
  | 4 => .object "StateFrames$Stream"
  | 5 => .object "StateFrames$Latest"
  | 6 => .array (.object "StateFrames$Share")
  | 7 => .array (.object "StateFrames$Share")
  | 8 => .array (.object "StateFrames$Share")
  | 9 => .array .boolean
  | _ => .array .int
def zR10 : String := "StateFrames$Share"
def zT10 : u_T := fun k => match k with
  | 0 => ("StateFrames$Share", "greatest", "I", true)
  | 1 => ("StateFrames$Share", "last", "I", true)
  | 2 => ("StateFrames$Share", "points", "[I", true)
  | 3 => ("StateFrames$Share", "numbers", "[I", true)
  | 4 => ("StateFrames$Share", "symbols", "[I", true)
  | 5 => ("StateFrames$Share", "bits", "[I", true)
  | 6 => ("StateFrames$Share", "bases", "[I", true)
  | 7 => ("StateFrames$Share", "order", "I", false)
  | 8 => ("StateFrames$Share", "row", "LStateFrames$Row;", false)
  | 9 => ("StateFrames$Share", "bit", "I", false)
  | _ => ("StateFrames$Share", "endBit", "I", false)
def zY10 : Nat → FieldType := fun k => match k with
  | 0 => .int
  | 1 => .int
  | 2 => .array .int
  | 3 => .array .int
  | 4 => .array .int
  | 5 => .array .int
  | 6 => .array .int
  | 7 => .int
  | 8 => .object "StateFrames$Row"
  | 9 => .int
  | _ => .int
def zR11 : String := "StateFrames$Stream"
def zT11 : u_T := fun k => match k with
  | 0 => ("StateFrames$Stream", "bytes", "[B", false)
  | 1 => ("StateFrames$Stream", "start", "I", false)
  | _ => ("StateFrames$Stream", "left", "I", false)
def zY11 : Nat → FieldType := fun k => match k with
  | 0 => .array .byte
  | 1 => .int
  | _ => .int
def zR12 : String := "StateFramesModel"
def zT12 : u_T := fun k => match k with
  | 0 => ("StateFramesModel", "in", "[I", true)
  | 1 => ("StateFramesModel", "length", "I", false)
  | 2 => ("StateFramesModel", "out", "[I", true)
  | 3 => ("StateFramesModel", "size", "I", false)
  | 4 => ("StateFramesModel", "dictionary", "[I", true)
  | 5 => ("StateFramesModel", "dictionarySize", "I", false)
  | 6 => ("StateFramesModel", "dictionaryId", "I", false)
  | 7 => ("StateFramesModel", "formed", "Z", false)
  | 8 => ("StateFramesModel", "dictionaryLengths", "[I", true)
  | 9 => ("StateFramesModel", "dictionaryPoints", "[I", true)
  | 10 => ("StateFramesModel", "dictionaryOrders", "[I", true)
  | 11 => ("StateFramesModel", "dictionaryLatest", "[J", true)
  | 12 => ("StateFramesModel", "lengths", "[I", true)
  | 13 => ("StateFramesModel", "top", "I", false)
  | 14 => ("StateFramesModel", "cells", "[I", true)
  | 15 => ("StateFramesModel", "points", "[I", true)
  | 16 => ("StateFramesModel", "orders", "[I", true)
  | 17 => ("StateFramesModel", "symbols", "[I", true)
  | 18 => ("StateFramesModel", "bits", "[I", true)
  | 19 => ("StateFramesModel", "bases", "[I", true)
  | 20 => ("StateFramesModel", "latest", "[J", true)
  | 21 => ("StateFramesModel", "draft", "[I", true)
  | 22 => ("StateFramesModel", "draftOrder", "I", false)
  | 23 => ("StateFramesModel", "weights", "[I", true)
  | 24 => ("StateFramesModel", "seen", "[I", true)
  | 25 => ("StateFramesModel", "weightSymbols", "[I", true)
  | 26 => ("StateFramesModel", "weightBits", "[I", true)
  | 27 => ("StateFramesModel", "weightBases", "[I", true)
  | 28 => ("StateFramesModel", "at", "I", false)
  | 29 => ("StateFramesModel", "most", "I", false)
  | 30 => ("StateFramesModel", "had", "I", false)
  | 31 => ("StateFramesModel", "begins", "I", false)
  | 32 => ("StateFramesModel", "mostOfBlock", "I", false)
  | 33 => ("StateFramesModel", "fault", "I", false)
  | 34 => ("StateFramesModel", "where", "I", false)
  | 35 => ("StateFramesModel", "heads", "I", false)
  | 36 => ("StateFramesModel", "blocks", "I", false)
  | 37 => ("StateFramesModel", "done", "I", false)
  | 38 => ("StateFramesModel", "window", "J", false)
  | 39 => ("StateFramesModel", "told", "I", false)
  | 40 => ("StateFramesModel", "content", "[I", true)
  | 41 => ("StateFramesModel", "literals", "[I", true)
  | 42 => ("StateFramesModel", "many", "I", false)
  | 43 => ("StateFramesModel", "used", "I", false)
  | 44 => ("StateFramesModel", "states0", "I", false)
  | 45 => ("StateFramesModel", "states1", "I", false)
  | 46 => ("StateFramesModel", "states2", "I", false)
  | 47 => ("StateFramesModel", "stream", "I", false)
  | 48 => ("StateFramesModel", "left", "I", false)
  | _ => ("StateFramesModel", "lanes", "[J", true)
def zY12 : Nat → FieldType := fun k => match k with
  | 0 => .array .int
  | 1 => .int
  | 2 => .array .int
  | 3 => .int
  | 4 => .array .int
  | 5 => .int
  | 6 => .int
  | 7 => .boolean
  | 8 => .array .int
  | 9 => .array .int
  | 10 => .array .int
  | 11 => .array .long
  | 12 => .array .int
  | 13 => .int
  | 14 => .array .int
  | 15 => .array .int
  | 16 => .array .int
  | 17 => .array .int
  | 18 => .array .int
  | 19 => .array .int
  | 20 => .array .long
  | 21 => .array .int
  | 22 => .int
  | 23 => .array .int
  | 24 => .array .int
  | 25 => .array .int
  | 26 => .array .int
  | 27 => .array .int
  | 28 => .int
  | 29 => .int
  | 30 => .int
  | 31 => .int
  | 32 => .int
  | 33 => .int
  | 34 => .int
  | 35 => .int
  | 36 => .int
  | 37 => .int
  | 38 => .long
  | 39 => .int
  | 40 => .array .int
  | 41 => .array .int
  | 42 => .int
  | 43 => .int
  | 44 => .int
  | 45 => .int
  | 46 => .int
  | 47 => .int
  | 48 => .int
  | _ => .array .long
abbrev z_cl : List vw_C := [(zR0, zT0, 6), (zR1, zT1, 7), (zR2, zT2, 6), (zR3, zT3, 8), (zR4, zT4, 12), (zR5, zT5, 3), (zR6, zT6, 13), (zR7, zT7, 6), (zR8, zT8, 2), (zR9, zT9, 11), (zR10, zT10, 11), (zR11, zT11, 3), (zR12, zT12, 50)]
def zty (c k : Nat) : FieldType := match c with
  | 0 => zY0 k
  | 1 => zY1 k
  | 2 => zY2 k
  | 3 => zY3 k
  | 4 => zY4 k
  | 5 => zY5 k
  | 6 => zY6 k
  | 7 => zY7 k
  | 8 => zY8 k
  | 9 => zY9 k
  | 10 => zY10 k
  | 11 => zY11 k
  | _ => zY12 k
def zB : List Cond := lw_tbl.filter goodWord
theorem z_good {w : Cond} (h : w ∈ zB) : (w.onTables && w.keeps) = true ∨ ∃ ty, w = .arrayClass ty := good_of_word (List.mem_filter.mp h).2
theorem zi1 : ∀ w ∈ tables_1_1, goodWord w = true → w ∈ zB := fun w h g => List.mem_filter.mpr ⟨List.mem_append_right _ (show w ∈ tables_1 from List.mem_append_left _ h), g⟩
theorem zi2 : ∀ w ∈ tables_1_2, goodWord w = true → w ∈ zB := fun w h g => List.mem_filter.mpr ⟨List.mem_append_right _ (show w ∈ tables_1 from List.mem_append_right _ (List.mem_append_left _ h)), g⟩
theorem zi3 : ∀ w ∈ tables_1_3, goodWord w = true → w ∈ zB := fun w h g => List.mem_filter.mpr ⟨List.mem_append_right _ (show w ∈ tables_1 from List.mem_append_right _ (List.mem_append_right _ (List.mem_append_left _ h))), g⟩
theorem zi4 : ∀ w ∈ tables_1_4, goodWord w = true → w ∈ zB := fun w h g => List.mem_filter.mpr ⟨List.mem_append_right _ (show w ∈ tables_1 from List.mem_append_right _ (List.mem_append_right _ (List.mem_append_right _ (List.mem_append_left _ h)))), g⟩
theorem zi5 : ∀ w ∈ tables_1_5, goodWord w = true → w ∈ zB := fun w h g => List.mem_filter.mpr ⟨List.mem_append_right _ (show w ∈ tables_1 from List.mem_append_right _ (List.mem_append_right _ (List.mem_append_right _ (List.mem_append_right _ (List.mem_append_left _ h))))), g⟩
theorem zi6 : ∀ w ∈ tables_1_6, goodWord w = true → w ∈ zB := fun w h g => List.mem_filter.mpr ⟨List.mem_append_right _ (show w ∈ tables_1 from List.mem_append_right _ (List.mem_append_right _ (List.mem_append_right _ (List.mem_append_right _ (List.mem_append_right _ (h)))))), g⟩
theorem zi0 : ∀ w ∈ k2_sels lw_privs, goodWord w = true → w ∈ zB := fun w h g => List.mem_filter.mpr ⟨List.mem_append_left _ h, g⟩
def zNF : List (String × Nat × String × String × String × String) := [("StateFrames$Stream", 20, "StateFrames$Row", "bytes", "[B", "StateFrames"), ("StateFrames$Share", 83, "StateFrames$Row", "bytes", "[B", "StateFrames"), ("StateFrames$Stream", 23, "StateFrames$Row", "count", "I", "StateFrames"), ("StateFrames$Dictionary", 67, "StateFrames$Row", "count", "I", "StateFrames"), ("StateFrames$Content", 41, "StateFrames$Row", "count", "I", "StateFrames"), ("StateFrames", 63, "StateFrames$Row", "count", "I", "StateFrames"), ("StateFrames$FrameReader", 79, "StateFrames$Row", "count", "I", "StateFrames"), ("StateFrames$Share", 78, "StateFrames$Row", "count", "I", "StateFrames"), ("StateFrames$Sequences", 96, "StateFrames$Latest", "first", "J", "StateFrames"), ("StateFrames$Sequences", 100, "StateFrames$Latest", "second", "J", "StateFrames"), ("StateFrames$Sequences", 103, "StateFrames$Latest", "third", "J", "StateFrames"), ("StateFrames$Codes", 83, "StateFrames$Share", "order", "I", "StateFrames"), ("StateFrames$Sequences", 154, "StateFrames$Share", "order", "I", "StateFrames"), ("StateFrames$Codes", 48, "StateFrames$Stream", "left", "I", "StateFrames"), ("StateFrames$Sequences", 162, "StateFrames$Stream", "left", "I", "StateFrames"), ("StateFrames$Literals", 128, "StateFrames$Stream", "left", "I", "StateFrames"), ("StateFrames$Dictionary", 54, "StateFrames", "GREATEST_ORDERS", "[I", "StateFrames"), ("StateFrames$Dictionary", 58, "StateFrames", "LASTS", "[I", "StateFrames"), ("StateFrames", 38, "StateFrames$Dictionary", "content", "LStateFrames$Row;", "StateFrames"), ("StateFrames$Sequences", 95, "StateFrames$Dictionary", "latest", "LStateFrames$Latest;", "StateFrames"), ("StateFrames", 123, "StateFrames$Dictionary", "id", "J", "StateFrames"), ("StateFrames$FrameReader", 150, "StateFrames$Dictionary", "id", "J", "StateFrames"), ("StateFrames$Literals", 71, "StateFrames$Dictionary", "tells", "Z", "StateFrames"), ("StateFrames$Sequences", 91, "StateFrames$Dictionary", "tells", "Z", "StateFrames"), ("StateFrames$Literals", 68, "StateFrames$Dictionary", "codes", "LStateFrames$Codes;", "StateFrames"), ("StateFrames$Sequences", 86, "StateFrames$Dictionary", "shares", "[LStateFrames$Share;", "StateFrames"), ("StateFrames$FrameReader", 76, "StateFrames$Report", "fault", "I", "StateFrames"), ("StateFrames", 98, "StateFrames$Report", "fault", "I", "StateFrames"), ("StateFrames", 101, "StateFrames$Report", "place", "I", "StateFrames"), ("StateFrames$FrameReader", 118, "StateFrames$Report", "heads", "I", "StateFrames"), ("StateFrames", 111, "StateFrames$Report", "heads", "I", "StateFrames"), ("StateFrames", 114, "StateFrames$Report", "blocks", "I", "StateFrames"), ("StateFrames$FrameReader", 159, "StateFrames$Report", "blocks", "I", "StateFrames"), ("StateFrames$Sequences", 169, "StateFrames$Report", "sequences", "I", "StateFrames"), ("StateFrames", 117, "StateFrames$Report", "sequences", "I", "StateFrames"), ("StateFrames", 120, "StateFrames$Report", "window", "I", "StateFrames"), ("StateFrames$FrameReader", 148, "StateFrames$Report", "window", "I", "StateFrames"), ("StateFrames$Sequences", 211, "StateFrames$Content", "bytes", "LStateFrames$Row;", "StateFrames"), ("StateFrames", 104, "StateFrames$Content", "bytes", "LStateFrames$Row;", "StateFrames"), ("StateFrames$FrameReader", 186, "StateFrames$Content", "bytes", "LStateFrames$Row;", "StateFrames"), ("StateFrames$FrameReader", 143, "StateFrames$Content", "window", "J", "StateFrames"), ("StateFrames$FrameReader", 176, "StateFrames$Literals", "behind", "I", "StateFrames"), ("StateFrames$Sequences", 61, "StateFrames", "KNOWN_ORDERS", "[I", "StateFrames"), ("StateFrames$Sequences", 64, "StateFrames", "LASTS", "[I", "StateFrames"), ("StateFrames$Sequences", 70, "StateFrames", "GREATEST_ORDERS", "[I", "StateFrames"), ("StateFrames$Sequences", 73, "StateFrames", "KNOWN_LITERAL_LENGTHS", "[I", "StateFrames"), ("StateFrames$Sequences", 80, "StateFrames", "KNOWN_DISTANCES", "[I", "StateFrames"), ("StateFrames$Sequences", 83, "StateFrames", "KNOWN_MATCH_LENGTHS", "[I", "StateFrames"), ("StateFrames", 88, "StateFrames$FrameReader", "inFrame", "Z", "StateFrames"), ("StateFrames$Sequences", 175, "StateFrames", "MATCH_FROM", "[I", "StateFrames"), ("StateFrames$Sequences", 178, "StateFrames", "MATCH_MORE", "[I", "StateFrames"), ("StateFrames$Sequences", 181, "StateFrames", "LITERAL_FROM", "[I", "StateFrames"), ("StateFrames$Sequences", 184, "StateFrames", "LITERAL_MORE", "[I", "StateFrames")]
def zNM : List (String × Nat × MethodName × String) := [("StateFrames", 31, ⟨"StateFrames$Report", "<init>", "()V"⟩, "StateFrames")]
theorem zNF_in : ∀ q ∈ zNF, Cond.fieldLinkNest q.1 q.2.1 q.2.2.1 q.2.2.2.1 q.2.2.2.2.1 q.2.2.2.2.2 ∈ lw_tbl := by decide +kernel
theorem zNM_in : ∀ q ∈ zNM, Cond.methodLinkNest q.1 q.2.1 q.2.2.1 q.2.2.2 ∈ lw_tbl := by decide +kernel
def zST : List (String × String × String) := [("StateFrames", "GREATEST_ORDERS", "[I"), ("StateFrames", "LASTS", "[I"), ("StateFrames", "KNOWN_ORDERS", "[I"), ("StateFrames", "KNOWN_LITERAL_LENGTHS", "[I"), ("StateFrames", "KNOWN_DISTANCES", "[I"), ("StateFrames", "KNOWN_MATCH_LENGTHS", "[I"), ("StateFrames", "MATCH_FROM", "[I"), ("StateFrames", "MATCH_MORE", "[I"), ("StateFrames", "LITERAL_FROM", "[I"), ("StateFrames", "LITERAL_MORE", "[I")]
theorem zA0 : ∀ w ∈ u_ws zR0 zT0 6, w ∈ zB := by decide +kernel
theorem zn0 : ∀ a, a < 6 → ∀ b, b < 6 → a ≠ b → (zT0 a).2.1 ≠ (zT0 b).2.1 := by decide +kernel
theorem zy0 : ∀ k, k < 6 → parseFieldDescriptor (zT0 k).2.2.1 = some (zY0 k) := by decide +kernel
theorem zA1 : ∀ w ∈ u_ws zR1 zT1 7, w ∈ zB := by decide +kernel
theorem zn1 : ∀ a, a < 7 → ∀ b, b < 7 → a ≠ b → (zT1 a).2.1 ≠ (zT1 b).2.1 := by decide +kernel
theorem zy1 : ∀ k, k < 7 → parseFieldDescriptor (zT1 k).2.2.1 = some (zY1 k) := by decide +kernel
theorem zA2 : ∀ w ∈ u_ws zR2 zT2 6, w ∈ zB := by decide +kernel
theorem zn2 : ∀ a, a < 6 → ∀ b, b < 6 → a ≠ b → (zT2 a).2.1 ≠ (zT2 b).2.1 := by decide +kernel
theorem zy2 : ∀ k, k < 6 → parseFieldDescriptor (zT2 k).2.2.1 = some (zY2 k) := by decide +kernel
theorem zA3 : ∀ w ∈ u_ws zR3 zT3 8, w ∈ zB := by decide +kernel
theorem zn3 : ∀ a, a < 8 → ∀ b, b < 8 → a ≠ b → (zT3 a).2.1 ≠ (zT3 b).2.1 := by decide +kernel
theorem zy3 : ∀ k, k < 8 → parseFieldDescriptor (zT3 k).2.2.1 = some (zY3 k) := by decide +kernel
theorem zA4 : ∀ w ∈ u_ws zR4 zT4 12, w ∈ zB := by decide +kernel
theorem zn4 : ∀ a, a < 12 → ∀ b, b < 12 → a ≠ b → (zT4 a).2.1 ≠ (zT4 b).2.1 := by decide +kernel
theorem zy4 : ∀ k, k < 12 → parseFieldDescriptor (zT4 k).2.2.1 = some (zY4 k) := by decide +kernel
theorem zA5 : ∀ w ∈ u_ws zR5 zT5 3, w ∈ zB := by decide +kernel
theorem zn5 : ∀ a, a < 3 → ∀ b, b < 3 → a ≠ b → (zT5 a).2.1 ≠ (zT5 b).2.1 := by decide +kernel
theorem zy5 : ∀ k, k < 3 → parseFieldDescriptor (zT5 k).2.2.1 = some (zY5 k) := by decide +kernel
theorem zA6 : ∀ w ∈ u_ws zR6 zT6 13, w ∈ zB := by decide +kernel
theorem zn6 : ∀ a, a < 13 → ∀ b, b < 13 → a ≠ b → (zT6 a).2.1 ≠ (zT6 b).2.1 := by decide +kernel
theorem zy6 : ∀ k, k < 13 → parseFieldDescriptor (zT6 k).2.2.1 = some (zY6 k) := by decide +kernel
theorem zA7 : ∀ w ∈ u_ws zR7 zT7 6, w ∈ zB := by decide +kernel
theorem zn7 : ∀ a, a < 6 → ∀ b, b < 6 → a ≠ b → (zT7 a).2.1 ≠ (zT7 b).2.1 := by decide +kernel
theorem zy7 : ∀ k, k < 6 → parseFieldDescriptor (zT7 k).2.2.1 = some (zY7 k) := by decide +kernel
theorem zA8 : ∀ w ∈ u_ws zR8 zT8 2, w ∈ zB := by decide +kernel
theorem zn8 : ∀ a, a < 2 → ∀ b, b < 2 → a ≠ b → (zT8 a).2.1 ≠ (zT8 b).2.1 := by decide +kernel
theorem zy8 : ∀ k, k < 2 → parseFieldDescriptor (zT8 k).2.2.1 = some (zY8 k) := by decide +kernel
theorem zA9 : ∀ w ∈ u_ws zR9 zT9 11, w ∈ zB := by decide +kernel
theorem zn9 : ∀ a, a < 11 → ∀ b, b < 11 → a ≠ b → (zT9 a).2.1 ≠ (zT9 b).2.1 := by decide +kernel
theorem zy9 : ∀ k, k < 11 → parseFieldDescriptor (zT9 k).2.2.1 = some (zY9 k) := by decide +kernel
theorem zA10 : ∀ w ∈ u_ws zR10 zT10 11, w ∈ zB := by decide +kernel
theorem zn10 : ∀ a, a < 11 → ∀ b, b < 11 → a ≠ b → (zT10 a).2.1 ≠ (zT10 b).2.1 := by decide +kernel
theorem zy10 : ∀ k, k < 11 → parseFieldDescriptor (zT10 k).2.2.1 = some (zY10 k) := by decide +kernel
theorem zA11 : ∀ w ∈ u_ws zR11 zT11 3, w ∈ zB := by decide +kernel
theorem zn11 : ∀ a, a < 3 → ∀ b, b < 3 → a ≠ b → (zT11 a).2.1 ≠ (zT11 b).2.1 := by decide +kernel
theorem zy11 : ∀ k, k < 3 → parseFieldDescriptor (zT11 k).2.2.1 = some (zY11 k) := by decide +kernel
theorem zA12 : ∀ w ∈ u_ws zR12 zT12 50, w ∈ zB := by decide +kernel
theorem zn12 : ∀ a, a < 50 → ∀ b, b < 50 → a ≠ b → (zT12 a).2.1 ≠ (zT12 b).2.1 := by decide +kernel
theorem zy12 : ∀ k, k < 50 → parseFieldDescriptor (zT12 k).2.2.1 = some (zY12 k) := by decide +kernel
theorem zA {c : Nat} {r : vw_C} (h : z_cl[c]? = some r) : ∀ w ∈ u_ws r.1 r.2.1 r.2.2, w ∈ zB := by
  match c, h with
  | 0, h => cases h; exact zA0
  | 1, h => cases h; exact zA1
  | 2, h => cases h; exact zA2
  | 3, h => cases h; exact zA3
  | 4, h => cases h; exact zA4
  | 5, h => cases h; exact zA5
  | 6, h => cases h; exact zA6
  | 7, h => cases h; exact zA7
  | 8, h => cases h; exact zA8
  | 9, h => cases h; exact zA9
  | 10, h => cases h; exact zA10
  | 11, h => cases h; exact zA11
  | 12, h => cases h; exact zA12
  | c + 13, h => simp [z_cl] at h

theorem zn {c : Nat} {r : vw_C} (h : z_cl[c]? = some r) : ∀ a, a < r.2.2 → ∀ b, b < r.2.2 → a ≠ b → (r.2.1 a).2.1 ≠ (r.2.1 b).2.1 := by
  match c, h with
  | 0, h => cases h; exact zn0
  | 1, h => cases h; exact zn1
  | 2, h => cases h; exact zn2
  | 3, h => cases h; exact zn3
  | 4, h => cases h; exact zn4
  | 5, h => cases h; exact zn5
  | 6, h => cases h; exact zn6
  | 7, h => cases h; exact zn7
  | 8, h => cases h; exact zn8
  | 9, h => cases h; exact zn9
  | 10, h => cases h; exact zn10
  | 11, h => cases h; exact zn11
  | 12, h => cases h; exact zn12
  | c + 13, h => simp [z_cl] at h

theorem zy {c : Nat} {r : vw_C} (h : z_cl[c]? = some r) : ∀ k, k < r.2.2 → parseFieldDescriptor (r.2.1 k).2.2.1 = some (zty c k) := by
  match c, h with
  | 0, h => cases h; exact zy0
  | 1, h => cases h; exact zy1
  | 2, h => cases h; exact zy2
  | 3, h => cases h; exact zy3
  | 4, h => cases h; exact zy4
  | 5, h => cases h; exact zy5
  | 6, h => cases h; exact zy6
  | 7, h => cases h; exact zy7
  | 8, h => cases h; exact zy8
  | 9, h => cases h; exact zy9
  | 10, h => cases h; exact zy10
  | 11, h => cases h; exact zy11
  | 12, h => cases h; exact zy12
  | c + 13, h => simp [z_cl] at h

