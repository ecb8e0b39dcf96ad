/-! The tables of the pure interpreter, written by wip/tools2/gen_tab.py out of claim/Statement.lean. -/
def lwG : List Cond := lw_tbl.filter goodWord
theorem lwG_of {w : Cond} (h : w ∈ lw_tbl) (g : goodWord w = true) : w ∈ lwG := List.mem_filter.mpr ⟨h, g⟩
theorem lw_of1 {w : Cond} (h : w ∈ tables_1) : w ∈ lw_tbl := List.mem_append_right _ h
theorem lwG_good : GoodIn lwG lwG := fun w h => ⟨h, good_of_word (List.mem_filter.mp h).2⟩
/-- names of the classes: 0 to 12 those that are made, then the law, Arrays, Math -/
def cidl : List String := ["FewEnds", "FewEnds$Tape", "FewEnds$Chart", "FewEnds$Plan", "FewEnds$Directions", "FewEnds$ChartReader", "FewEnds$DirectionsReader", "FewEnds$Pairing", "FewEnds$Alterations", "FewEnds$Follower", "FewEnds$Tray", "FewEnds$Mark", "FewEndsModel", "FewEndsLaw", "java/util/Arrays", "java/lang/Math"]
def cid (o : Nat) : String := cidl.getD o ""
def kT0 : u_T := fun k => match k with
  | 0 => ("FewEnds", "status", "I", false)
  | 1 => ("FewEnds", "topPart", "J", false)
  | 2 => ("FewEnds", "bottomPart", "J", false)
  | 3 => ("FewEnds", "trays", "[LFewEnds$Tray;", true)
  | 4 => ("FewEnds", "tape", "LFewEnds$Tape;", true)
  | 5 => ("FewEnds", "chart", "LFewEnds$Chart;", true)
  | 6 => ("FewEnds", "plan", "LFewEnds$Plan;", true)
  | 7 => ("FewEnds", "directions", "LFewEnds$Directions;", true)
  | 8 => ("FewEnds", "marks", "[LFewEnds$Mark;", true)
  | 9 => ("FewEnds", "marked", "I", false)
  | 10 => ("FewEnds", "chartReader", "LFewEnds$ChartReader;", true)
  | 11 => ("FewEnds", "directionsReader", "LFewEnds$DirectionsReader;", true)
  | 12 => ("FewEnds", "pairing", "LFewEnds$Pairing;", true)
  | 13 => ("FewEnds", "alterations", "LFewEnds$Alterations;", true)
  | 14 => ("FewEnds", "follower", "LFewEnds$Follower;", true)
  | 15 => ("FewEnds", "trial", "LFewEnds$Chart;", true)
  | 16 => ("FewEnds", "draft", "LFewEnds$Plan;", true)
  | 17 => ("FewEnds", "groups", "[I", true)
  | _ => ("FewEnds", "counts", "[I", true)
def kY0 : List FieldType := [.int, .long, .long, .array (.object "FewEnds$Tray"), .object "FewEnds$Tape", .object "FewEnds$Chart", .object "FewEnds$Plan", .object "FewEnds$Directions", .array (.object "FewEnds$Mark"), .int, .object "FewEnds$ChartReader", .object "FewEnds$DirectionsReader", .object "FewEnds$Pairing", .object "FewEnds$Alterations", .object "FewEnds$Follower", .object "FewEnds$Chart", .object "FewEnds$Plan", .array .int, .array .int]
def kT1 : u_T := fun k => match k with
  | 0 => ("FewEnds$Tape", "bytes", "[B", true)
  | 1 => ("FewEnds$Tape", "fed", "I", false)
  | 2 => ("FewEnds$Tape", "fault", "I", false)
  | 3 => ("FewEnds$Tape", "faultPlace", "I", false)
  | 4 => ("FewEnds$Tape", "kind", "I", false)
  | 5 => ("FewEnds$Tape", "number", "I", false)
  | 6 => ("FewEnds$Tape", "word", "J", false)
  | 7 => ("FewEnds$Tape", "length", "I", false)
  | 8 => ("FewEnds$Tape", "place", "I", false)
  | _ => ("FewEnds$Tape", "next", "I", false)
def kY1 : List FieldType := [.array .byte, .int, .int, .int, .int, .int, .long, .int, .int, .int]
def kT2 : u_T := fun k => match k with
  | 0 => ("FewEnds$Chart", "settings", "[I", true)
  | 1 => ("FewEnds$Chart", "names", "[J", true)
  | 2 => ("FewEnds$Chart", "shows", "[I", true)
  | 3 => ("FewEnds$Chart", "yarns", "[I", true)
  | 4 => ("FewEnds$Chart", "cells", "[I", true)
  | 5 => ("FewEnds$Chart", "hues", "[I", true)
  | 6 => ("FewEnds$Chart", "places", "[I", true)
  | 7 => ("FewEnds$Chart", "rows", "[I", true)
  | _ => ("FewEnds$Chart", "stitches", "I", false)
def kY2 : List FieldType := [.array .int, .array .long, .array .int, .array .int, .array .int, .array .int, .array .int, .array .int, .int]
def kT3 : u_T := fun k => match k with
  | 0 => ("FewEnds$Plan", "later", "[I", true)
  | _ => ("FewEnds$Plan", "earlier", "[I", true)
def kY3 : List FieldType := [.array .int, .array .int]
def kT4 : u_T := fun k => match k with
  | 0 => ("FewEnds$Directions", "kinds", "[I", true)
  | 1 => ("FewEnds$Directions", "colours", "[I", true)
  | 2 => ("FewEnds$Directions", "numbers", "[I", true)
  | 3 => ("FewEnds$Directions", "lines", "I", false)
  | 4 => ("FewEnds$Directions", "steps", "I", false)
  | _ => ("FewEnds$Directions", "there", "Z", false)
def kY4 : List FieldType := [.array .int, .array .int, .array .int, .int, .int, .boolean]
def kT5 : u_T := fun k => match k with
  | 0 => ("FewEnds$ChartReader", "tape", "LFewEnds$Tape;", true)
  | 1 => ("FewEnds$ChartReader", "draft", "LFewEnds$Chart;", true)
  | 2 => ("FewEnds$ChartReader", "told", "I", false)
  | _ => ("FewEnds$ChartReader", "rows", "I", false)
def kY5 : List FieldType := [.object "FewEnds$Tape", .object "FewEnds$Chart", .int, .int]
def kT6 : u_T := fun k => match k with
  | 0 => ("FewEnds$DirectionsReader", "tape", "LFewEnds$Tape;", true)
  | 1 => ("FewEnds$DirectionsReader", "draft", "LFewEnds$Directions;", true)
  | _ => ("FewEnds$DirectionsReader", "open", "I", false)
def kY6 : List FieldType := [.object "FewEnds$Tape", .object "FewEnds$Directions", .int]
def kT7 : u_T := fun k => match k with
  | 0 => ("FewEnds$Pairing", "sources", "[I", true)
  | 1 => ("FewEnds$Pairing", "goals", "[I", true)
  | 2 => ("FewEnds$Pairing", "sourceCount", "I", false)
  | 3 => ("FewEnds$Pairing", "goalCount", "I", false)
  | 4 => ("FewEnds$Pairing", "prices", "[I", true)
  | 5 => ("FewEnds$Pairing", "goalShares", "[I", true)
  | 6 => ("FewEnds$Pairing", "columnShares", "[I", true)
  | 7 => ("FewEnds$Pairing", "holders", "[I", true)
  | 8 => ("FewEnds$Pairing", "comeFrom", "[I", true)
  | 9 => ("FewEnds$Pairing", "distances", "[I", true)
  | _ => ("FewEnds$Pairing", "reached", "[Z", true)
def kY7 : List FieldType := [.array .int, .array .int, .int, .int, .array .int, .array .int, .array .int, .array .int, .array .int, .array .int, .array .boolean]
def kT8 : u_T := fun k => match k with
  | 0 => ("FewEnds$Alterations", "stitches", "[I", true)
  | 1 => ("FewEnds$Alterations", "colours", "[I", true)
  | 2 => ("FewEnds$Alterations", "savings", "[I", true)
  | 3 => ("FewEnds$Alterations", "found", "I", false)
  | 4 => ("FewEnds$Alterations", "toldOnes", "I", false)
  | 5 => ("FewEnds$Alterations", "told", "[I", true)
  | 6 => ("FewEnds$Alterations", "altered", "LFewEnds$Chart;", true)
  | _ => ("FewEnds$Alterations", "pairing", "LFewEnds$Pairing;", true)
def kY8 : List FieldType := [.array .int, .array .int, .array .int, .int, .int, .array .int, .object "FewEnds$Chart", .object "FewEnds$Pairing"]
def kT9 : u_T := fun k => match k with
  | 0 => ("FewEnds$Follower", "links", "LFewEnds$Plan;", true)
  | 1 => ("FewEnds$Follower", "knitted", "I", false)
  | 2 => ("FewEnds$Follower", "balls", "I", false)
  | 3 => ("FewEnds$Follower", "price", "I", false)
  | 4 => ("FewEnds$Follower", "steps", "I", false)
  | 5 => ("FewEnds$Follower", "hasRun", "Z", false)
  | 6 => ("FewEnds$Follower", "isFresh", "Z", false)
  | 7 => ("FewEnds$Follower", "hanging", "[I", true)
  | 8 => ("FewEnds$Follower", "loopLines", "[I", true)
  | 9 => ("FewEnds$Follower", "loopTurns", "[I", true)
  | _ => ("FewEnds$Follower", "open", "I", false)
def kY9 : List FieldType := [.object "FewEnds$Plan", .int, .int, .int, .int, .boolean, .boolean, .array .int, .array .int, .array .int, .int]
def kT10 : u_T := fun k => match k with
  | 0 => ("FewEnds$Tray", "numbers", "[J", true)
  | 1 => ("FewEnds$Tray", "sort", "I", false)
  | _ => ("FewEnds$Tray", "many", "I", false)
def kY10 : List FieldType := [.array .long, .int, .int]
def kT11 : u_T := fun k => match k with
  | 0 => ("FewEnds$Mark", "chart", "LFewEnds$Chart;", true)
  | 1 => ("FewEnds$Mark", "plan", "LFewEnds$Plan;", true)
  | _ => ("FewEnds$Mark", "directions", "LFewEnds$Directions;", true)
def kY11 : List FieldType := [.object "FewEnds$Chart", .object "FewEnds$Plan", .object "FewEnds$Directions"]
def kT12 : u_T := fun k => match k with
  | 0 => ("FewEndsModel", "at", "[I", true)
  | 1 => ("FewEndsModel", "names", "[J", true)
  | 2 => ("FewEndsModel", "status", "I", false)
  | 3 => ("FewEndsModel", "top", "J", false)
  | 4 => ("FewEndsModel", "bottom", "J", false)
  | 5 => ("FewEndsModel", "sort", "[I", true)
  | 6 => ("FewEndsModel", "trayMany", "[I", true)
  | 7 => ("FewEndsModel", "trays", "[J", true)
  | 8 => ("FewEndsModel", "tape", "[B", true)
  | 9 => ("FewEndsModel", "text", "[B", true)
  | 10 => ("FewEndsModel", "taped", "I", false)
  | 11 => ("FewEndsModel", "size", "I", false)
  | 12 => ("FewEndsModel", "token", "I", false)
  | 13 => ("FewEndsModel", "from", "I", false)
  | 14 => ("FewEndsModel", "end", "I", false)
  | 15 => ("FewEndsModel", "value", "I", false)
  | 16 => ("FewEndsModel", "faultKind", "I", false)
  | 17 => ("FewEndsModel", "faultPlace", "I", false)
  | 18 => ("FewEndsModel", "faults", "I", false)
  | 19 => ("FewEndsModel", "seen", "I", false)
  | 20 => ("FewEndsModel", "rowsTold", "I", false)
  | 21 => ("FewEndsModel", "isFollowed", "Z", false)
  | 22 => ("FewEndsModel", "opened", "[I", true)
  | 23 => ("FewEndsModel", "depth", "I", false)
  | 24 => ("FewEndsModel", "steps", "I", false)
  | 25 => ("FewEndsModel", "placeOf", "[I", true)
  | 26 => ("FewEndsModel", "colourOf", "[I", true)
  | 27 => ("FewEndsModel", "keptGoes", "[I", true)
  | 28 => ("FewEndsModel", "weight", "[I", true)
  | 29 => ("FewEndsModel", "price", "[I", true)
  | 30 => ("FewEndsModel", "worthOf", "[I", true)
  | 31 => ("FewEndsModel", "given", "[I", true)
  | 32 => ("FewEndsModel", "by", "[I", true)
  | 33 => ("FewEndsModel", "nearest", "[I", true)
  | 34 => ("FewEndsModel", "used", "[Z", true)
  | 35 => ("FewEndsModel", "own", "[I", true)
  | 36 => ("FewEndsModel", "ownMany", "I", false)
  | 37 => ("FewEndsModel", "bestStitch", "I", false)
  | 38 => ("FewEndsModel", "bestColour", "I", false)
  | 39 => ("FewEndsModel", "bestSaves", "I", false)
  | 40 => ("FewEndsModel", "fewTold", "[I", true)
  | 41 => ("FewEndsModel", "fewMany", "I", false)
  | 42 => ("FewEndsModel", "sewnSet", "I", false)
  | 43 => ("FewEndsModel", "sewnLeast", "I", false)
  | 44 => ("FewEndsModel", "patchOf", "[I", true)
  | 45 => ("FewEndsModel", "inRow", "[I", true)
  | 46 => ("FewEndsModel", "keptPlaces", "[I", true)
  | 47 => ("FewEndsModel", "rounds", "[I", true)
  | 48 => ("FewEndsModel", "ballAt", "[I", true)
  | 49 => ("FewEndsModel", "laidGoes", "[I", true)
  | 50 => ("FewEndsModel", "told", "[I", true)
  | 51 => ("FewEndsModel", "knitted", "I", false)
  | 52 => ("FewEndsModel", "balls", "I", false)
  | 53 => ("FewEndsModel", "spent", "I", false)
  | 54 => ("FewEndsModel", "isTold", "Z", false)
  | _ => ("FewEndsModel", "marks", "I", false)
def kY12 : List FieldType := [.array .int, .array .long, .int, .long, .long, .array .int, .array .int, .array .long, .array .byte, .array .byte, .int, .int, .int, .int, .int, .int, .int, .int, .int, .int, .int, .boolean, .array .int, .int, .int, .array .int, .array .int, .array .int, .array .int, .array .int, .array .int, .array .int, .array .int, .array .int, .array .boolean, .array .int, .int, .int, .int, .int, .array .int, .int, .int, .int, .array .int, .array .int, .array .int, .array .int, .array .int, .array .int, .array .int, .int, .int, .int, .boolean, .int]
/-- the classes whose objects are made -/
def kcl : List vw_C := [("FewEnds", kT0, 19), ("FewEnds$Tape", kT1, 10), ("FewEnds$Chart", kT2, 9), ("FewEnds$Plan", kT3, 2), ("FewEnds$Directions", kT4, 6), ("FewEnds$ChartReader", kT5, 4), ("FewEnds$DirectionsReader", kT6, 3), ("FewEnds$Pairing", kT7, 11), ("FewEnds$Alterations", kT8, 8), ("FewEnds$Follower", kT9, 11), ("FewEnds$Tray", kT10, 3), ("FewEnds$Mark", kT11, 3), ("FewEndsModel", kT12, 56)]
def kyl : List (List FieldType) := [kY0, kY1, kY2, kY3, kY4, kY5, kY6, kY7, kY8, kY9, kY10, kY11, kY12]
def cN (ci : Nat) : Nat := (kcl.getD ci ("", kT0, 0)).2.2
def cty (ci k : Nat) : FieldType := (kyl.getD ci []).getD k .int
/-- how a field is kept: 0 int, 1 long, 2 reference, 3 boolean -/
def tyc (t : FieldType) : Nat := match t with | .int => 0 | .long => 1 | .boolean => 3 | _ => 2
def fty (ci k : Nat) : Nat := tyc (cty ci k)
abbrev MT : Type := MethodName × ByteArray × Nat × Option FieldType
def mC (q : MT) : Cond := .code q.1 q.2.1 q.2.2.1 q.2.2.2
def mtab_1 : List MT := [(⟨"FewEnds", "<init>", "()V"⟩, prog_1_method_1_code, 2, none),
  (⟨"java/lang/Object", "<init>", "()V"⟩, object_method_1_code, 1, none),
  (⟨"FewEnds$Tape", "<init>", "()V"⟩, prog_11_method_1_code, 1, none),
  (⟨"FewEnds$Chart", "<init>", "()V"⟩, prog_3_method_1_code, 1, none),
  (⟨"FewEnds$Chart", "empty", "()V"⟩, prog_3_method_2_code, 1, none),
  (⟨"java/util/Arrays", "fill", "([II)V"⟩, prog_20_method_103_code, 4, none),
  (⟨"FewEnds$Plan", "<init>", "()V"⟩, prog_10_method_1_code, 1, none),
  (⟨"FewEnds$Plan", "empty", "()V"⟩, prog_10_method_2_code, 1, none),
  (⟨"FewEnds$Directions", "<init>", "()V"⟩, prog_5_method_1_code, 1, none),
  (⟨"FewEnds$ChartReader", "<init>", "(LFewEnds$Tape;)V"⟩, prog_4_method_1_code, 2, none),
  (⟨"FewEnds$DirectionsReader", "<init>", "(LFewEnds$Tape;)V"⟩, prog_6_method_1_code, 2, none)]
set_option maxRecDepth 100000 in
theorem mtab_1_ok : tables_1_1.filter k2_isCode = mtab_1.map mC := rfl
def mtab_2 : List MT := [(⟨"FewEnds$Pairing", "<init>", "()V"⟩, prog_9_method_1_code, 1, none),
  (⟨"FewEnds$Alterations", "<init>", "(LFewEnds$Pairing;)V"⟩, prog_2_method_1_code, 2, none),
  (⟨"FewEnds$Follower", "<init>", "()V"⟩, prog_7_method_1_code, 1, none),
  (⟨"FewEnds$Tray", "<init>", "()V"⟩, prog_12_method_1_code, 1, none),
  (⟨"FewEnds$Mark", "<init>", "()V"⟩, prog_8_method_1_code, 1, none),
  (⟨"FewEnds", "status", "()I"⟩, prog_1_method_2_code, 1, (some .int)),
  (⟨"FewEnds", "top", "()J"⟩, prog_1_method_3_code, 1, (some .long))]
set_option maxRecDepth 100000 in
theorem mtab_2_ok : tables_1_2.filter k2_isCode = mtab_2.map mC := rfl
def mtab_3 : List MT := [(⟨"FewEnds", "bottom", "()J"⟩, prog_1_method_4_code, 1, (some .long)),
  (⟨"FewEnds", "tray", "(III)Z"⟩, prog_1_method_5_code, 5, (some .boolean)),
  (⟨"FewEnds", "trayAt", "(I)LFewEnds$Tray;"⟩, prog_1_method_71_code, 2, (some (.object "FewEnds$Tray"))),
  (⟨"FewEnds", "refuse", "(I)Z"⟩, prog_1_method_70_code, 2, (some .boolean)),
  (⟨"FewEnds$Tray", "lay", "(II)V"⟩, prog_12_method_3_code, 3, none),
  (⟨"java/util/Arrays", "fill", "([JJ)V"⟩, prog_20_method_101_code, 5, none),
  (⟨"FewEnds", "agree", "()Z"⟩, prog_1_method_69_code, 1, (some .boolean)),
  (⟨"FewEnds", "write", "(IIJ)Z"⟩, prog_1_method_6_code, 6, (some .boolean)),
  (⟨"FewEnds$Tray", "isMissing", "()Z"⟩, prog_12_method_2_code, 1, (some .boolean)),
  (⟨"FewEnds$Tray", "has", "(II)Z"⟩, prog_12_method_4_code, 3, (some .boolean)),
  (⟨"FewEnds$Tray", "put", "(IJ)V"⟩, prog_12_method_5_code, 4, none),
  (⟨"FewEnds$Tray", "cut", "(J)J"⟩, prog_12_method_7_code, 3, (some .long)),
  (⟨"FewEnds", "read", "(II)J"⟩, prog_1_method_7_code, 4, (some .long)),
  (⟨"FewEnds", "none", "(I)I"⟩, prog_1_method_68_code, 2, (some .int)),
  (⟨"FewEnds$Tray", "numberAt", "(I)J"⟩, prog_12_method_6_code, 2, (some .long)),
  (⟨"FewEnds", "pour", "(IIIII)Z"⟩, prog_1_method_8_code, 8, (some .boolean)),
  (⟨"FewEnds", "feed", "(IIIII)I"⟩, prog_1_method_9_code, 6, (some .int)),
  (⟨"FewEnds$Tape", "put", "(I)V"⟩, prog_11_method_2_code, 3, none),
  (⟨"FewEnds", "chart", "(I)I"⟩, prog_1_method_10_code, 2, (some .int)),
  (⟨"FewEnds$ChartReader", "reads", "(I)Z"⟩, prog_4_method_2_code, 3, (some .boolean)),
  (⟨"FewEnds$Tape", "open", "(I)V"⟩, prog_11_method_3_code, 2, none),
  (⟨"java/lang/Math", "min", "(II)I"⟩, prog_15_method_69_code, 2, (some .int)),
  (⟨"FewEnds$ChartReader", "readSize", "()Z"⟩, prog_4_method_4_code, 1, (some .boolean)),
  (⟨"FewEnds$Tape", "goWord", "(Ljava/lang/String;)Z"⟩, prog_11_method_6_code, 2, (some .boolean)),
  (⟨"FewEnds$Tape", "go", "()Z"⟩, prog_11_method_5_code, 2, (some .boolean)),
  (⟨"FewEnds$Tape", "readWord", "()V"⟩, prog_11_method_10_code, 1, none),
  (⟨"FewEnds$Tape", "readNumber", "()V"⟩, prog_11_method_11_code, 1, none),
  (⟨"FewEnds$Tape", "wrong", "(I)Z"⟩, prog_11_method_4_code, 2, (some .boolean)),
  (⟨"FewEnds$Tape", "isWord", "(Ljava/lang/String;)Z"⟩, prog_11_method_9_code, 5, (some .boolean)),
  (⟨"java/lang/String", "length", "()I"⟩, prog_16_method_54_code, 1, (some .int)),
  (⟨"java/lang/String", "coder", "()B"⟩, prog_16_method_152_code, 1, (some .byte)),
  (⟨"java/lang/String", "charAt", "(I)C"⟩, prog_16_method_56_code, 2, (some .char)),
  (⟨"java/lang/String", "isLatin1", "()Z"⟩, prog_16_method_154_code, 1, (some .boolean)),
  (⟨"java/lang/StringLatin1", "charAt", "([BI)C"⟩, prog_17_method_2_code, 2, (some .char)),
  (⟨"java/lang/String", "checkIndex", "(II)V"⟩, prog_16_method_155_code, 2, none),
  (⟨"jdk/internal/util/Preconditions", "checkIndex", "(IILjava/util/function/BiFunction;)I"⟩, prog_21_method_11_code, 3, (some .int)),
  (⟨"java/lang/StringUTF16", "charAt", "([BI)C"⟩, prog_18_method_83_code, 2, (some .char)),
  (⟨"java/lang/StringUTF16", "checkIndex", "(I[B)V"⟩, prog_18_method_91_code, 2, none),
  (⟨"java/lang/StringUTF16", "length", "([B)I"⟩, prog_18_method_6_code, 1, (some .int)),
  (⟨"java/lang/StringUTF16", "getChar", "([BI)C"⟩, prog_18_method_5_code, 2, (some .char)),
  (⟨"FewEnds$Tape", "goNumber", "(II)Z"⟩, prog_11_method_8_code, 3, (some .boolean)),
  (⟨"FewEnds$Tape", "goSign", "()Z"⟩, prog_11_method_7_code, 1, (some .boolean)),
  (⟨"FewEnds$ChartReader", "ends", "()Z"⟩, prog_4_method_3_code, 1, (some .boolean)),
  (⟨"FewEnds$Chart", "arrange", "()V"⟩, prog_3_method_11_code, 5, none),
  (⟨"FewEnds$Chart", "stitchAt", "(II)I"⟩, prog_3_method_10_code, 5, (some .int)),
  (⟨"FewEnds$ChartReader", "readPart", "()Z"⟩, prog_4_method_5_code, 1, (some .boolean)),
  (⟨"FewEnds$ChartReader", "readColour", "()Z"⟩, prog_4_method_6_code, 2, (some .boolean)),
  (⟨"FewEnds$ChartReader", "isName", "()Z"⟩, prog_4_method_14_code, 1, (some .boolean)),
  (⟨"FewEnds$Chart", "named", "(J)I"⟩, prog_3_method_12_code, 4, (some .int)),
  (⟨"FewEnds$ChartReader", "readRow", "()Z"⟩, prog_4_method_7_code, 3, (some .boolean)),
  (⟨"FewEnds$ChartReader", "readStitch", "(II)Z"⟩, prog_4_method_8_code, 4, (some .boolean)),
  (⟨"FewEnds$ChartReader", "readSetting", "(III)Z"⟩, prog_4_method_9_code, 4, (some .boolean)),
  (⟨"FewEnds$ChartReader", "isFirst", "(I)Z"⟩, prog_4_method_12_code, 2, (some .boolean))]
set_option maxRecDepth 100000 in
theorem mtab_3_ok : tables_1_3.filter k2_isCode = mtab_3.map mC := rfl
def mtab_4 : List MT := [(⟨"FewEnds$ChartReader", "readNumber", "(III)Z"⟩, prog_4_method_13_code, 4, (some .boolean)),
  (⟨"FewEnds$ChartReader", "readPriced", "(IIII)Z"⟩, prog_4_method_10_code, 5, (some .boolean)),
  (⟨"FewEnds$ChartReader", "readRound", "()Z"⟩, prog_4_method_11_code, 1, (some .boolean)),
  (⟨"FewEnds$Chart", "copyFrom", "(LFewEnds$Chart;)V"⟩, prog_3_method_3_code, 2, none),
  (⟨"FewEnds$Directions", "forget", "()V"⟩, prog_5_method_2_code, 1, none),
  (⟨"FewEnds", "forgetWhatWasReckoned", "()V"⟩, prog_1_method_73_code, 1, none),
  (⟨"FewEnds", "answer", "(I)I"⟩, prog_1_method_67_code, 2, (some .int)),
  (⟨"FewEnds", "directions", "(I)I"⟩, prog_1_method_11_code, 2, (some .int)),
  (⟨"FewEnds$DirectionsReader", "reads", "(ILFewEnds$Chart;)Z"⟩, prog_6_method_2_code, 4, (some .boolean)),
  (⟨"FewEnds$DirectionsReader", "readLine", "(LFewEnds$Chart;)Z"⟩, prog_6_method_3_code, 2, (some .boolean)),
  (⟨"FewEnds$DirectionsReader", "hasRoom", "()Z"⟩, prog_6_method_4_code, 1, (some .boolean)),
  (⟨"FewEnds$DirectionsReader", "readKnit", "(LFewEnds$Chart;)Z"⟩, prog_6_method_5_code, 3, (some .boolean)),
  (⟨"FewEnds$DirectionsReader", "goName", "(LFewEnds$Chart;)Z"⟩, prog_6_method_8_code, 2, (some .boolean)),
  (⟨"FewEnds$DirectionsReader", "isName", "()Z"⟩, prog_6_method_9_code, 1, (some .boolean)),
  (⟨"FewEnds$Directions", "add", "(III)V"⟩, prog_5_method_4_code, 4, none),
  (⟨"FewEnds$DirectionsReader", "readCut", "(LFewEnds$Chart;)Z"⟩, prog_6_method_6_code, 2, (some .boolean)),
  (⟨"FewEnds$DirectionsReader", "readLoop", "()Z"⟩, prog_6_method_7_code, 1, (some .boolean)),
  (⟨"FewEnds$Directions", "copyFrom", "(LFewEnds$Directions;)V"⟩, prog_5_method_3_code, 2, none),
  (⟨"FewEnds", "fault", "(I)I"⟩, prog_1_method_12_code, 2, (some .int)),
  (⟨"FewEnds", "told", "(I)I"⟩, prog_1_method_13_code, 2, (some .int)),
  (⟨"FewEnds", "colour", "(II)I"⟩, prog_1_method_14_code, 3, (some .int)),
  (⟨"FewEnds$Chart", "hasColour", "(I)Z"⟩, prog_3_method_7_code, 2, (some .boolean)),
  (⟨"FewEnds$Chart", "stitchesOf", "(I)I"⟩, prog_3_method_9_code, 4, (some .int)),
  (⟨"FewEnds", "stitch", "(II)I"⟩, prog_1_method_15_code, 3, (some .int)),
  (⟨"FewEnds$Chart", "hasStitch", "(I)Z"⟩, prog_3_method_4_code, 2, (some .boolean)),
  (⟨"FewEnds", "at", "(II)I"⟩, prog_1_method_16_code, 3, (some .int)),
  (⟨"FewEnds$Chart", "hasRow", "(I)Z"⟩, prog_3_method_6_code, 2, (some .boolean)),
  (⟨"FewEnds", "lawful", "(II)I"⟩, prog_1_method_17_code, 3, (some .int)),
  (⟨"FewEnds$Chart", "hasCouple", "(II)Z"⟩, prog_3_method_5_code, 3, (some .boolean)),
  (⟨"FewEnds$Chart", "wayBetween", "(II)I"⟩, prog_3_method_21_code, 5, (some .int)),
  (⟨"java/lang/Math", "abs", "(I)I"⟩, prog_15_method_59_code, 1, (some .int)),
  (⟨"FewEnds", "cost", "(II)I"⟩, prog_1_method_18_code, 3, (some .int)),
  (⟨"FewEnds$Chart", "priceOf", "(II)I"⟩, prog_3_method_23_code, 3, (some .int)),
  (⟨"FewEnds$Chart", "priceBy", "(III)I"⟩, prog_3_method_24_code, 8, (some .int)),
  (⟨"FewEnds", "yarnOf", "(II)I"⟩, prog_1_method_19_code, 3, (some .int)),
  (⟨"FewEnds$Chart", "strandOf", "(II)I"⟩, prog_3_method_26_code, 4, (some .int)),
  (⟨"FewEnds", "link", "(II)Z"⟩, prog_1_method_20_code, 3, (some .boolean)),
  (⟨"FewEnds$Plan", "isOpen", "(II)Z"⟩, prog_10_method_4_code, 3, (some .boolean)),
  (⟨"FewEnds$Plan", "isCouple", "(II)Z"⟩, prog_10_method_7_code, 3, (some .boolean)),
  (⟨"FewEnds$Plan", "join", "(II)V"⟩, prog_10_method_5_code, 3, none),
  (⟨"FewEnds", "unlink", "(I)Z"⟩, prog_1_method_21_code, 2, (some .boolean)),
  (⟨"FewEnds$Plan", "part", "(I)V"⟩, prog_10_method_6_code, 3, none),
  (⟨"FewEnds$Plan", "after", "(I)I"⟩, prog_10_method_8_code, 2, (some .int)),
  (⟨"FewEnds", "clear", "()Z"⟩, prog_1_method_22_code, 1, (some .boolean)),
  (⟨"FewEnds", "plan", "(II)Z"⟩, prog_1_method_23_code, 4, (some .boolean)),
  (⟨"FewEnds", "holdsCouples", "(LFewEnds$Tray;I)Z"⟩, prog_1_method_74_code, 8, (some .boolean)),
  (⟨"FewEnds", "canBeLinked", "(LFewEnds$Tray;I)Z"⟩, prog_1_method_75_code, 6, (some .boolean)),
  (⟨"FewEnds$Plan", "copyFrom", "(LFewEnds$Plan;)V"⟩, prog_10_method_3_code, 2, none),
  (⟨"FewEnds", "goes", "(I)I"⟩, prog_1_method_24_code, 2, (some .int)),
  (⟨"FewEnds", "comes", "(I)I"⟩, prog_1_method_25_code, 2, (some .int)),
  (⟨"FewEnds", "threads", "(I)I"⟩, prog_1_method_26_code, 2, (some .int)),
  (⟨"FewEnds$Plan", "threadsOf", "(LFewEnds$Chart;I)I"⟩, prog_10_method_9_code, 5, (some .int)),
  (⟨"FewEnds", "thread", "(II)I"⟩, prog_1_method_27_code, 4, (some .int)),
  (⟨"FewEnds$Plan", "firstOf", "(LFewEnds$Chart;I)I"⟩, prog_10_method_10_code, 5, (some .int)),
  (⟨"FewEnds$Plan", "lastFrom", "(I)I"⟩, prog_10_method_11_code, 4, (some .int))]
set_option maxRecDepth 100000 in
theorem mtab_4_ok : tables_1_4.filter k2_isCode = mtab_4.map mC := rfl
def mtab_5 : List MT := [(⟨"FewEnds$Plan", "stitchesFrom", "(I)I"⟩, prog_10_method_12_code, 5, (some .int)),
  (⟨"FewEnds$Plan", "yarnFrom", "(LFewEnds$Chart;I)I"⟩, prog_10_method_13_code, 6, (some .int)),
  (⟨"FewEnds$Chart", "yarnAt", "(I)I"⟩, prog_3_method_25_code, 2, (some .int)),
  (⟨"FewEnds", "hangs", "(I)I"⟩, prog_1_method_28_code, 2, (some .int)),
  (⟨"FewEnds$Plan", "hangingIn", "(LFewEnds$Chart;I)I"⟩, prog_10_method_15_code, 5, (some .int)),
  (⟨"FewEnds", "tangle", "(I)I"⟩, prog_1_method_29_code, 2, (some .int)),
  (⟨"FewEnds$Plan", "tangledIn", "(LFewEnds$Chart;I)I"⟩, prog_10_method_16_code, 4, (some .int)),
  (⟨"java/lang/Math", "max", "(II)I"⟩, prog_15_method_65_code, 2, (some .int)),
  (⟨"FewEnds", "planCost", "()I"⟩, prog_1_method_30_code, 1, (some .int)),
  (⟨"FewEnds$Plan", "costOn", "(LFewEnds$Chart;)I"⟩, prog_10_method_17_code, 4, (some .int)),
  (⟨"FewEnds", "longest", "()I"⟩, prog_1_method_31_code, 4, (some .int)),
  (⟨"FewEnds$Chart", "isBehindWork", "(II)Z"⟩, prog_3_method_22_code, 4, (some .boolean)),
  (⟨"FewEnds", "yarn", "(I)I"⟩, prog_1_method_32_code, 2, (some .int)),
  (⟨"FewEnds$Plan", "yarnFor", "(LFewEnds$Chart;I)I"⟩, prog_10_method_14_code, 5, (some .int)),
  (⟨"FewEnds", "least", "(I)I"⟩, prog_1_method_33_code, 2, (some .int)),
  (⟨"FewEnds$Pairing", "leastOfAll", "(LFewEnds$Chart;)I"⟩, prog_9_method_2_code, 4, (some .int)),
  (⟨"FewEnds$Pairing", "gather", "(LFewEnds$Chart;I)V"⟩, prog_9_method_6_code, 4, none),
  (⟨"FewEnds$Pairing", "addSource", "(I)V"⟩, prog_9_method_7_code, 2, none),
  (⟨"FewEnds$Pairing", "addGoal", "(I)V"⟩, prog_9_method_8_code, 2, none),
  (⟨"FewEnds$Pairing", "price", "(LFewEnds$Chart;Z)V"⟩, prog_9_method_9_code, 10, none),
  (⟨"FewEnds$Pairing", "settle", "()I"⟩, prog_9_method_10_code, 4, (some .int)),
  (⟨"FewEnds$Pairing", "bringIn", "(I)V"⟩, prog_9_method_11_code, 5, none),
  (⟨"FewEnds$Pairing", "measureFrom", "(I)V"⟩, prog_9_method_12_code, 5, none),
  (⟨"FewEnds$Pairing", "nearest", "()I"⟩, prog_9_method_13_code, 3, (some .int)),
  (⟨"FewEnds$Pairing", "shift", "(II)V"⟩, prog_9_method_14_code, 6, none),
  (⟨"FewEnds$Pairing", "changeAlong", "(II)V"⟩, prog_9_method_15_code, 6, none),
  (⟨"FewEnds$Pairing", "leastOf", "(LFewEnds$Chart;I)I"⟩, prog_9_method_3_code, 3, (some .int)),
  (⟨"FewEnds", "fewest", "(I)I"⟩, prog_1_method_34_code, 4, (some .int)),
  (⟨"FewEnds$Pairing", "fewestOf", "(LFewEnds$Chart;I)I"⟩, prog_9_method_4_code, 3, (some .int)),
  (⟨"FewEnds", "gap", "()I"⟩, prog_1_method_35_code, 1, (some .int)),
  (⟨"FewEnds", "worth", "()Z"⟩, prog_1_method_36_code, 4, (some .boolean)),
  (⟨"FewEnds", "commonDivisor", "(II)I"⟩, prog_1_method_76_code, 6, (some .int)),
  (⟨"FewEnds", "rowAlone", "(I)I"⟩, prog_1_method_37_code, 2, (some .int)),
  (⟨"FewEnds$Pairing", "leastOfRow", "(LFewEnds$Chart;LFewEnds$Plan;I)I"⟩, prog_9_method_5_code, 6, (some .int)),
  (⟨"FewEnds", "other", "()I"⟩, prog_1_method_38_code, 1, (some .int)),
  (⟨"FewEnds", "saves", "(II)I"⟩, prog_1_method_39_code, 3, (some .int)),
  (⟨"FewEnds$Chart", "recolour", "(II)V"⟩, prog_3_method_13_code, 3, none),
  (⟨"FewEnds", "best", "(I)I"⟩, prog_1_method_40_code, 2, (some .int)),
  (⟨"FewEnds$Chart", "canBeAltered", "()Z"⟩, prog_3_method_8_code, 1, (some .boolean)),
  (⟨"FewEnds$Alterations", "find", "(LFewEnds$Chart;I)V"⟩, prog_2_method_2_code, 4, none),
  (⟨"FewEnds$Alterations", "findOne", "(I)V"⟩, prog_2_method_3_code, 7, none),
  (⟨"FewEnds", "few", "(I)I"⟩, prog_1_method_41_code, 2, (some .int)),
  (⟨"FewEnds$Alterations", "tell", "(I)V"⟩, prog_2_method_4_code, 3, none),
  (⟨"FewEnds", "fewAt", "(II)I"⟩, prog_1_method_42_code, 3, (some .int)),
  (⟨"FewEnds$Alterations", "toldAt", "(II)I"⟩, prog_2_method_5_code, 4, (some .int)),
  (⟨"FewEnds", "sewn", "()I"⟩, prog_1_method_43_code, 1, (some .int)),
  (⟨"FewEnds", "bestSet", "()I"⟩, prog_1_method_78_code, 5, (some .int)),
  (⟨"FewEnds", "costOfSet", "(I)I"⟩, prog_1_method_79_code, 4, (some .int)),
  (⟨"FewEnds", "sewnCost", "()I"⟩, prog_1_method_44_code, 1, (some .int)),
  (⟨"FewEnds", "patches", "(I)I"⟩, prog_1_method_45_code, 4, (some .int)),
  (⟨"FewEnds$Chart", "group", "([I)V"⟩, prog_3_method_17_code, 6, none),
  (⟨"FewEnds$Chart", "stitchAtRightOf", "(I)I"⟩, prog_3_method_18_code, 3, (some .int)),
  (⟨"FewEnds$Chart", "groupWith", "([III)Z"⟩, prog_3_method_20_code, 5, (some .boolean)),
  (⟨"FewEnds$Chart", "stitchBelow", "(I)I"⟩, prog_3_method_19_code, 2, (some .int)),
  (⟨"FewEnds", "patch", "(II)I"⟩, prog_1_method_46_code, 3, (some .int))]
set_option maxRecDepth 100000 in
theorem mtab_5_ok : tables_1_5.filter k2_isCode = mtab_5.map mC := rfl
def mtab_6 : List MT := [(⟨"FewEnds", "stitchesInGroup", "(I)I"⟩, prog_1_method_80_code, 4, (some .int)),
  (⟨"FewEnds", "rowsOfGroup", "(I)I"⟩, prog_1_method_81_code, 5, (some .int)),
  (⟨"FewEnds", "machine", "(I)I"⟩, prog_1_method_47_code, 4, (some .int)),
  (⟨"FewEnds", "stitchesTooMany", "(II)I"⟩, prog_1_method_82_code, 7, (some .int)),
  (⟨"FewEnds", "lessened", "(II)I"⟩, prog_1_method_48_code, 3, (some .int)),
  (⟨"FewEnds", "behind", "(I)I"⟩, prog_1_method_49_code, 2, (some .int)),
  (⟨"FewEnds$Plan", "linksBehind", "(LFewEnds$Chart;I)I"⟩, prog_10_method_18_code, 5, (some .int)),
  (⟨"FewEnds", "thickest", "()I"⟩, prog_1_method_50_code, 3, (some .int)),
  (⟨"FewEnds", "mirrored", "()I"⟩, prog_1_method_51_code, 1, (some .int)),
  (⟨"FewEnds$Chart", "mirror", "()I"⟩, prog_3_method_14_code, 7, (some .int)),
  (⟨"FewEnds", "mirrorLeast", "()I"⟩, prog_1_method_52_code, 1, (some .int)),
  (⟨"FewEnds", "lasts", "(II)I"⟩, prog_1_method_53_code, 5, (some .int)),
  (⟨"FewEnds", "window", "(IIII)I"⟩, prog_1_method_54_code, 5, (some .int)),
  (⟨"FewEnds$Chart", "cutOut", "(IIII)V"⟩, prog_3_method_15_code, 9, none),
  (⟨"FewEnds", "seam", "(I)I"⟩, prog_1_method_55_code, 2, (some .int)),
  (⟨"FewEnds$Chart", "matchesBy", "(I)I"⟩, prog_3_method_16_code, 7, (some .int)),
  (⟨"FewEnds", "matched", "()I"⟩, prog_1_method_56_code, 3, (some .int)),
  (⟨"FewEnds", "buy", "(II)I"⟩, prog_1_method_57_code, 3, (some .int)),
  (⟨"FewEnds", "balls", "(II)I"⟩, prog_1_method_77_code, 2, (some .int)),
  (⟨"FewEnds", "runsOut", "(I)I"⟩, prog_1_method_58_code, 4, (some .int)),
  (⟨"FewEnds", "plain", "()I"⟩, prog_1_method_59_code, 1, (some .int)),
  (⟨"FewEnds$Plan", "makePlain", "(LFewEnds$Chart;)V"⟩, prog_10_method_19_code, 5, none),
  (⟨"FewEnds", "fill", "()I"⟩, prog_1_method_60_code, 1, (some .int)),
  (⟨"FewEnds$Plan", "fillUp", "(LFewEnds$Chart;)I"⟩, prog_10_method_20_code, 5, (some .int)),
  (⟨"FewEnds$Plan", "cheapestTo", "(LFewEnds$Chart;I)I"⟩, prog_10_method_21_code, 6, (some .int)),
  (⟨"FewEnds", "tidy", "()I"⟩, prog_1_method_61_code, 1, (some .int)),
  (⟨"FewEnds$Plan", "tidyUp", "(LFewEnds$Chart;)I"⟩, prog_10_method_22_code, 5, (some .int)),
  (⟨"FewEnds$Plan", "worstLink", "(LFewEnds$Chart;)I"⟩, prog_10_method_23_code, 7, (some .int)),
  (⟨"FewEnds", "follow", "()I"⟩, prog_1_method_62_code, 1, (some .int)),
  (⟨"FewEnds$Follower", "run", "(LFewEnds$Chart;LFewEnds$Directions;)I"⟩, prog_7_method_2_code, 7, (some .int)),
  (⟨"FewEnds$Follower", "begin", "()V"⟩, prog_7_method_3_code, 1, none),
  (⟨"FewEnds$Follower", "behindEnd", "(I)I"⟩, prog_7_method_6_code, 3, (some .int)),
  (⟨"FewEnds$Follower", "doStep", "(LFewEnds$Chart;LFewEnds$Directions;I)I"⟩, prog_7_method_4_code, 5, (some .int)),
  (⟨"FewEnds$Follower", "knitSome", "(LFewEnds$Chart;II)I"⟩, prog_7_method_7_code, 6, (some .int)),
  (⟨"FewEnds$Follower", "knitOne", "(LFewEnds$Chart;I)I"⟩, prog_7_method_8_code, 4, (some .int)),
  (⟨"FewEnds$Follower", "openLoop", "(II)V"⟩, prog_7_method_5_code, 3, none),
  (⟨"FewEnds", "followed", "(I)I"⟩, prog_1_method_63_code, 2, (some .int)),
  (⟨"FewEnds", "take", "()Z"⟩, prog_1_method_64_code, 1, (some .boolean)),
  (⟨"FewEnds", "mark", "()I"⟩, prog_1_method_65_code, 2, (some .int)),
  (⟨"FewEnds", "markAt", "(I)LFewEnds$Mark;"⟩, prog_1_method_72_code, 2, (some (.object "FewEnds$Mark"))),
  (⟨"FewEnds", "back", "()I"⟩, prog_1_method_66_code, 2, (some .int)),
  (⟨"FewEndsModel", "<init>", "()V"⟩, prog_14_method_1_code, 1, none),
  (⟨"FewEndsModel", "asNew", "(I)V"⟩, prog_14_method_2_code, 3, none),
  (⟨"FewEndsModel", "numbers", "()V"⟩, prog_14_method_45_code, 5, none),
  (⟨"FewEndsModel", "many", "()I"⟩, prog_14_method_44_code, 1, (some .int))]
set_option maxRecDepth 100000 in
theorem mtab_6_ok : tables_1_6.filter k2_isCode = mtab_6.map mC := rfl
def mtab_7 : List MT := [(⟨"FewEndsModel", "status", "()I"⟩, prog_14_method_3_code, 1, (some .int)),
  (⟨"FewEndsModel", "top", "()J"⟩, prog_14_method_4_code, 1, (some .long)),
  (⟨"FewEndsModel", "bottom", "()J"⟩, prog_14_method_5_code, 1, (some .long)),
  (⟨"FewEndsModel", "tray", "(III)Z"⟩, prog_14_method_12_code, 5, (some .boolean)),
  (⟨"FewEndsModel", "isTray", "(I)Z"⟩, prog_14_method_10_code, 1, (some .boolean)),
  (⟨"FewEndsModel", "is", "(I)Z"⟩, prog_14_method_6_code, 2, (some .boolean)),
  (⟨"FewEndsModel", "write", "(IIJ)Z"⟩, prog_14_method_14_code, 6, (some .boolean)),
  (⟨"FewEndsModel", "wrongPlace", "(II)I"⟩, prog_14_method_13_code, 3, (some .int)),
  (⟨"FewEndsModel", "cut", "(JI)J"⟩, prog_14_method_11_code, 3, (some .long)),
  (⟨"FewEndsModel", "read", "(II)J"⟩, prog_14_method_15_code, 3, (some .long)),
  (⟨"FewEndsModel", "pour", "(IIIII)Z"⟩, prog_14_method_16_code, 8, (some .boolean)),
  (⟨"FewEndsModel", "feed", "(IIIII)I"⟩, prog_14_method_18_code, 6, (some .int)),
  (⟨"FewEndsModel", "four", "(I)V"⟩, prog_14_method_19_code, 3, none),
  (⟨"FewEndsModel", "fault", "(I)I"⟩, prog_14_method_34_code, 2, (some .int)),
  (⟨"FewEndsModel", "chart", "(I)I"⟩, prog_14_method_41_code, 4, (some .int)),
  (⟨"FewEndsModel", "begins", "(II)Z"⟩, prog_14_method_27_code, 4, (some .boolean)),
  (⟨"FewEndsModel", "ahead", "()V"⟩, prog_14_method_23_code, 2, none),
  (⟨"FewEndsModel", "byteAt", "(I)I"⟩, prog_14_method_20_code, 2, (some .int)),
  (⟨"FewEndsModel", "isSmall", "(I)Z"⟩, prog_14_method_21_code, 1, (some .boolean)),
  (⟨"FewEndsModel", "isDigit", "(I)Z"⟩, prog_14_method_22_code, 1, (some .boolean)),
  (⟨"FewEndsModel", "refuse", "(I)I"⟩, prog_14_method_7_code, 2, (some .int)),
  (⟨"FewEndsModel", "wantWord", "(Ljava/lang/String;I)Z"⟩, prog_14_method_29_code, 3, (some .boolean)),
  (⟨"FewEndsModel", "inWords", "(Ljava/lang/String;)I"⟩, prog_14_method_25_code, 7, (some .int)),
  (⟨"FewEndsModel", "fails", "(I)Z"⟩, prog_14_method_26_code, 2, (some .boolean)),
  (⟨"FewEndsModel", "number", "(III)Z"⟩, prog_14_method_30_code, 4, (some .boolean)),
  (⟨"FewEndsModel", "wantSign", "(I)Z"⟩, prog_14_method_28_code, 2, (some .boolean)),
  (⟨"FewEndsModel", "isSign", "(I)Z"⟩, prog_14_method_24_code, 2, (some .boolean)),
  (⟨"FewEndsModel", "chartPart", "()Z"⟩, prog_14_method_40_code, 3, (some .boolean)),
  (⟨"FewEndsModel", "aColour", "()Z"⟩, prog_14_method_36_code, 3, (some .boolean))]
set_option maxRecDepth 100000 in
theorem mtab_7_ok : tables_1_7.filter k2_isCode = mtab_7.map mC := rfl
def mtab_8 : List MT := [(⟨"FewEndsModel", "isName", "(Ljava/lang/String;)Z"⟩, prog_14_method_31_code, 2, (some .boolean)),
  (⟨"FewEndsModel", "findHere", "(II)I"⟩, prog_14_method_33_code, 4, (some .int)),
  (⟨"FewEndsModel", "nameHere", "()J"⟩, prog_14_method_32_code, 4, (some .long)),
  (⟨"FewEndsModel", "aRow", "()Z"⟩, prog_14_method_37_code, 3, (some .boolean)),
  (⟨"FewEndsModel", "once", "(I)Z"⟩, prog_14_method_39_code, 2, (some .boolean)),
  (⟨"FewEndsModel", "withCost", "(IIII)Z"⟩, prog_14_method_38_code, 5, (some .boolean)),
  (⟨"FewEndsModel", "taken", "(I)I"⟩, prog_14_method_35_code, 2, (some .int)),
  (⟨"FewEndsModel", "gives", "(I)I"⟩, prog_14_method_8_code, 2, (some .int)),
  (⟨"FewEndsModel", "directions", "(I)I"⟩, prog_14_method_43_code, 4, (some .int)),
  (⟨"FewEndsModel", "step", "()Z"⟩, prog_14_method_42_code, 5, (some .boolean)),
  (⟨"FewEndsModel", "told", "(I)I"⟩, prog_14_method_51_code, 2, (some .int)),
  (⟨"FewEndsModel", "colour", "(II)I"⟩, prog_14_method_53_code, 3, (some .int)),
  (⟨"FewEndsModel", "isColour", "(I)Z"⟩, prog_14_method_50_code, 2, (some .boolean)),
  (⟨"FewEndsModel", "stitchesOf", "(I)I"⟩, prog_14_method_52_code, 4, (some .int)),
  (⟨"FewEndsModel", "stitch", "(II)I"⟩, prog_14_method_54_code, 3, (some .int)),
  (⟨"FewEndsModel", "isStitch", "(J)Z"⟩, prog_14_method_48_code, 3, (some .boolean)),
  (⟨"FewEndsModel", "xOf", "(I)I"⟩, prog_14_method_47_code, 2, (some .int)),
  (⟨"FewEndsModel", "rowOf", "(I)I"⟩, prog_14_method_46_code, 2, (some .int)),
  (⟨"FewEndsModel", "at", "(II)I"⟩, prog_14_method_55_code, 4, (some .int)),
  (⟨"FewEndsModel", "isRow", "(I)Z"⟩, prog_14_method_49_code, 2, (some .boolean)),
  (⟨"FewEndsModel", "lawful", "(II)I"⟩, prog_14_method_60_code, 3, (some .int)),
  (⟨"FewEndsModel", "isCouple", "(JJ)Z"⟩, prog_14_method_59_code, 5, (some .boolean)),
  (⟨"FewEndsModel", "wayOf", "(II)I"⟩, prog_14_method_56_code, 4, (some .int)),
  (⟨"FewEndsModel", "cost", "(II)I"⟩, prog_14_method_61_code, 3, (some .int)),
  (⟨"FewEndsModel", "costOf", "(II)I"⟩, prog_14_method_57_code, 7, (some .int)),
  (⟨"FewEndsModel", "yarnOf", "(II)I"⟩, prog_14_method_62_code, 3, (some .int)),
  (⟨"FewEndsModel", "strandOf", "(II)I"⟩, prog_14_method_58_code, 4, (some .int)),
  (⟨"FewEndsModel", "link", "(II)Z"⟩, prog_14_method_65_code, 3, (some .boolean)),
  (⟨"FewEndsModel", "canLink", "(II)Z"⟩, prog_14_method_64_code, 3, (some .boolean)),
  (⟨"FewEndsModel", "from", "(I)I"⟩, prog_14_method_63_code, 3, (some .int)),
  (⟨"FewEndsModel", "unlink", "(I)Z"⟩, prog_14_method_66_code, 2, (some .boolean)),
  (⟨"FewEndsModel", "clear", "()Z"⟩, prog_14_method_68_code, 1, (some .boolean)),
  (⟨"FewEndsModel", "clears", "()V"⟩, prog_14_method_67_code, 2, none),
  (⟨"FewEndsModel", "plan", "(II)Z"⟩, prog_14_method_71_code, 7, (some .boolean)),
  (⟨"FewEndsModel", "keeps", "()V"⟩, prog_14_method_69_code, 2, none),
  (⟨"FewEndsModel", "brings", "()V"⟩, prog_14_method_70_code, 2, none),
  (⟨"FewEndsModel", "goes", "(I)I"⟩, prog_14_method_72_code, 2, (some .int)),
  (⟨"FewEndsModel", "comes", "(I)I"⟩, prog_14_method_73_code, 2, (some .int)),
  (⟨"FewEndsModel", "threads", "(I)I"⟩, prog_14_method_77_code, 2, (some .int)),
  (⟨"FewEndsModel", "threadsOf", "(I)I"⟩, prog_14_method_76_code, 4, (some .int)),
  (⟨"FewEndsModel", "thread", "(II)I"⟩, prog_14_method_79_code, 6, (some .int)),
  (⟨"FewEndsModel", "firstOf", "(I)I"⟩, prog_14_method_74_code, 4, (some .int)),
  (⟨"FewEndsModel", "lastOf", "(I)I"⟩, prog_14_method_75_code, 3, (some .int)),
  (⟨"FewEndsModel", "yarnFrom", "(I)I"⟩, prog_14_method_78_code, 5, (some .int)),
  (⟨"FewEndsModel", "hangs", "(I)I"⟩, prog_14_method_82_code, 2, (some .int)),
  (⟨"FewEndsModel", "hangsIn", "(I)I"⟩, prog_14_method_80_code, 4, (some .int)),
  (⟨"FewEndsModel", "tangle", "(I)I"⟩, prog_14_method_83_code, 2, (some .int)),
  (⟨"FewEndsModel", "tangleOf", "(I)I"⟩, prog_14_method_81_code, 2, (some .int)),
  (⟨"FewEndsModel", "planCost", "()I"⟩, prog_14_method_85_code, 1, (some .int)),
  (⟨"FewEndsModel", "costOfPlan", "()I"⟩, prog_14_method_84_code, 3, (some .int)),
  (⟨"FewEndsModel", "longest", "()I"⟩, prog_14_method_86_code, 5, (some .int)),
  (⟨"FewEndsModel", "yarn", "(I)I"⟩, prog_14_method_88_code, 2, (some .int)),
  (⟨"FewEndsModel", "yarnAll", "(I)I"⟩, prog_14_method_87_code, 4, (some .int)),
  (⟨"FewEndsModel", "least", "(I)I"⟩, prog_14_method_95_code, 2, (some .int)),
  (⟨"FewEndsModel", "leastAll", "()I"⟩, prog_14_method_94_code, 3, (some .int)),
  (⟨"FewEndsModel", "leastOf", "(I)I"⟩, prog_14_method_92_code, 5, (some .int)),
  (⟨"FewEndsModel", "gathers", "(I)V"⟩, prog_14_method_91_code, 3, none),
  (⟨"FewEndsModel", "gives0", "(II)I"⟩, prog_14_method_89_code, 5, (some .int)),
  (⟨"FewEndsModel", "givesOne", "(II)V"⟩, prog_14_method_90_code, 9, none)]
set_option maxRecDepth 100000 in
theorem mtab_8_ok : tables_1_8.filter k2_isCode = mtab_8.map mC := rfl
def mtab_9 : List MT := [(⟨"FewEndsModel", "fewest", "(I)I"⟩, prog_14_method_96_code, 4, (some .int)),
  (⟨"FewEndsModel", "fewestOf", "(I)I"⟩, prog_14_method_93_code, 4, (some .int)),
  (⟨"FewEndsModel", "gap", "()I"⟩, prog_14_method_97_code, 1, (some .int)),
  (⟨"FewEndsModel", "worth", "()Z"⟩, prog_14_method_98_code, 2, (some .boolean)),
  (⟨"FewEndsModel", "tellsBy", "(JJ)Z"⟩, prog_14_method_9_code, 11, (some .boolean)),
  (⟨"FewEndsModel", "rowAlone", "(I)I"⟩, prog_14_method_100_code, 8, (some .int)),
  (⟨"FewEndsModel", "endsAhead", "(II)Z"⟩, prog_14_method_99_code, 3, (some .boolean)),
  (⟨"FewEndsModel", "other", "()I"⟩, prog_14_method_101_code, 2, (some .int)),
  (⟨"FewEndsModel", "saves", "(II)I"⟩, prog_14_method_103_code, 3, (some .int)),
  (⟨"FewEndsModel", "savesBy", "(III)I"⟩, prog_14_method_102_code, 6, (some .int)),
  (⟨"FewEndsModel", "best", "(I)I"⟩, prog_14_method_105_code, 2, (some .int)),
  (⟨"FewEndsModel", "seeksBest", "()Z"⟩, prog_14_method_104_code, 5, (some .boolean)),
  (⟨"FewEndsModel", "few", "(I)I"⟩, prog_14_method_106_code, 2, (some .int)),
  (⟨"FewEndsModel", "isFrom", "(JJJ)Z"⟩, prog_14_method_17_code, 6, (some .boolean)),
  (⟨"FewEndsModel", "fewAt", "(II)I"⟩, prog_14_method_107_code, 3, (some .int)),
  (⟨"FewEndsModel", "sewn", "()I"⟩, prog_14_method_109_code, 1, (some .int)),
  (⟨"FewEndsModel", "sews", "()Z"⟩, prog_14_method_108_code, 4, (some .boolean)),
  (⟨"FewEndsModel", "sewnCost", "()I"⟩, prog_14_method_110_code, 1, (some .int)),
  (⟨"FewEndsModel", "patches", "(I)I"⟩, prog_14_method_113_code, 4, (some .int)),
  (⟨"FewEndsModel", "spreads", "()V"⟩, prog_14_method_112_code, 5, none),
  (⟨"FewEndsModel", "joins", "(II)Z"⟩, prog_14_method_111_code, 5, (some .boolean)),
  (⟨"FewEndsModel", "patch", "(II)I"⟩, prog_14_method_114_code, 9, (some .int)),
  (⟨"FewEndsModel", "machine", "(I)I"⟩, prog_14_method_116_code, 4, (some .int)),
  (⟨"FewEndsModel", "coloursOf", "(I)I"⟩, prog_14_method_115_code, 4, (some .int)),
  (⟨"FewEndsModel", "lessened", "(II)I"⟩, prog_14_method_117_code, 7, (some .int)),
  (⟨"FewEndsModel", "behind", "(I)I"⟩, prog_14_method_119_code, 2, (some .int)),
  (⟨"FewEndsModel", "behindOf", "(I)I"⟩, prog_14_method_118_code, 6, (some .int)),
  (⟨"FewEndsModel", "thickest", "()I"⟩, prog_14_method_120_code, 3, (some .int)),
  (⟨"FewEndsModel", "mirrored", "()I"⟩, prog_14_method_124_code, 2, (some .int)),
  (⟨"FewEndsModel", "keepsPlaces", "()V"⟩, prog_14_method_121_code, 2, none),
  (⟨"FewEndsModel", "mirrors", "()I"⟩, prog_14_method_123_code, 6, (some .int)),
  (⟨"FewEndsModel", "bringsPlaces", "()V"⟩, prog_14_method_122_code, 2, none),
  (⟨"FewEndsModel", "mirrorLeast", "()I"⟩, prog_14_method_125_code, 2, (some .int)),
  (⟨"FewEndsModel", "lasts", "(II)I"⟩, prog_14_method_126_code, 6, (some .int)),
  (⟨"FewEndsModel", "window", "(IIII)I"⟩, prog_14_method_127_code, 10, (some .int)),
  (⟨"FewEndsModel", "seam", "(I)I"⟩, prog_14_method_129_code, 2, (some .int)),
  (⟨"FewEndsModel", "seamOf", "(I)I"⟩, prog_14_method_128_code, 4, (some .int)),
  (⟨"FewEndsModel", "matched", "()I"⟩, prog_14_method_130_code, 3, (some .int)),
  (⟨"FewEndsModel", "buy", "(II)I"⟩, prog_14_method_131_code, 3, (some .int)),
  (⟨"FewEndsModel", "runsOut", "(I)I"⟩, prog_14_method_132_code, 4, (some .int)),
  (⟨"FewEndsModel", "plain", "()I"⟩, prog_14_method_133_code, 4, (some .int)),
  (⟨"FewEndsModel", "fill", "()I"⟩, prog_14_method_134_code, 5, (some .int)),
  (⟨"FewEndsModel", "tidy", "()I"⟩, prog_14_method_135_code, 9, (some .int)),
  (⟨"FewEndsModel", "follow", "()I"⟩, prog_14_method_138_code, 6, (some .int)),
  (⟨"FewEndsModel", "knits", "(I)I"⟩, prog_14_method_136_code, 3, (some .int)),
  (⟨"FewEndsModel", "behindEnds", "(I)I"⟩, prog_14_method_137_code, 5, (some .int)),
  (⟨"FewEndsModel", "followed", "(I)I"⟩, prog_14_method_139_code, 2, (some .int)),
  (⟨"FewEndsModel", "take", "()Z"⟩, prog_14_method_140_code, 2, (some .boolean)),
  (⟨"FewEndsModel", "mark", "()I"⟩, prog_14_method_142_code, 1, (some .int)),
  (⟨"FewEndsModel", "copies", "(II)V"⟩, prog_14_method_141_code, 4, none),
  (⟨"FewEndsModel", "back", "()I"⟩, prog_14_method_143_code, 1, (some .int))]
set_option maxRecDepth 100000 in
theorem mtab_9_ok : tables_1_9.filter k2_isCode = mtab_9.map mC := rfl
def mtabA : List MT := mtab_1 ++ (mtab_2 ++ (mtab_3 ++ (mtab_4 ++ (mtab_5 ++ (mtab_6 ++ (mtab_7 ++ (mtab_8 ++ (mtab_9))))))))
def mlaw : MT := (x, code, maxLocals, ret)
def mtab : List MT := mtabA ++ [mlaw]
def mno : MT := (⟨"", "", ""⟩, ⟨#[]⟩, 0, none)
def mT (y : Nat) : MT := mtab.getD y mno
theorem mtabA_in {q : MT} (h : q ∈ mtabA) : mC q ∈ tables_1 := by
  have key : ∀ {t : List Cond} {l : List MT}, t.filter k2_isCode = l.map mC → q ∈ l → mC q ∈ t := fun {t l} e hq => (List.mem_filter.mp (by rw [e]; exact List.mem_map.mpr ⟨q, hq, rfl⟩)).1
  unfold mtabA at h
  unfold tables_1
  simp only [List.mem_append] at h ⊢
  rcases h with h | h | h | h | h | h | h | h | h
  · exact Or.inl (key mtab_1_ok h)
  · exact Or.inr (Or.inl (key mtab_2_ok h))
  · exact Or.inr (Or.inr (Or.inl (key mtab_3_ok h)))
  · exact Or.inr (Or.inr (Or.inr (Or.inl (key mtab_4_ok h))))
  · exact Or.inr (Or.inr (Or.inr (Or.inr (Or.inl (key mtab_5_ok h)))))
  · exact Or.inr (Or.inr (Or.inr (Or.inr (Or.inr (Or.inl (key mtab_6_ok h))))))
  · exact Or.inr (Or.inr (Or.inr (Or.inr (Or.inr (Or.inr (Or.inl (key mtab_7_ok h)))))))
  · exact Or.inr (Or.inr (Or.inr (Or.inr (Or.inr (Or.inr (Or.inr (Or.inl (key mtab_8_ok h))))))))
  · exact Or.inr (Or.inr (Or.inr (Or.inr (Or.inr (Or.inr (Or.inr (Or.inr (key mtab_9_ok h))))))))
theorem mtabA_len : mtabA.length = 365 := by decide +kernel
theorem mT_in {k : Nat} (h : k < 365) : mC (mT k) ∈ tables_1 := by
  refine mtabA_in ?_
  have h2 : k < mtabA.length := by rw [mtabA_len]; exact h
  unfold mT mtab
  rw [List.getD_eq_getElem?_getD, List.getElem?_append_left h2, List.getElem?_eq_getElem h2]
  exact List.getElem_mem h2
theorem mT_inG {k : Nat} (h : k < 365) : mC (mT k) ∈ lwG := lwG_of (lw_of1 (mT_in h)) rfl
/-- how deep a method calls -/
def mdepl : List Nat := [4, 0, 1, 2, 1, 0, 2, 1, 1, 3, 2, 1, 3, 3, 1, 3, 0, 0, 0, 2, 0, 0, 1, 0, 0, 2, 0, 0, 1, 0, 2, 0, 1, 1, 1, 0, 10, 9, 1, 0, 6, 5, 1, 0, 0, 0, 4, 0, 0, 0, 0, 0, 0, 0, 0, 0, 0, 0, 2, 2, 2, 1, 0, 8, 6, 5, 0, 7, 6, 4, 1, 3, 6, 3, 1, 0, 0, 0, 10, 9, 8, 1, 7, 6, 5, 0, 7, 3, 1, 0, 1, 1, 0, 0, 1, 0, 1, 0, 2, 0, 1, 0, 3, 2, 0, 3, 2, 2, 1, 0, 1, 2, 1, 0, 2, 3, 2, 2, 1, 1, 1, 1, 0, 4, 0, 1, 1, 3, 1, 3, 2, 4, 3, 0, 5, 4, 3, 2, 4, 3, 4, 3, 1, 0, 0, 2, 2, 1, 0, 0, 0, 0, 3, 4, 3, 5, 5, 0, 4, 3, 4, 4, 1, 6, 0, 5, 4, 6, 0, 1, 0, 6, 5, 4, 6, 3, 2, 1, 1, 1, 3, 0, 0, 2, 1, 2, 4, 3, 4, 3, 2, 4, 3, 4, 2, 1, 0, 1, 4, 0, 5, 5, 2, 5, 4, 3, 7, 6, 5, 7, 6, 2, 0, 5, 4, 3, 0, 1, 2, 2, 0, 2, 2, 0, 1, 0, 0, 0, 0, 1, 0, 0, 2, 1, 0, 2, 1, 1, 0, 0, 9, 2, 1, 0, 0, 0, 0, 5, 4, 0, 2, 2, 0, 8, 6, 5, 2, 1, 6, 7, 6, 1, 0, 6, 5, 1, 2, 0, 1, 2, 1, 0, 0, 1, 0, 3, 2, 1, 3, 2, 3, 2, 3, 2, 0, 2, 1, 0, 3, 0, 0, 2, 2, 2, 1, 4, 1, 0, 3, 2, 1, 3, 2, 4, 3, 2, 5, 4, 5, 4, 3, 1, 1, 0, 3, 2, 5, 5, 1, 3, 1, 5, 6, 5, 7, 6, 7, 0, 1, 6, 5, 6, 3, 2, 1, 3, 1, 0, 1, 3, 2, 3, 3, 0, 0, 2, 5, 3, 5, 1, 0, 1, 5, 4, 4, 3, 4, 4, 3, 0, 1, 1, 1, 0, 2, 11]
def mdep (y : Nat) : Nat := mdepl.getD y 0
def mcll : List Nat := [0, 99, 1, 2, 2, 14, 3, 3, 4, 5, 6, 7, 8, 9, 10, 11, 0, 0, 0, 0, 0, 0, 10, 14, 0, 0, 10, 10, 10, 10, 0, 0, 10, 0, 0, 1, 0, 5, 1, 15, 5, 1, 1, 1, 1, 1, 1, 99, 99, 99, 99, 99, 99, 99, 99, 99, 99, 99, 1, 1, 5, 2, 2, 5, 5, 5, 2, 5, 5, 5, 5, 5, 5, 5, 2, 4, 0, 0, 0, 6, 6, 6, 6, 6, 6, 4, 6, 6, 4, 0, 0, 0, 2, 2, 0, 2, 0, 2, 0, 2, 2, 15, 0, 2, 2, 0, 2, 0, 3, 3, 3, 0, 3, 3, 0, 0, 0, 0, 3, 0, 0, 0, 3, 0, 3, 3, 3, 3, 2, 0, 3, 0, 3, 15, 0, 3, 0, 2, 0, 3, 0, 7, 7, 7, 7, 7, 7, 7, 7, 7, 7, 7, 7, 0, 7, 0, 0, 0, 0, 7, 0, 0, 2, 0, 2, 8, 8, 0, 8, 0, 8, 0, 0, 0, 0, 0, 2, 2, 2, 2, 0, 0, 0, 0, 0, 0, 0, 3, 0, 0, 2, 0, 0, 0, 2, 0, 2, 0, 0, 0, 0, 0, 3, 0, 3, 3, 0, 3, 3, 0, 9, 9, 9, 9, 9, 9, 9, 0, 0, 0, 0, 0, 12, 12, 12, 12, 12, 12, 12, 12, 12, 12, 12, 12, 12, 12, 12, 12, 12, 12, 12, 12, 12, 12, 12, 12, 12, 12, 12, 12, 12, 12, 12, 12, 12, 12, 12, 12, 12, 12, 12, 12, 12, 12, 12, 12, 12, 12, 12, 12, 12, 12, 12, 12, 12, 12, 12, 12, 12, 12, 12, 12, 12, 12, 12, 12, 12, 12, 12, 12, 12, 12, 12, 12, 12, 12, 12, 12, 12, 12, 12, 12, 12, 12, 12, 12, 12, 12, 12, 12, 12, 12, 12, 12, 12, 12, 12, 12, 12, 12, 12, 12, 12, 12, 12, 12, 12, 12, 12, 12, 12, 12, 12, 12, 12, 12, 12, 12, 12, 12, 12, 12, 12, 12, 12, 12, 12, 12, 12, 12, 12, 12, 12, 12, 12, 12, 12, 12, 12, 12, 12, 12, 12, 12, 12, 13]
/-- the number of the class that declares a method -/
def mcl (y : Nat) : Nat := mcll.getD y 99
set_option maxRecDepth 100000 in
def ftbl : List (List (Nat × Nat × Nat)) := [[(162, 65, 39), (203, 66, 41), (206, 67, 43), (209, 128, 96), (215, 130, 102), (218, 131, 105), (227, 133, 113), (230, 134, 115), (233, 135, 119), (186, 136, 125), (261, 192, 160), (277, 193, 162), (200, 260, 184), (411, 261, 187), (171, 321, 213), (195, 385, 235), (349, 512, 294), (351, 513, 296), (346, 514, 298), (447, 515, 300), (357, 516, 302), (434, 576, 332), (422, 577, 334), (425, 578, 336), (427, 579, 338), (430, 580, 340), (419, 581, 342), (431, 582, 344), (152, 640, 378), (149, 641, 380), (444, 704, 401), (445, 705, 403), (446, 706, 405), (107, 0, 413), (111, 1, 414), (101, 2, 415), (11, 3, 416), (18, 4, 417), (25, 5, 418), (32, 6, 419), (39, 7, 420), (45, 8, 421), (437, 9, 422), (54, 10, 423), (61, 11, 424), (68, 12, 425), (77, 13, 426), (84, 14, 427), (88, 15, 428), (91, 16, 429), (94, 17, 430), (98, 18, 431)],
  [(9, 64, 37), (22, 65, 38), (15, 66, 40), (19, 67, 42), (40, 68, 46), (61, 69, 49), (77, 70, 52), (31, 71, 53), (37, 72, 54), (34, 73, 55)],
  [(9, 128, 91), (15, 129, 98), (19, 130, 100), (22, 131, 103), (25, 132, 106), (28, 133, 108), (31, 134, 114), (34, 135, 116), (40, 136, 120)],
  [(67, 128, 97), (47, 133, 112), (57, 135, 118), (41, 136, 124), (9, 192, 158), (15, 193, 161)],
  [(11, 256, 174), (15, 257, 176), (18, 258, 178), (21, 259, 180), (25, 260, 182), (28, 261, 185)],
  [(45, 68, 45), (75, 69, 47), (126, 70, 51), (54, 128, 93), (134, 129, 99), (140, 130, 101), (144, 131, 104), (150, 132, 107), (18, 320, 211), (12, 321, 212), (31, 322, 214), (35, 323, 215)],
  [(38, 68, 44), (104, 69, 48), (90, 70, 50), (84, 260, 183), (41, 261, 186), (18, 384, 233), (12, 385, 234), (31, 386, 236)],
  [(40, 128, 92), (86, 133, 110), (67, 135, 117), (64, 136, 123), (77, 192, 159), (11, 448, 250), (15, 449, 251), (57, 450, 252), (61, 451, 253), (18, 452, 254), (21, 453, 255), (24, 454, 256), (27, 455, 257), (30, 456, 258), (33, 457, 259), (36, 458, 260)],
  [(57, 128, 94), (63, 133, 109), (61, 136, 122), (9, 512, 293), (15, 513, 295), (18, 514, 297), (35, 515, 299), (66, 516, 301), (21, 517, 303), (27, 518, 304), (31, 519, 305)],
  [(112, 128, 95), (109, 133, 111), (40, 136, 121), (45, 256, 175), (84, 257, 177), (87, 258, 179), (31, 259, 181), (12, 576, 331), (37, 577, 333), (62, 578, 335), (65, 579, 337), (52, 580, 339), (71, 581, 341), (75, 582, 343), (18, 583, 345), (22, 584, 346), (25, 585, 347), (68, 586, 348)],
  [(9, 640, 377), (25, 641, 379), (15, 642, 381)],
  [(10, 704, 400), (19, 705, 402), (26, 706, 404)],
  [(7, 768, 1393), (13, 769, 1394), (112, 770, 1395), (115, 771, 1396), (17, 772, 1397), (21, 773, 1398), (24, 774, 1399), (27, 775, 1400), (30, 776, 1401), (34, 777, 1402), (135, 778, 1403), (141, 779, 1404), (157, 780, 1405), (151, 781, 1406), (144, 782, 1407), (154, 783, 1408), (37, 784, 1409), (41, 785, 1410), (182, 786, 1411), (185, 787, 1412), (228, 788, 1413), (255, 789, 1414), (44, 790, 1415), (267, 791, 1416), (270, 792, 1417), (47, 793, 1418), (50, 794, 1419), (53, 795, 1420), (56, 796, 1421), (59, 797, 1422), (62, 798, 1423), (65, 799, 1424), (68, 800, 1425), (71, 801, 1426), (74, 802, 1427), (78, 803, 1428), (357, 804, 1429), (385, 805, 1430), (391, 806, 1431), (388, 807, 1432), (81, 808, 1433), (403, 809, 1434), (406, 810, 1435), (409, 811, 1436), (84, 812, 1437), (87, 813, 1438), (90, 814, 1439), (93, 815, 1440), (96, 816, 1441), (99, 817, 1442), (102, 818, 1443), (443, 819, 1444), (449, 820, 1445), (446, 821, 1446), (458, 822, 1447), (461, 823, 1448)],
  [],
  [],
  []]
def ftb (o : Nat) : List (Nat × Nat × Nat) := ftbl.getD o []
set_option maxRecDepth 100000 in
def mtbl : List (List (Nat × Nat × Nat)) := [[(17, 2, 33), (24, 3, 80), (31, 6, 149), (38, 8, 170), (51, 9, 205), (60, 10, 227), (67, 11, 246), (74, 12, 287), (83, 13, 325), (105, 14, 373), (106, 15, 390), (114, 20, 487), (118, 21, 491), (122, 22, 495), (126, 24, 502), (130, 26, 510), (133, 27, 514), (137, 28, 518), (141, 31, 531), (145, 32, 535), (165, 35, 551), (168, 37, 559), (173, 74, 731), (177, 7, 736), (180, 75, 737), (183, 76, 741), (189, 77, 745), (192, 79, 753), (197, 88, 801), (212, 92, 818), (221, 93, 822), (224, 95, 830), (236, 97, 838), (239, 62, 842), (243, 99, 847), (246, 100, 851), (249, 103, 863), (252, 106, 876), (255, 108, 884), (258, 110, 892), (264, 112, 900), (267, 116, 916), (271, 117, 920), (274, 118, 924), (280, 122, 941), (284, 124, 949), (287, 125, 953), (290, 126, 957), (293, 127, 961), (296, 130, 976), (299, 132, 985), (302, 135, 997), (306, 137, 1008), (314, 139, 1017), (317, 141, 1025), (320, 152, 1074), (323, 154, 1082), (326, 157, 1094), (329, 159, 1101), (333, 61, 1110), (336, 162, 1115), (339, 164, 1123), (342, 165, 1127), (354, 168, 1143), (360, 170, 1151), (363, 172, 1159), (367, 173, 1163), (370, 176, 1175), (374, 181, 1197), (377, 182, 1201), (380, 184, 1209), (450, 5, 1213), (383, 187, 1222), (386, 190, 1235), (389, 128, 1248), (392, 194, 1253), (396, 196, 1261), (399, 199, 1273), (402, 202, 1284), (405, 204, 1294), (408, 207, 1306), (415, 210, 1320), (440, 220, 1367)],
  [(53, 42, 580), (43, 43, 584), (46, 44, 590), (49, 45, 594), (57, 46, 598)],
  [(37, 4, 84), (44, 5, 88), (56, 62, 668), (89, 99, 855), (96, 100, 867), (99, 104, 868), (60, 95, 969), (64, 92, 970), (70, 177, 1179), (74, 178, 1183), (78, 179, 1188), (81, 97, 1192), (67, 61, 1239)],
  [(18, 7, 153), (21, 5, 157), (33, 109, 888), (37, 113, 904), (50, 128, 965), (53, 106, 971), (60, 125, 980), (63, 130, 989), (75, 122, 1001), (78, 103, 1002), (81, 132, 1003), (84, 137, 1226), (87, 100, 1288), (90, 110, 1289), (94, 205, 1298), (97, 208, 1310), (105, 135, 1314), (101, 112, 1315)],
  [],
  [(11, 3, 210), (22, 38, 563), (28, 4, 570), (38, 40, 571), (67, 41, 576), (71, 58, 650), (78, 59, 654), (42, 42, 658), (48, 60, 659), (58, 45, 663), (62, 61, 664), (51, 63, 672), (83, 46, 677), (86, 64, 678), (123, 65, 682), (130, 66, 699), (91, 67, 703), (147, 68, 707), (96, 69, 711), (153, 70, 715), (156, 71, 719), (102, 72, 723), (120, 73, 727)],
  [(11, 8, 232), (22, 38, 757), (28, 75, 758), (34, 42, 759), (45, 45, 760), (49, 80, 761), (55, 46, 766), (59, 81, 767), (62, 82, 771), (87, 83, 775), (107, 84, 779), (94, 66, 786), (100, 58, 787), (77, 85, 788), (81, 59, 792), (67, 86, 793), (72, 87, 797)],
  [(45, 142, 1029), (74, 143, 1033), (70, 144, 1037), (49, 145, 1041), (89, 100, 1045), (93, 104, 1046), (53, 146, 1048), (98, 5, 1052), (104, 147, 1053), (108, 148, 1058), (111, 149, 1062), (114, 150, 1066), (118, 151, 1070), (82, 95, 1105)],
  [(26, 3, 292), (39, 74, 1131), (43, 162, 1132), (47, 166, 1133), (51, 141, 1137)],
  [(11, 6, 330), (28, 211, 1324), (59, 7, 1328), (78, 5, 1329), (48, 212, 1330), (55, 213, 1334), (90, 214, 1338), (102, 215, 1342), (106, 95, 1346), (94, 92, 1347), (115, 100, 1348), (119, 110, 1349), (122, 103, 1350), (98, 216, 1351)],
  [(19, 23, 499), (28, 27, 522), (32, 29, 523)],
  [(9, 3, 395), (18, 6, 397), (25, 8, 399)],
  [(105, 223, 1381), (109, 224, 1385), (259, 225, 1389), (122, 230, 1578), (118, 231, 1581), (125, 233, 1589), (129, 234, 1593), (138, 238, 1609), (248, 241, 1621), (188, 242, 1625), (147, 243, 1629), (160, 244, 1633), (163, 245, 1636), (205, 246, 1641), (220, 247, 1646), (197, 248, 1650), (194, 249, 1656), (224, 250, 1660), (245, 251, 1664), (191, 252, 1668), (252, 253, 1672), (235, 254, 1676), (213, 255, 1680), (217, 256, 1684), (201, 257, 1688), (239, 258, 1692), (242, 259, 1696), (231, 260, 1700), (262, 261, 1704), (208, 262, 1708), (273, 264, 1716), (276, 267, 1729), (279, 268, 1733), (282, 270, 1741), (286, 271, 1745), (289, 272, 1749), (292, 274, 1757), (301, 276, 1765), (298, 277, 1769), (305, 279, 1778), (308, 281, 1786), (313, 283, 1794), (311, 284, 1798), (316, 287, 1810), (319, 289, 1818), (322, 290, 1822), (325, 294, 1838), (328, 296, 1846), (331, 297, 1850), (334, 298, 1854), (337, 300, 1862), (343, 302, 1870), (346, 304, 1879), (349, 307, 1891), (369, 309, 1899), (366, 310, 1903), (360, 311, 1907), (363, 312, 1911), (352, 313, 1915), (372, 315, 1924), (375, 318, 1936), (378, 320, 1944), (381, 323, 1956), (394, 325, 1964), (399, 327, 1973), (412, 330, 1984), (418, 333, 1996), (415, 334, 2000), (423, 337, 2013), (426, 340, 2025), (429, 343, 2037), (432, 344, 2041), (435, 345, 2045), (440, 350, 2066), (452, 358, 2098), (455, 359, 2102), (464, 363, 2118)],
  [(9, 0, 23), (13, 16, 471), (18, 17, 475), (23, 18, 479), (27, 19, 483), (34, 25, 506), (39, 30, 527), (44, 33, 540), (49, 34, 547), (54, 36, 555), (59, 78, 749), (63, 89, 806), (67, 90, 810), (71, 91, 814), (76, 94, 826), (80, 96, 834), (84, 98, 843), (88, 102, 859), (92, 105, 872), (96, 107, 880), (101, 111, 896), (106, 114, 908), (111, 115, 912), (115, 119, 929), (119, 120, 933), (123, 121, 937), (127, 123, 945), (131, 129, 972), (135, 131, 981), (139, 134, 993), (143, 136, 1004), (147, 138, 1013), (151, 140, 1021), (155, 153, 1078), (159, 155, 1086), (163, 156, 1090), (167, 158, 1097), (171, 160, 1106), (175, 161, 1111), (179, 163, 1119), (183, 167, 1139), (187, 169, 1147), (191, 171, 1155), (195, 174, 1167), (199, 175, 1171), (203, 180, 1193), (207, 183, 1205), (211, 185, 1214), (215, 186, 1218), (219, 188, 1227), (223, 189, 1231), (227, 191, 1240), (231, 192, 1244), (235, 193, 1249), (240, 195, 1257), (244, 197, 1265), (248, 198, 1269), (252, 200, 1276), (256, 201, 1280), (260, 203, 1290), (264, 206, 1302), (268, 209, 1316), (272, 217, 1355), (276, 218, 1359), (280, 219, 1363), (284, 221, 1371), (12, 222, 1377), (17, 226, 1562), (22, 227, 1566), (26, 228, 1570), (31, 229, 1574), (38, 232, 1585), (43, 235, 1596), (48, 236, 1601), (53, 237, 1605), (66, 239, 1613), (58, 240, 1617), (62, 263, 1712), (70, 265, 1721), (75, 266, 1725), (79, 269, 1737), (83, 273, 1753), (87, 275, 1761), (91, 278, 1774), (95, 280, 1782), (100, 282, 1790), (105, 285, 1802), (110, 286, 1806), (114, 288, 1814), (118, 291, 1826), (122, 292, 1830), (126, 293, 1834), (130, 295, 1842), (134, 299, 1858), (138, 301, 1866), (142, 303, 1875), (146, 305, 1883), (150, 306, 1887), (154, 308, 1895), (158, 314, 1920), (162, 316, 1928), (166, 317, 1932), (170, 319, 1940), (174, 321, 1948), (178, 322, 1952), (182, 324, 1960), (186, 326, 1968), (190, 328, 1976), (194, 329, 1980), (198, 331, 1988), (202, 332, 1992), (206, 335, 2004), (210, 336, 2008), (214, 338, 2017), (218, 339, 2021), (222, 341, 2029), (226, 342, 2033), (230, 346, 2049), (234, 347, 2053), (239, 348, 2058), (243, 349, 2062), (247, 351, 2070), (251, 352, 2074), (255, 353, 2078), (259, 354, 2082), (263, 355, 2086), (267, 356, 2090), (271, 357, 2094), (275, 360, 2106), (279, 361, 2110), (283, 362, 2114), (287, 364, 2122)],
  [],
  []]
def mtb (o : Nat) : List (Nat × Nat × Nat) := mtbl.getD o []
set_option maxRecDepth 100000 in
def ctbl : List (List (Nat × Int × Nat)) := [[],
  [],
  [],
  [],
  [],
  [],
  [],
  [(97, 1000000, 1047), (107, 2000000, 1057)],
  [(60, (-1000000), 1138)],
  [],
  [],
  [],
  [(166, 100000, 1639), (356, 1000000, 1919)],
  [],
  [],
  []]
def ctb (o : Nat) : List (Nat × Int × Nat) := ctbl.getD o []
set_option maxRecDepth 100000 in
def ltbl : List (List (Nat × Int × Nat)) := [[],
  [(69, 32, 588), (75, 97, 589)],
  [],
  [],
  [],
  [],
  [],
  [],
  [],
  [],
  [(36, (-1), 539)],
  [],
  [(133, (-1), 1600), (397, 4, 1972), (421, 5, 2012), (438, 9999, 2057)],
  [(32, 4294967295, 2126)],
  [],
  []]
def ltb (o : Nat) : List (Nat × Int × Nat) := ltbl.getD o []
set_option maxRecDepth 100000 in
def stbl : List (List (Nat × Nat)) := [[],
  [],
  [],
  [],
  [],
  [(65, 0), (81, 1), (138, 2), (142, 3), (89, 4), (94, 5), (100, 6), (159, 7), (106, 8), (108, 9), (110, 10), (112, 11), (114, 12), (116, 13), (118, 14)],
  [(53, 15), (65, 16), (70, 17), (75, 18)],
  [],
  [],
  [],
  [],
  [],
  [(211, 19), (265, 20)],
  [],
  [],
  []]
def stb (o : Nat) : List (Nat × Nat) := stbl.getD o []
set_option maxRecDepth 100000 in
def ktbl : List (List (Nat × Nat × Nat)) := [[(9, 10, 29), (15, 1, 31), (22, 2, 78), (29, 3, 147), (36, 4, 168), (43, 11, 201), (49, 5, 203), (58, 6, 225), (65, 7, 244), (72, 8, 285), (81, 9, 323)],
  [],
  [],
  [],
  [],
  [(9, 2, 209)],
  [(9, 4, 231)],
  [],
  [(24, 2, 291)],
  [(9, 3, 329)],
  [],
  [(7, 2, 394), (16, 3, 396), (23, 4, 398)],
  [],
  [(7, 0, 21), (10, 12, 1375)],
  [],
  []]
def ktb (o : Nat) : List (Nat × Nat × Nat) := ktbl.getD o []
set_option maxRecDepth 100000 in
def itbl : List (List (Nat × Nat × Nat)) := [[(1, 3, 26), (156, 0, 544), (309, 6, 1012)],
  [(3, 3, 36), (25, 4, 567), (64, 1, 602), (71, 2, 612)],
  [(3, 3, 83), (50, 0, 735), (93, 5, 856), (84, 4, 1187)],
  [(3, 3, 152), (27, 0, 928), (70, 6, 990)],
  [(3, 3, 173), (32, 0, 805)],
  [(3, 3, 208)],
  [(3, 3, 230)],
  [(5, 3, 249)],
  [(3, 3, 290)],
  [(3, 3, 328)],
  [(3, 3, 376)],
  [(1, 3, 393)],
  [(1, 3, 1380), (167, 4, 1640), (172, 1, 1654), (178, 2, 1655), (295, 5, 1773), (340, 6, 1874)],
  [],
  [],
  []]
def itb (o : Nat) : List (Nat × Nat × Nat) := itbl.getD o []
def inm (j : Nat) : MethodName := match j with | 0 => ⟨"java/lang/System", "arraycopy", "(Ljava/lang/Object;ILjava/lang/Object;II)V"⟩ | 1 => ⟨"java/lang/String", "length", "()I"⟩ | 2 => ⟨"java/lang/String", "charAt", "(I)C"⟩ | 4 => ⟨"java/lang/Math", "min", "(II)I"⟩ | 5 => ⟨"java/lang/Math", "abs", "(I)I"⟩ | 6 => ⟨"java/lang/Math", "max", "(II)I"⟩ | _ => ⟨"java/lang/Object", "<init>", "()V"⟩
/-- of a method: kind (0 virtual, 1 static, 2 a constructor, 9 not by us), the places of its words -/
def mwdl : List (Nat × Nat × Nat × Nat) := [(2, 24, 0, 1), (9, 0, 0, 0), (2, 34, 0, 2), (2, 81, 0, 3), (0, 85, 217, 3), (1, 89, 0, 4), (2, 150, 0, 5), (0, 154, 286, 5), (2, 171, 0, 6), (2, 206, 0, 7), (2, 228, 0, 8), (2, 247, 0, 9), (2, 288, 0, 10), (2, 326, 0, 11), (2, 374, 0, 12), (2, 391, 0, 13), (0, 472, 604, 1), (0, 476, 608, 1), (0, 480, 612, 1), (0, 484, 616, 1), (0, 489, 0, 1), (0, 493, 1, 1), (0, 496, 628, 12), (1, 500, 0, 4), (0, 504, 2, 1), (0, 507, 639, 1), (0, 511, 643, 12), (0, 515, 647, 12), (0, 519, 651, 12), (0, 525, 3, 12), (0, 528, 660, 1), (0, 533, 4, 1), (0, 536, 668, 12), (0, 541, 673, 1), (0, 548, 680, 1), (0, 552, 684, 2), (0, 556, 688, 1), (0, 560, 692, 7), (0, 564, 696, 2), (9, 0, 0, 0), (0, 573, 5, 7), (0, 577, 709, 2), (0, 581, 713, 2), (0, 586, 6, 2), (0, 592, 7, 2), (0, 595, 727, 2), (0, 599, 731, 2), (9, 0, 0, 0), (9, 0, 0, 0), (9, 0, 0, 0), (9, 0, 0, 0), (9, 0, 0, 0), (9, 0, 0, 0), (9, 0, 0, 0), (9, 0, 0, 0), (9, 0, 0, 0), (9, 0, 0, 0), (9, 0, 0, 0), (0, 651, 783, 2), (0, 655, 787, 2), (0, 661, 8, 7), (0, 665, 797, 3), (0, 669, 801, 3), (0, 674, 9, 7), (0, 680, 10, 7), (0, 684, 11, 7), (0, 700, 832, 3), (0, 705, 12, 7), (0, 709, 13, 7), (0, 713, 14, 7), (0, 717, 15, 7), (0, 721, 16, 7), (0, 725, 17, 7), (0, 729, 18, 7), (0, 732, 864, 3), (0, 738, 870, 6), (0, 743, 19, 1), (0, 747, 20, 1), (0, 750, 882, 1), (0, 754, 886, 8), (0, 763, 21, 8), (0, 769, 22, 8), (0, 773, 23, 8), (0, 777, 24, 8), (0, 781, 25, 8), (0, 789, 921, 6), (0, 795, 26, 8), (0, 799, 27, 8), (0, 802, 934, 6), (0, 807, 939, 1), (0, 811, 943, 1), (0, 815, 947, 1), (0, 819, 951, 3), (0, 823, 955, 3), (0, 827, 959, 1), (0, 831, 963, 3), (0, 835, 967, 1), (0, 839, 971, 3), (0, 844, 976, 1), (0, 848, 980, 3), (0, 852, 984, 3), (9, 0, 0, 0), (0, 860, 992, 1), (0, 864, 996, 3), (0, 869, 1001, 3), (0, 873, 1005, 1), (0, 877, 1009, 3), (0, 881, 1013, 1), (0, 885, 1017, 5), (0, 890, 28, 5), (0, 893, 1025, 5), (0, 897, 1029, 1), (0, 901, 1033, 5), (0, 905, 1037, 5), (0, 909, 1041, 1), (0, 913, 1045, 1), (0, 918, 29, 1), (0, 922, 30, 1), (0, 925, 1057, 5), (0, 930, 1062, 1), (0, 934, 1066, 1), (0, 938, 1070, 1), (0, 942, 1074, 5), (0, 946, 1078, 1), (0, 950, 1082, 5), (0, 954, 1086, 5), (0, 958, 1090, 5), (0, 962, 1094, 5), (0, 966, 1098, 3), (0, 973, 1105, 1), (0, 977, 1109, 5), (0, 982, 1114, 1), (0, 986, 1118, 5), (9, 0, 0, 0), (0, 994, 1126, 1), (0, 998, 1130, 5), (0, 1005, 1137, 1), (0, 1009, 1141, 3), (0, 1014, 1146, 1), (0, 1018, 1150, 5), (0, 1022, 1154, 1), (0, 1026, 1158, 9), (0, 1031, 31, 9), (0, 1035, 32, 9), (0, 1039, 33, 9), (0, 1043, 34, 9), (0, 1050, 35, 9), (0, 1055, 36, 9), (0, 1060, 37, 9), (0, 1064, 38, 9), (0, 1068, 39, 9), (0, 1072, 40, 9), (0, 1075, 1207, 9), (0, 1079, 1211, 1), (0, 1083, 1215, 9), (0, 1087, 1219, 1), (0, 1091, 1223, 1), (1, 1095, 0, 1), (0, 1098, 1230, 1), (0, 1102, 1234, 9), (0, 1107, 1239, 1), (0, 1112, 1244, 1), (0, 1116, 1248, 3), (0, 1120, 1252, 1), (0, 1124, 1256, 3), (0, 1128, 1260, 10), (0, 1135, 41, 10), (0, 1140, 1272, 1), (0, 1144, 1276, 10), (0, 1148, 1280, 1), (0, 1152, 1284, 10), (0, 1156, 1288, 1), (0, 1161, 42, 1), (0, 1165, 43, 1), (0, 1168, 1300, 1), (0, 1172, 1304, 1), (0, 1176, 1308, 3), (0, 1181, 44, 3), (0, 1185, 45, 3), (0, 1190, 46, 3), (0, 1194, 1326, 1), (0, 1199, 47, 1), (0, 1203, 48, 1), (0, 1206, 1338, 1), (0, 1211, 49, 1), (0, 1215, 1347, 1), (0, 1219, 1351, 1), (0, 1223, 1355, 5), (0, 1228, 1360, 1), (0, 1232, 1364, 1), (0, 1236, 1368, 3), (0, 1241, 1373, 1), (0, 1245, 1377, 1), (0, 1250, 1382, 1), (0, 1254, 1386, 3), (0, 1258, 1390, 1), (0, 1262, 1394, 3), (0, 1266, 1398, 1), (0, 1270, 1402, 1), (1, 1274, 0, 1), (0, 1277, 1409, 1), (0, 1281, 1413, 1), (0, 1285, 1417, 5), (0, 1291, 1423, 1), (0, 1295, 1427, 5), (0, 1300, 50, 5), (0, 1303, 1435, 1), (0, 1307, 1439, 5), (0, 1312, 51, 5), (0, 1317, 1449, 1), (0, 1321, 1453, 11), (0, 1326, 52, 11), (0, 1332, 53, 11), (0, 1336, 54, 11), (0, 1340, 55, 11), (0, 1344, 56, 11), (0, 1353, 57, 11), (0, 1356, 1488, 1), (0, 1360, 1492, 1), (0, 1364, 1496, 1), (0, 1369, 58, 1), (0, 1372, 1504, 1), (2, 1378, 0, 14), (0, 1383, 59, 14), (0, 1387, 60, 14), (0, 1391, 61, 14), (0, 1563, 1695, 14), (0, 1567, 1699, 14), (0, 1571, 1703, 14), (0, 1575, 1707, 14), (1, 1579, 0, 14), (0, 1583, 62, 14), (0, 1586, 1718, 14), (0, 1591, 63, 14), (1, 1594, 0, 14), (0, 1597, 1729, 14), (0, 1602, 1734, 14), (0, 1606, 1738, 14), (0, 1611, 64, 14), (0, 1614, 1746, 14), (0, 1618, 1750, 14), (0, 1623, 65, 14), (0, 1627, 66, 14), (0, 1631, 67, 14), (1, 1634, 0, 14), (1, 1637, 0, 14), (0, 1643, 68, 14), (0, 1648, 69, 14), (0, 1652, 70, 14), (0, 1658, 71, 14), (0, 1662, 72, 14), (0, 1666, 73, 14), (0, 1670, 74, 14), (0, 1674, 75, 14), (0, 1678, 76, 14), (0, 1682, 77, 14), (0, 1686, 78, 14), (0, 1690, 79, 14), (0, 1694, 80, 14), (0, 1698, 81, 14), (0, 1702, 82, 14), (0, 1706, 83, 14), (0, 1710, 84, 14), (0, 1713, 1845, 14), (0, 1718, 85, 14), (0, 1722, 1854, 14), (0, 1726, 1858, 14), (0, 1731, 86, 14), (0, 1735, 87, 14), (0, 1738, 1870, 14), (0, 1743, 88, 14), (0, 1747, 89, 14), (0, 1751, 90, 14), (0, 1754, 1886, 14), (0, 1759, 91, 14), (0, 1762, 1894, 14), (0, 1767, 92, 14), (0, 1771, 93, 14), (0, 1775, 1907, 14), (0, 1780, 94, 14), (0, 1783, 1915, 14), (0, 1788, 95, 14), (0, 1791, 1923, 14), (0, 1796, 96, 14), (0, 1800, 97, 14), (0, 1803, 1935, 14), (0, 1807, 1939, 14), (0, 1812, 98, 14), (0, 1815, 1947, 14), (0, 1820, 99, 14), (0, 1824, 100, 14), (0, 1827, 1959, 14), (0, 1831, 1963, 14), (0, 1835, 1967, 14), (0, 1840, 101, 14), (0, 1843, 1975, 14), (0, 1848, 102, 14), (0, 1852, 103, 14), (0, 1856, 104, 14), (0, 1859, 1991, 14), (0, 1864, 105, 14), (0, 1867, 1999, 14), (0, 1872, 106, 14), (0, 1876, 2008, 14), (0, 1881, 107, 14), (0, 1884, 2016, 14), (0, 1888, 2020, 14), (0, 1893, 108, 14), (0, 1896, 2028, 14), (0, 1901, 109, 14), (0, 1905, 110, 14), (0, 1909, 111, 14), (0, 1913, 112, 14), (0, 1917, 113, 14), (0, 1921, 2053, 14), (0, 1926, 114, 14), (0, 1929, 2061, 14), (0, 1933, 2065, 14), (0, 1938, 115, 14), (0, 1941, 2073, 14), (0, 1946, 116, 14), (0, 1949, 2081, 14), (0, 1953, 2085, 14), (0, 1958, 117, 14), (0, 1961, 2093, 14), (0, 1966, 118, 14), (0, 1969, 2101, 14), (1, 1974, 0, 14), (0, 1977, 2109, 14), (0, 1981, 2113, 14), (0, 1986, 119, 14), (0, 1989, 2121, 14), (0, 1993, 2125, 14), (0, 1998, 120, 14), (0, 2002, 121, 14), (0, 2005, 2137, 14), (0, 2009, 2141, 14), (0, 2015, 122, 14), (0, 2018, 2150, 14), (0, 2022, 2154, 14), (0, 2027, 123, 14), (0, 2030, 2162, 14), (0, 2034, 2166, 14), (0, 2039, 124, 14), (0, 2043, 125, 14), (0, 2047, 126, 14), (0, 2050, 2182, 14), (0, 2054, 2186, 14), (0, 2059, 2191, 14), (0, 2063, 2195, 14), (0, 2068, 127, 14), (0, 2071, 2203, 14), (0, 2075, 2207, 14), (0, 2079, 2211, 14), (0, 2083, 2215, 14), (0, 2087, 2219, 14), (0, 2091, 2223, 14), (0, 2095, 2227, 14), (0, 2100, 128, 14), (0, 2104, 129, 14), (0, 2107, 2239, 14), (0, 2111, 2243, 14), (0, 2115, 2247, 14), (0, 2120, 130, 14), (0, 2123, 2255, 14)]
def mwd (k : Nat) : Nat × Nat × Nat × Nat := mwdl.getD k (9, 0, 0, 0)
def strl : List (String × Nat × String) := [("FewEnds$ChartReader", 65, "size"), ("FewEnds$ChartReader", 81, "colour"), ("FewEnds$ChartReader", 138, "shows"), ("FewEnds$ChartReader", 142, "yarn"), ("FewEnds$ChartReader", 89, "row"), ("FewEnds$ChartReader", 94, "end"), ("FewEnds$ChartReader", 100, "carry"), ("FewEnds$ChartReader", 159, "cost"), ("FewEnds$ChartReader", 106, "twist"), ("FewEnds$ChartReader", 108, "wait"), ("FewEnds$ChartReader", 110, "balls"), ("FewEnds$ChartReader", 112, "strand"), ("FewEnds$ChartReader", 114, "sew"), ("FewEnds$ChartReader", 116, "alter"), ("FewEnds$ChartReader", 118, "round"), ("FewEnds$DirectionsReader", 53, "knit"), ("FewEnds$DirectionsReader", 65, "cut"), ("FewEnds$DirectionsReader", 70, "loop"), ("FewEnds$DirectionsReader", 75, "end"), ("FewEndsModel", 211, " size colour row end carry twist wait balls strand sew alter round shows yarn cost "), ("FewEndsModel", 265, " knit cut loop end ")]
def strb : List (List Int) := [[115, 105, 122, 101], [99, 111, 108, 111, 117, 114], [115, 104, 111, 119, 115], [121, 97, 114, 110], [114, 111, 119], [101, 110, 100], [99, 97, 114, 114, 121], [99, 111, 115, 116], [116, 119, 105, 115, 116], [119, 97, 105, 116], [98, 97, 108, 108, 115], [115, 116, 114, 97, 110, 100], [115, 101, 119], [97, 108, 116, 101, 114], [114, 111, 117, 110, 100], [107, 110, 105, 116], [99, 117, 116], [108, 111, 111, 112], [101, 110, 100], [32, 115, 105, 122, 101, 32, 99, 111, 108, 111, 117, 114, 32, 114, 111, 119, 32, 101, 110, 100, 32, 99, 97, 114, 114, 121, 32, 116, 119, 105, 115, 116, 32, 119, 97, 105, 116, 32, 98, 97, 108, 108, 115, 32, 115, 116, 114, 97, 110, 100, 32, 115, 101, 119, 32, 97, 108, 116, 101, 114, 32, 114, 111, 117, 110, 100, 32, 115, 104, 111, 119, 115, 32, 121, 97, 114, 110, 32, 99, 111, 115, 116, 32], [32, 107, 110, 105, 116, 32, 99, 117, 116, 32, 108, 111, 111, 112, 32, 101, 110, 100, 32]]
