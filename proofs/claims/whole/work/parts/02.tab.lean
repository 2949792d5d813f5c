/-! TABLES of the system: its kinds of objects, their fields, its things by number -/
def mmR_0 : String := "PictureFile"
def mmT_0 : u_T := fun k => match k with
  | 0 => ("PictureFile", "tape", "LPictureFile$Tape;", true)
  | 1 => ("PictureFile", "firstFault", "LPictureFile$Fault;", true)
  | 2 => ("PictureFile", "pieces", "LPictureFile$Pieces;", true)
  | 3 => ("PictureFile", "unpacker", "LPictureFile$Unpacker;", true)
  | 4 => ("PictureFile", "rows", "LPictureFile$Rows;", true)
  | 5 => ("PictureFile", "writer", "LPictureFile$Writer;", true)
  | 6 => ("PictureFile", "picture", "LPictureFile$Picture;", false)
  | 7 => ("PictureFile", "spare", "LPictureFile$Picture;", false)
  | _ => ("PictureFile", "there", "Z", false)
def mmR_1 : String := "PictureFile$Tape"
def mmT_1 : u_T := fun k => match k with
  | 0 => ("PictureFile$Tape", "bytes", "[I", true)
  | 1 => ("PictureFile$Tape", "size", "I", false)
  | _ => ("PictureFile$Tape", "turns", "[I", true)
def mmR_2 : String := "PictureFile$Fault"
def mmT_2 : u_T := fun k => match k with
  | 0 => ("PictureFile$Fault", "code", "I", false)
  | _ => ("PictureFile$Fault", "place", "I", false)
def mmR_3 : String := "PictureFile$Rows"
def mmT_3 : u_T := fun k => match k with
  | 0 => ("PictureFile$Rows", "raw", "[I", true)
  | _ => ("PictureFile$Rows", "flat", "[I", true)
def mmR_4 : String := "PictureFile$PackedBits"
def mmT_4 : u_T := fun k => match k with
  | 0 => ("PictureFile$PackedBits", "tape", "LPictureFile$Tape;", true)
  | 1 => ("PictureFile$PackedBits", "fault", "LPictureFile$Fault;", true)
  | 2 => ("PictureFile$PackedBits", "where", "[I", true)
  | 3 => ("PictureFile$PackedBits", "count", "I", false)
  | 4 => ("PictureFile$PackedBits", "check", "I", false)
  | _ => ("PictureFile$PackedBits", "next", "I", false)
def mmR_5 : String := "PictureFile$Pieces"
def mmT_5 : u_T := fun k => match k with
  | 0 => ("PictureFile$Pieces", "tape", "LPictureFile$Tape;", true)
  | 1 => ("PictureFile$Pieces", "fault", "LPictureFile$Fault;", true)
  | 2 => ("PictureFile$Pieces", "packed", "LPictureFile$PackedBits;", true)
  | 3 => ("PictureFile$Pieces", "into", "LPictureFile$Picture;", false)
  | 4 => ("PictureFile$Pieces", "before", "I", false)
  | 5 => ("PictureFile$Pieces", "hadColours", "Z", false)
  | 6 => ("PictureFile$Pieces", "hadThins", "Z", false)
  | _ => ("PictureFile$Pieces", "hadData", "Z", false)
def mmR_6 : String := "PictureFile$Unpacker"
def mmT_6 : u_T := fun k => match k with
  | 0 => ("PictureFile$Unpacker", "packed", "LPictureFile$PackedBits;", true)
  | 1 => ("PictureFile$Unpacker", "fault", "LPictureFile$Fault;", true)
  | 2 => ("PictureFile$Unpacker", "rows", "LPictureFile$Rows;", true)
  | 3 => ("PictureFile$Unpacker", "raw", "[I", true)
  | 4 => ("PictureFile$Unpacker", "fixedSigns", "LPictureFile$Codes;", true)
  | 5 => ("PictureFile$Unpacker", "fixedDistances", "LPictureFile$Codes;", true)
  | 6 => ("PictureFile$Unpacker", "lengthCodes", "LPictureFile$Codes;", true)
  | 7 => ("PictureFile$Unpacker", "signs", "LPictureFile$Codes;", true)
  | 8 => ("PictureFile$Unpacker", "distances", "LPictureFile$Codes;", true)
  | 9 => ("PictureFile$Unpacker", "lengths", "[I", true)
  | 10 => ("PictureFile$Unpacker", "total", "I", false)
  | 11 => ("PictureFile$Unpacker", "done", "I", false)
  | _ => ("PictureFile$Unpacker", "window", "I", false)
def mmR_7 : String := "PictureFile$Codes"
def mmT_7 : u_T := fun k => match k with
  | 0 => ("PictureFile$Codes", "ofLength", "[I", true)
  | 1 => ("PictureFile$Codes", "meanings", "[I", true)
  | 2 => ("PictureFile$Codes", "nextOfLength", "[I", true)
  | 3 => ("PictureFile$Codes", "count", "I", false)
  | _ => ("PictureFile$Codes", "longest", "I", false)
def mmR_8 : String := "PictureFile$Writer"
def mmT_8 : u_T := fun k => match k with
  | 0 => ("PictureFile$Writer", "tape", "LPictureFile$Tape;", true)
  | 1 => ("PictureFile$Writer", "rows", "LPictureFile$Rows;", true)
  | 2 => ("PictureFile$Writer", "packer", "LPictureFile$Packer;", true)
  | _ => ("PictureFile$Writer", "start", "I", false)
def mmR_9 : String := "PictureFile$Packer"
def mmT_9 : u_T := fun k => match k with
  | 0 => ("PictureFile$Packer", "tape", "LPictureFile$Tape;", true)
  | 1 => ("PictureFile$Packer", "raw", "[I", true)
  | 2 => ("PictureFile$Packer", "heads", "[I", true)
  | 3 => ("PictureFile$Packer", "earlier", "[I", true)
  | 4 => ("PictureFile$Packer", "total", "I", false)
  | 5 => ("PictureFile$Packer", "bits", "I", false)
  | 6 => ("PictureFile$Packer", "bitCount", "I", false)
  | 7 => ("PictureFile$Packer", "bestLength", "I", false)
  | _ => ("PictureFile$Packer", "bestDistance", "I", false)
def mmR_10 : String := "PictureFile$Picture"
def mmT_10 : u_T := fun k => match k with
  | 0 => ("PictureFile$Picture", "width", "I", false)
  | 1 => ("PictureFile$Picture", "height", "I", false)
  | 2 => ("PictureFile$Picture", "kind", "I", false)
  | 3 => ("PictureFile$Picture", "depth", "I", false)
  | 4 => ("PictureFile$Picture", "laced", "Z", false)
  | 5 => ("PictureFile$Picture", "channels", "I", false)
  | 6 => ("PictureFile$Picture", "colourCount", "I", false)
  | 7 => ("PictureFile$Picture", "thinCount", "I", false)
  | 8 => ("PictureFile$Picture", "samples", "[I", true)
  | 9 => ("PictureFile$Picture", "colours", "[I", true)
  | 10 => ("PictureFile$Picture", "thins", "[I", true)
  | _ => ("PictureFile$Picture", "layout", "LPictureFile$Layout;", true)
def mmR_11 : String := "PictureFile$Layout"
def mmT_11 : u_T := fun k => match k with
  | 0 => ("PictureFile$Layout", "count", "I", false)
  | 1 => ("PictureFile$Layout", "total", "I", false)
  | 2 => ("PictureFile$Layout", "pointBytes", "I", false)
  | 3 => ("PictureFile$Layout", "x", "[I", true)
  | 4 => ("PictureFile$Layout", "y", "[I", true)
  | 5 => ("PictureFile$Layout", "step", "[I", true)
  | 6 => ("PictureFile$Layout", "points", "[I", true)
  | 7 => ("PictureFile$Layout", "at", "[I", true)
  | 8 => ("PictureFile$Layout", "length", "[I", true)
  | _ => ("PictureFile$Layout", "up", "[I", true)
def mmR_12 : String := "PictureFileModel"
def mmT_12 : u_T := fun k => match k with
  | 0 => ("PictureFileModel", "code", "I", false)
  | 1 => ("PictureFileModel", "tape", "[B", true)
  | 2 => ("PictureFileModel", "length", "I", false)
  | 3 => ("PictureFileModel", "faultCode", "I", false)
  | 4 => ("PictureFileModel", "faultPlace", "I", false)
  | 5 => ("PictureFileModel", "is", "Z", false)
  | 6 => ("PictureFileModel", "width", "I", false)
  | 7 => ("PictureFileModel", "height", "I", false)
  | 8 => ("PictureFileModel", "kind", "I", false)
  | 9 => ("PictureFileModel", "depth", "I", false)
  | 10 => ("PictureFileModel", "laced", "Z", false)
  | 11 => ("PictureFileModel", "samples", "[I", true)
  | 12 => ("PictureFileModel", "colours", "[I", true)
  | 13 => ("PictureFileModel", "colourCount", "I", false)
  | 14 => ("PictureFileModel", "thins", "[I", true)
  | 15 => ("PictureFileModel", "thinCount", "I", false)
  | 16 => ("PictureFileModel", "newWidth", "I", false)
  | 17 => ("PictureFileModel", "newHeight", "I", false)
  | 18 => ("PictureFileModel", "newKind", "I", false)
  | 19 => ("PictureFileModel", "newDepth", "I", false)
  | 20 => ("PictureFileModel", "newLaced", "Z", false)
  | 21 => ("PictureFileModel", "newSamples", "[I", true)
  | 22 => ("PictureFileModel", "newColours", "[I", true)
  | 23 => ("PictureFileModel", "newColourCount", "I", false)
  | 24 => ("PictureFileModel", "newThins", "[I", true)
  | 25 => ("PictureFileModel", "newThinCount", "I", false)
  | 26 => ("PictureFileModel", "packed", "[B", true)
  | 27 => ("PictureFileModel", "placesOf", "[I", true)
  | 28 => ("PictureFileModel", "packedSize", "I", false)
  | 29 => ("PictureFileModel", "lastCheck", "I", false)
  | 30 => ("PictureFileModel", "raw", "[B", true)
  | 31 => ("PictureFileModel", "rawSize", "I", false)
  | 32 => ("PictureFileModel", "rawAll", "I", false)
  | 33 => ("PictureFileModel", "rowPasses", "[I", true)
  | 34 => ("PictureFileModel", "rowLines", "[I", true)
  | 35 => ("PictureFileModel", "rowStarts", "[I", true)
  | 36 => ("PictureFileModel", "rowBytes", "[I", true)
  | 37 => ("PictureFileModel", "rowPoints", "[I", true)
  | 38 => ("PictureFileModel", "rowCount", "I", false)
  | 39 => ("PictureFileModel", "rowsAll", "I", false)
  | 40 => ("PictureFileModel", "hasColours", "Z", false)
  | 41 => ("PictureFileModel", "hasThins", "Z", false)
  | 42 => ("PictureFileModel", "pieces", "I", false)
  | 43 => ("PictureFileModel", "bit", "J", false)
  | 44 => ("PictureFileModel", "window", "I", false)
  | 45 => ("PictureFileModel", "lengths", "[I", true)
  | 46 => ("PictureFileModel", "steps", "[I", true)
  | 47 => ("PictureFileModel", "signCount", "I", false)
  | 48 => ("PictureFileModel", "distanceCount", "I", false)
  | 49 => ("PictureFileModel", "found", "I", false)
  | 50 => ("PictureFileModel", "counts", "[I", true)
  | 51 => ("PictureFileModel", "longest", "I", false)
  | 52 => ("PictureFileModel", "rowKind", "I", false)
  | 53 => ("PictureFileModel", "rowDepth", "I", false)
  | 54 => ("PictureFileModel", "pieceAt", "I", false)
  | 55 => ("PictureFileModel", "bitsLeft", "I", false)
  | _ => ("PictureFileModel", "bitCount", "I", false)
abbrev mm_cl : List vw_C := [(mmR_0, mmT_0, 9), (mmR_1, mmT_1, 3), (mmR_2, mmT_2, 2), (mmR_3, mmT_3, 2), (mmR_4, mmT_4, 6), (mmR_5, mmT_5, 8), (mmR_6, mmT_6, 13), (mmR_7, mmT_7, 5), (mmR_8, mmT_8, 4), (mmR_9, mmT_9, 9), (mmR_10, mmT_10, 12), (mmR_11, mmT_11, 10), (mmR_12, mmT_12, 57)]
def mm_nfL : List Nat := [9, 3, 2, 2, 6, 8, 13, 5, 4, 9, 12, 10, 57]
def mm_nf (ci : Nat) : Nat := mm_nfL.getD ci 0
def mm_ftyL : List (List FieldType) := [[.object "PictureFile$Tape", .object "PictureFile$Fault", .object "PictureFile$Pieces", .object "PictureFile$Unpacker", .object "PictureFile$Rows", .object "PictureFile$Writer", .object "PictureFile$Picture", .object "PictureFile$Picture", .boolean],
  [.array .int, .int, .array .int],
  [.int, .int],
  [.array .int, .array .int],
  [.object "PictureFile$Tape", .object "PictureFile$Fault", .array .int, .int, .int, .int],
  [.object "PictureFile$Tape", .object "PictureFile$Fault", .object "PictureFile$PackedBits", .object "PictureFile$Picture", .int, .boolean, .boolean, .boolean],
  [.object "PictureFile$PackedBits", .object "PictureFile$Fault", .object "PictureFile$Rows", .array .int, .object "PictureFile$Codes", .object "PictureFile$Codes", .object "PictureFile$Codes", .object "PictureFile$Codes", .object "PictureFile$Codes", .array .int, .int, .int, .int],
  [.array .int, .array .int, .array .int, .int, .int],
  [.object "PictureFile$Tape", .object "PictureFile$Rows", .object "PictureFile$Packer", .int],
  [.object "PictureFile$Tape", .array .int, .array .int, .array .int, .int, .int, .int, .int, .int],
  [.int, .int, .int, .int, .boolean, .int, .int, .int, .array .int, .array .int, .array .int, .object "PictureFile$Layout"],
  [.int, .int, .int, .array .int, .array .int, .array .int, .array .int, .array .int, .array .int, .array .int],
  [.int, .array .byte, .int, .int, .int, .boolean, .int, .int, .int, .int, .boolean, .array .int, .array .int, .int, .array .int, .int, .int, .int, .int, .int, .boolean, .array .int, .array .int, .int, .array .int, .int, .array .byte, .array .int, .int, .int, .array .byte, .int, .int, .array .int, .array .int, .array .int, .array .int, .array .int, .int, .int, .boolean, .boolean, .int, .long, .int, .array .int, .array .int, .int, .int, .int, .array .int, .int, .int, .int, .int, .int, .int]]
def mm_fty (ci j : Nat) : FieldType := (mm_ftyL.getD ci []).getD j .int
def mm_frtL : List (List (Nat × Nat)) := [[(1, 1), (1, 2), (1, 5), (1, 6), (1, 3), (1, 8), (1, 10), (1, 10), (0, 0)],
  [(2, 0), (0, 0), (2, 0)],
  [(0, 0), (0, 0)],
  [(2, 0), (2, 0)],
  [(1, 1), (1, 2), (2, 0), (0, 0), (0, 0), (0, 0)],
  [(1, 1), (1, 2), (1, 4), (1, 10), (0, 0), (0, 0), (0, 0), (0, 0)],
  [(1, 4), (1, 2), (1, 3), (2, 0), (1, 7), (1, 7), (1, 7), (1, 7), (1, 7), (2, 0), (0, 0), (0, 0), (0, 0)],
  [(2, 0), (2, 0), (2, 0), (0, 0), (0, 0)],
  [(1, 1), (1, 3), (1, 9), (0, 0)],
  [(1, 1), (2, 0), (2, 0), (2, 0), (0, 0), (0, 0), (0, 0), (0, 0), (0, 0)],
  [(0, 0), (0, 0), (0, 0), (0, 0), (0, 0), (0, 0), (0, 0), (0, 0), (2, 0), (2, 0), (2, 0), (1, 11)],
  [(0, 0), (0, 0), (0, 0), (2, 0), (2, 0), (2, 0), (2, 0), (2, 0), (2, 0), (2, 0)],
  [(0, 0), (3, 0), (0, 0), (0, 0), (0, 0), (0, 0), (0, 0), (0, 0), (0, 0), (0, 0), (0, 0), (2, 0), (2, 0), (0, 0), (2, 0), (0, 0), (0, 0), (0, 0), (0, 0), (0, 0), (0, 0), (2, 0), (2, 0), (0, 0), (2, 0), (0, 0), (3, 0), (2, 0), (0, 0), (0, 0), (3, 0), (0, 0), (0, 0), (2, 0), (2, 0), (2, 0), (2, 0), (2, 0), (0, 0), (0, 0), (0, 0), (0, 0), (0, 0), (0, 0), (0, 0), (2, 0), (2, 0), (0, 0), (0, 0), (0, 0), (2, 0), (0, 0), (0, 0), (0, 0), (0, 0), (0, 0), (0, 0)]]
def mm_frt (ci j : Nat) : Nat × Nat := (mm_frtL.getD ci []).getD j (0, 0)
def mm_kdL : List (Nat × Nat × Nat) := [(0, 0, 0), (1, 0, 0), (1, 1, 0), (2, 0, 65536), (2, 0, 256), (1, 2, 0), (1, 3, 0), (2, 0, 32888), (2, 0, 32888), (1, 4, 0), (2, 0, 65536), (1, 5, 0), (1, 6, 0), (1, 7, 0), (2, 0, 16), (2, 0, 288), (2, 0, 16), (1, 7, 0), (2, 0, 16), (2, 0, 288), (2, 0, 16), (1, 7, 0), (2, 0, 16), (2, 0, 288), (2, 0, 16), (1, 7, 0), (2, 0, 16), (2, 0, 288), (2, 0, 16), (1, 7, 0), (2, 0, 16), (2, 0, 288), (2, 0, 16), (2, 0, 320), (1, 8, 0), (1, 9, 0), (2, 0, 4096), (2, 0, 32888), (1, 10, 0), (2, 0, 16384), (2, 0, 768), (2, 0, 256), (1, 11, 0), (2, 0, 120), (2, 0, 120), (2, 0, 120), (2, 0, 120), (2, 0, 120), (2, 0, 120), (2, 0, 120), (1, 10, 0), (2, 0, 16384), (2, 0, 768), (2, 0, 256), (1, 11, 0), (2, 0, 120), (2, 0, 120), (2, 0, 120), (2, 0, 120), (2, 0, 120), (2, 0, 120), (2, 0, 120), (4, 0, 1), (1, 12, 0), (3, 0, 65536), (2, 0, 16384), (2, 0, 768), (2, 0, 256), (2, 0, 16384), (2, 0, 768), (2, 0, 256), (3, 0, 65536), (2, 0, 65536), (3, 0, 40000), (2, 0, 256), (2, 0, 256), (2, 0, 256), (2, 0, 256), (2, 0, 256), (2, 0, 320), (2, 0, 320), (2, 0, 16), (0, 0, 0), (0, 0, 0), (0, 0, 0), (0, 0, 0), (0, 0, 0), (0, 0, 0), (0, 0, 0), (0, 0, 0), (0, 0, 0), (0, 0, 0), (0, 0, 0), (0, 0, 0), (0, 0, 0), (0, 0, 0), (0, 0, 0), (0, 0, 0), (0, 0, 0), (0, 0, 0), (5, 0, 8), (5, 0, 8), (5, 0, 8), (5, 0, 8), (5, 0, 8), (5, 0, 29), (5, 0, 29), (5, 0, 30), (5, 0, 30), (5, 0, 19)]
def mm_kd (o : Nat) : Nat × Nat × Nat := mm_kdL.getD o (0, 0, 0)
def mm_stat : List (String × String × String × Nat) := [("PictureFile$Tape", "MARK", "[I", 100), ("PictureFile$Layout", "PASS_X", "[I", 101), ("PictureFile$Layout", "PASS_RIGHT", "[I", 102), ("PictureFile$Layout", "PASS_Y", "[I", 103), ("PictureFile$Layout", "PASS_DOWN", "[I", 104), ("PictureFile$Codes", "COPY_LENGTH", "[I", 105), ("PictureFile$Codes", "COPY_LENGTH_BITS", "[I", 106), ("PictureFile$Codes", "DISTANCE", "[I", 107), ("PictureFile$Codes", "DISTANCE_BITS", "[I", 108), ("PictureFile$Unpacker", "ORDER", "[I", 109)]
def mm_scL : List (List Int32) := [[137, 80, 78, 71, 13, 10, 26, 10],
  [0, 4, 0, 2, 0, 1, 0, 0],
  [8, 8, 4, 4, 2, 2, 1, 1],
  [0, 0, 4, 0, 2, 0, 1, 0],
  [8, 8, 8, 4, 4, 2, 2, 1],
  [3, 4, 5, 6, 7, 8, 9, 10, 11, 13, 15, 17, 19, 23, 27, 31, 35, 43, 51, 59, 67, 83, 99, 115, 131, 163, 195, 227, 258],
  [0, 0, 0, 0, 0, 0, 0, 0, 1, 1, 1, 1, 2, 2, 2, 2, 3, 3, 3, 3, 4, 4, 4, 4, 5, 5, 5, 5, 0],
  [1, 2, 3, 4, 5, 7, 9, 13, 17, 25, 33, 49, 65, 97, 129, 193, 257, 385, 513, 769, 1025, 1537, 2049, 3073, 4097, 6145, 8193, 12289, 16385, 24577],
  [0, 0, 0, 0, 1, 1, 2, 2, 3, 3, 4, 4, 5, 5, 6, 6, 7, 7, 8, 8, 9, 9, 10, 10, 11, 11, 12, 12, 13, 13],
  [16, 17, 18, 0, 8, 7, 9, 6, 10, 5, 11, 4, 12, 3, 13, 2, 14, 1, 15]]
def mm_sc (o j : Nat) : Int32 := (mm_scL.getD (o - 100) []).getD j 0
def mm_nest : List Cond := [.methodLinkNest "PictureFile" 18 ⟨"PictureFile$Fault", "<init>", "()V"⟩ "PictureFile", .methodLinkNest "PictureFile" 25 ⟨"PictureFile$Rows", "<init>", "()V"⟩ "PictureFile", .methodLinkNest "PictureFile$Unpacker" 13 ⟨"PictureFile$Codes", "<init>", "()V"⟩ "PictureFile", .methodLinkNest "PictureFile" 64 ⟨"PictureFile$Picture", "<init>", "()V"⟩ "PictureFile", .methodLinkNest "PictureFile$Picture" 21 ⟨"PictureFile$Layout", "<init>", "()V"⟩ "PictureFile"]
theorem mm_nf_le (ci : Nat) : mm_nf ci ≤ 64 := by
  unfold mm_nf
  rw [List.getD_eq_getElem?_getD]
  cases h : mm_nfL[ci]? with
  | none => exact Nat.zero_le _
  | some x => exact (by decide : ∀ x ∈ mm_nfL, x ≤ 64) x (List.mem_of_getElem? h)
/-- the good words of the tables -/
def kw_Ts : List Cond := lw_tbl.filter goodWord
theorem kw_m1 {w : Cond} {i : Nat} (h : tables_1_1[i]? = some w) (g : goodWord w = true) : w ∈ kw_Ts := List.mem_filter.mpr ⟨List.mem_append_right _ (List.mem_append_left _ (List.mem_of_getElem? h)), g⟩
theorem kw_m2 {w : Cond} {i : Nat} (h : tables_1_2[i]? = some w) (g : goodWord w = true) : w ∈ kw_Ts := List.mem_filter.mpr ⟨List.mem_append_right _ (List.mem_append_right _ (List.mem_append_left _ (List.mem_of_getElem? h))), g⟩
theorem kw_m3 {w : Cond} {i : Nat} (h : tables_1_3[i]? = some w) (g : goodWord w = true) : w ∈ kw_Ts := List.mem_filter.mpr ⟨List.mem_append_right _ (List.mem_append_right _ (List.mem_append_right _ (List.mem_append_left _ (List.mem_of_getElem? h)))), g⟩
theorem kw_m4 {w : Cond} {i : Nat} (h : tables_1_4[i]? = some w) (g : goodWord w = true) : w ∈ kw_Ts := List.mem_filter.mpr ⟨List.mem_append_right _ (List.mem_append_right _ (List.mem_append_right _ (List.mem_append_right _ (List.mem_append_left _ (List.mem_of_getElem? h))))), g⟩
theorem kw_m5 {w : Cond} {i : Nat} (h : tables_1_5[i]? = some w) (g : goodWord w = true) : w ∈ kw_Ts := List.mem_filter.mpr ⟨List.mem_append_right _ (List.mem_append_right _ (List.mem_append_right _ (List.mem_append_right _ (List.mem_append_right _ (List.mem_append_left _ (List.mem_of_getElem? h)))))), g⟩
theorem kw_m6 {w : Cond} {i : Nat} (h : tables_1_6[i]? = some w) (g : goodWord w = true) : w ∈ kw_Ts := List.mem_filter.mpr ⟨List.mem_append_right _ (List.mem_append_right _ (List.mem_append_right _ (List.mem_append_right _ (List.mem_append_right _ (List.mem_append_right _ (List.mem_append_left _ (List.mem_of_getElem? h))))))), g⟩
theorem kw_m7 {w : Cond} {i : Nat} (h : tables_1_7[i]? = some w) (g : goodWord w = true) : w ∈ kw_Ts := List.mem_filter.mpr ⟨List.mem_append_right _ (List.mem_append_right _ (List.mem_append_right _ (List.mem_append_right _ (List.mem_append_right _ (List.mem_append_right _ (List.mem_append_right _ (List.mem_of_getElem? h))))))), g⟩
theorem mmI_0 : ∀ w ∈ u_ws mmR_0 mmT_0 9, w ∈ kw_Ts := by
  intro w hw
  obtain ⟨j, hj, e⟩ := List.mem_map.mp hw
  have hj := List.mem_range.mp hj
  subst e
  match j, hj with
  | 0, _ => exact (kw_m2 (i := 179) (by decide +kernel) (by decide +kernel))
  | 1, _ => exact (kw_m2 (i := 181) (by decide +kernel) (by decide +kernel))
  | 2, _ => exact (kw_m2 (i := 183) (by decide +kernel) (by decide +kernel))
  | 3, _ => exact (kw_m2 (i := 185) (by decide +kernel) (by decide +kernel))
  | 4, _ => exact (kw_m2 (i := 187) (by decide +kernel) (by decide +kernel))
  | 5, _ => exact (kw_m2 (i := 189) (by decide +kernel) (by decide +kernel))
  | 6, _ => exact (kw_m2 (i := 191) (by decide +kernel) (by decide +kernel))
  | 7, _ => exact (kw_m2 (i := 193) (by decide +kernel) (by decide +kernel))
  | 8, _ => exact (kw_m2 (i := 195) (by decide +kernel) (by decide +kernel))
  | j + 9, h => omega
theorem mmN_0 : ∀ a, a < 9 → ∀ b, b < 9 → a ≠ b → (mmT_0 a).2.1 ≠ (mmT_0 b).2.1 := by decide +kernel
theorem mmY_0 : ∀ j, j < 9 → parseFieldDescriptor (mmT_0 j).2.2.1 = some (mm_fty 0 j) := by decide +kernel
theorem mmI_1 : ∀ w ∈ u_ws mmR_1 mmT_1 3, w ∈ kw_Ts := by
  intro w hw
  obtain ⟨j, hj, e⟩ := List.mem_map.mp hw
  have hj := List.mem_range.mp hj
  subst e
  match j, hj with
  | 0, _ => exact (kw_m1 (i := 51) (by decide +kernel) (by decide +kernel))
  | 1, _ => exact (kw_m1 (i := 53) (by decide +kernel) (by decide +kernel))
  | 2, _ => exact (kw_m1 (i := 55) (by decide +kernel) (by decide +kernel))
  | j + 3, h => omega
theorem mmN_1 : ∀ a, a < 3 → ∀ b, b < 3 → a ≠ b → (mmT_1 a).2.1 ≠ (mmT_1 b).2.1 := by decide +kernel
theorem mmY_1 : ∀ j, j < 3 → parseFieldDescriptor (mmT_1 j).2.2.1 = some (mm_fty 1 j) := by decide +kernel
theorem mmI_2 : ∀ w ∈ u_ws mmR_2 mmT_2 2, w ∈ kw_Ts := by
  intro w hw
  obtain ⟨j, hj, e⟩ := List.mem_map.mp hw
  have hj := List.mem_range.mp hj
  subst e
  match j, hj with
  | 0, _ => exact (kw_m1 (i := 71) (by decide +kernel) (by decide +kernel))
  | 1, _ => exact (kw_m1 (i := 73) (by decide +kernel) (by decide +kernel))
  | j + 2, h => omega
theorem mmN_2 : ∀ a, a < 2 → ∀ b, b < 2 → a ≠ b → (mmT_2 a).2.1 ≠ (mmT_2 b).2.1 := by decide +kernel
theorem mmY_2 : ∀ j, j < 2 → parseFieldDescriptor (mmT_2 j).2.2.1 = some (mm_fty 2 j) := by decide +kernel
theorem mmI_3 : ∀ w ∈ u_ws mmR_3 mmT_3 2, w ∈ kw_Ts := by
  intro w hw
  obtain ⟨j, hj, e⟩ := List.mem_map.mp hw
  have hj := List.mem_range.mp hj
  subst e
  match j, hj with
  | 0, _ => exact (kw_m1 (i := 87) (by decide +kernel) (by decide +kernel))
  | 1, _ => exact (kw_m1 (i := 89) (by decide +kernel) (by decide +kernel))
  | j + 2, h => omega
theorem mmN_3 : ∀ a, a < 2 → ∀ b, b < 2 → a ≠ b → (mmT_3 a).2.1 ≠ (mmT_3 b).2.1 := by decide +kernel
theorem mmY_3 : ∀ j, j < 2 → parseFieldDescriptor (mmT_3 j).2.2.1 = some (mm_fty 3 j) := by decide +kernel
theorem mmI_4 : ∀ w ∈ u_ws mmR_4 mmT_4 6, w ∈ kw_Ts := by
  intro w hw
  obtain ⟨j, hj, e⟩ := List.mem_map.mp hw
  have hj := List.mem_range.mp hj
  subst e
  match j, hj with
  | 0, _ => exact (kw_m1 (i := 106) (by decide +kernel) (by decide +kernel))
  | 1, _ => exact (kw_m1 (i := 108) (by decide +kernel) (by decide +kernel))
  | 2, _ => exact (kw_m1 (i := 110) (by decide +kernel) (by decide +kernel))
  | 3, _ => exact (kw_m1 (i := 112) (by decide +kernel) (by decide +kernel))
  | 4, _ => exact (kw_m1 (i := 114) (by decide +kernel) (by decide +kernel))
  | 5, _ => exact (kw_m1 (i := 116) (by decide +kernel) (by decide +kernel))
  | j + 6, h => omega
theorem mmN_4 : ∀ a, a < 6 → ∀ b, b < 6 → a ≠ b → (mmT_4 a).2.1 ≠ (mmT_4 b).2.1 := by decide +kernel
theorem mmY_4 : ∀ j, j < 6 → parseFieldDescriptor (mmT_4 j).2.2.1 = some (mm_fty 4 j) := by decide +kernel
theorem mmI_5 : ∀ w ∈ u_ws mmR_5 mmT_5 8, w ∈ kw_Ts := by
  intro w hw
  obtain ⟨j, hj, e⟩ := List.mem_map.mp hw
  have hj := List.mem_range.mp hj
  subst e
  match j, hj with
  | 0, _ => exact (kw_m1 (i := 133) (by decide +kernel) (by decide +kernel))
  | 1, _ => exact (kw_m1 (i := 135) (by decide +kernel) (by decide +kernel))
  | 2, _ => exact (kw_m1 (i := 137) (by decide +kernel) (by decide +kernel))
  | 3, _ => exact (kw_m1 (i := 139) (by decide +kernel) (by decide +kernel))
  | 4, _ => exact (kw_m1 (i := 141) (by decide +kernel) (by decide +kernel))
  | 5, _ => exact (kw_m1 (i := 143) (by decide +kernel) (by decide +kernel))
  | 6, _ => exact (kw_m1 (i := 145) (by decide +kernel) (by decide +kernel))
  | 7, _ => exact (kw_m1 (i := 147) (by decide +kernel) (by decide +kernel))
  | j + 8, h => omega
theorem mmN_5 : ∀ a, a < 8 → ∀ b, b < 8 → a ≠ b → (mmT_5 a).2.1 ≠ (mmT_5 b).2.1 := by decide +kernel
theorem mmY_5 : ∀ j, j < 8 → parseFieldDescriptor (mmT_5 j).2.2.1 = some (mm_fty 5 j) := by decide +kernel
theorem mmI_6 : ∀ w ∈ u_ws mmR_6 mmT_6 13, w ∈ kw_Ts := by
  intro w hw
  obtain ⟨j, hj, e⟩ := List.mem_map.mp hw
  have hj := List.mem_range.mp hj
  subst e
  match j, hj with
  | 0, _ => exact (kw_m1 (i := 202) (by decide +kernel) (by decide +kernel))
  | 1, _ => exact (kw_m1 (i := 204) (by decide +kernel) (by decide +kernel))
  | 2, _ => exact (kw_m1 (i := 206) (by decide +kernel) (by decide +kernel))
  | 3, _ => exact (kw_m1 (i := 208) (by decide +kernel) (by decide +kernel))
  | 4, _ => exact (kw_m1 (i := 210) (by decide +kernel) (by decide +kernel))
  | 5, _ => exact (kw_m1 (i := 212) (by decide +kernel) (by decide +kernel))
  | 6, _ => exact (kw_m1 (i := 214) (by decide +kernel) (by decide +kernel))
  | 7, _ => exact (kw_m1 (i := 216) (by decide +kernel) (by decide +kernel))
  | 8, _ => exact (kw_m1 (i := 218) (by decide +kernel) (by decide +kernel))
  | 9, _ => exact (kw_m1 (i := 220) (by decide +kernel) (by decide +kernel))
  | 10, _ => exact (kw_m1 (i := 222) (by decide +kernel) (by decide +kernel))
  | 11, _ => exact (kw_m1 (i := 224) (by decide +kernel) (by decide +kernel))
  | 12, _ => exact (kw_m1 (i := 226) (by decide +kernel) (by decide +kernel))
  | j + 13, h => omega
theorem mmN_6 : ∀ a, a < 13 → ∀ b, b < 13 → a ≠ b → (mmT_6 a).2.1 ≠ (mmT_6 b).2.1 := by decide +kernel
theorem mmY_6 : ∀ j, j < 13 → parseFieldDescriptor (mmT_6 j).2.2.1 = some (mm_fty 6 j) := by decide +kernel
theorem mmI_7 : ∀ w ∈ u_ws mmR_7 mmT_7 5, w ∈ kw_Ts := by
  intro w hw
  obtain ⟨j, hj, e⟩ := List.mem_map.mp hw
  have hj := List.mem_range.mp hj
  subst e
  match j, hj with
  | 0, _ => exact (kw_m1 (i := 171) (by decide +kernel) (by decide +kernel))
  | 1, _ => exact (kw_m1 (i := 173) (by decide +kernel) (by decide +kernel))
  | 2, _ => exact (kw_m1 (i := 175) (by decide +kernel) (by decide +kernel))
  | 3, _ => exact (kw_m1 (i := 177) (by decide +kernel) (by decide +kernel))
  | 4, _ => exact (kw_m1 (i := 179) (by decide +kernel) (by decide +kernel))
  | j + 5, h => omega
theorem mmN_7 : ∀ a, a < 5 → ∀ b, b < 5 → a ≠ b → (mmT_7 a).2.1 ≠ (mmT_7 b).2.1 := by decide +kernel
theorem mmY_7 : ∀ j, j < 5 → parseFieldDescriptor (mmT_7 j).2.2.1 = some (mm_fty 7 j) := by decide +kernel
theorem mmI_8 : ∀ w ∈ u_ws mmR_8 mmT_8 4, w ∈ kw_Ts := by
  intro w hw
  obtain ⟨j, hj, e⟩ := List.mem_map.mp hw
  have hj := List.mem_range.mp hj
  subst e
  match j, hj with
  | 0, _ => exact (kw_m2 (i := 34) (by decide +kernel) (by decide +kernel))
  | 1, _ => exact (kw_m2 (i := 36) (by decide +kernel) (by decide +kernel))
  | 2, _ => exact (kw_m2 (i := 38) (by decide +kernel) (by decide +kernel))
  | 3, _ => exact (kw_m2 (i := 40) (by decide +kernel) (by decide +kernel))
  | j + 4, h => omega
theorem mmN_8 : ∀ a, a < 4 → ∀ b, b < 4 → a ≠ b → (mmT_8 a).2.1 ≠ (mmT_8 b).2.1 := by decide +kernel
theorem mmY_8 : ∀ j, j < 4 → parseFieldDescriptor (mmT_8 j).2.2.1 = some (mm_fty 8 j) := by decide +kernel
theorem mmI_9 : ∀ w ∈ u_ws mmR_9 mmT_9 9, w ∈ kw_Ts := by
  intro w hw
  obtain ⟨j, hj, e⟩ := List.mem_map.mp hw
  have hj := List.mem_range.mp hj
  subst e
  match j, hj with
  | 0, _ => exact (kw_m2 (i := 11) (by decide +kernel) (by decide +kernel))
  | 1, _ => exact (kw_m2 (i := 13) (by decide +kernel) (by decide +kernel))
  | 2, _ => exact (kw_m2 (i := 15) (by decide +kernel) (by decide +kernel))
  | 3, _ => exact (kw_m2 (i := 17) (by decide +kernel) (by decide +kernel))
  | 4, _ => exact (kw_m2 (i := 19) (by decide +kernel) (by decide +kernel))
  | 5, _ => exact (kw_m2 (i := 21) (by decide +kernel) (by decide +kernel))
  | 6, _ => exact (kw_m2 (i := 23) (by decide +kernel) (by decide +kernel))
  | 7, _ => exact (kw_m2 (i := 25) (by decide +kernel) (by decide +kernel))
  | 8, _ => exact (kw_m2 (i := 27) (by decide +kernel) (by decide +kernel))
  | j + 9, h => omega
theorem mmN_9 : ∀ a, a < 9 → ∀ b, b < 9 → a ≠ b → (mmT_9 a).2.1 ≠ (mmT_9 b).2.1 := by decide +kernel
theorem mmY_9 : ∀ j, j < 9 → parseFieldDescriptor (mmT_9 j).2.2.1 = some (mm_fty 9 j) := by decide +kernel
theorem mmI_10 : ∀ w ∈ u_ws mmR_10 mmT_10 12, w ∈ kw_Ts := by
  intro w hw
  obtain ⟨j, hj, e⟩ := List.mem_map.mp hw
  have hj := List.mem_range.mp hj
  subst e
  match j, hj with
  | 0, _ => exact (kw_m2 (i := 145) (by decide +kernel) (by decide +kernel))
  | 1, _ => exact (kw_m2 (i := 147) (by decide +kernel) (by decide +kernel))
  | 2, _ => exact (kw_m2 (i := 149) (by decide +kernel) (by decide +kernel))
  | 3, _ => exact (kw_m2 (i := 151) (by decide +kernel) (by decide +kernel))
  | 4, _ => exact (kw_m2 (i := 153) (by decide +kernel) (by decide +kernel))
  | 5, _ => exact (kw_m2 (i := 155) (by decide +kernel) (by decide +kernel))
  | 6, _ => exact (kw_m2 (i := 157) (by decide +kernel) (by decide +kernel))
  | 7, _ => exact (kw_m2 (i := 159) (by decide +kernel) (by decide +kernel))
  | 8, _ => exact (kw_m2 (i := 161) (by decide +kernel) (by decide +kernel))
  | 9, _ => exact (kw_m2 (i := 163) (by decide +kernel) (by decide +kernel))
  | 10, _ => exact (kw_m2 (i := 165) (by decide +kernel) (by decide +kernel))
  | 11, _ => exact (kw_m2 (i := 167) (by decide +kernel) (by decide +kernel))
  | j + 12, h => omega
theorem mmN_10 : ∀ a, a < 12 → ∀ b, b < 12 → a ≠ b → (mmT_10 a).2.1 ≠ (mmT_10 b).2.1 := by decide +kernel
theorem mmY_10 : ∀ j, j < 12 → parseFieldDescriptor (mmT_10 j).2.2.1 = some (mm_fty 10 j) := by decide +kernel
theorem mmI_11 : ∀ w ∈ u_ws mmR_11 mmT_11 10, w ∈ kw_Ts := by
  intro w hw
  obtain ⟨j, hj, e⟩ := List.mem_map.mp hw
  have hj := List.mem_range.mp hj
  subst e
  match j, hj with
  | 0, _ => exact (kw_m2 (i := 78) (by decide +kernel) (by decide +kernel))
  | 1, _ => exact (kw_m2 (i := 80) (by decide +kernel) (by decide +kernel))
  | 2, _ => exact (kw_m2 (i := 82) (by decide +kernel) (by decide +kernel))
  | 3, _ => exact (kw_m2 (i := 84) (by decide +kernel) (by decide +kernel))
  | 4, _ => exact (kw_m2 (i := 86) (by decide +kernel) (by decide +kernel))
  | 5, _ => exact (kw_m2 (i := 88) (by decide +kernel) (by decide +kernel))
  | 6, _ => exact (kw_m2 (i := 90) (by decide +kernel) (by decide +kernel))
  | 7, _ => exact (kw_m2 (i := 92) (by decide +kernel) (by decide +kernel))
  | 8, _ => exact (kw_m2 (i := 94) (by decide +kernel) (by decide +kernel))
  | 9, _ => exact (kw_m2 (i := 96) (by decide +kernel) (by decide +kernel))
  | j + 10, h => omega
theorem mmN_11 : ∀ a, a < 10 → ∀ b, b < 10 → a ≠ b → (mmT_11 a).2.1 ≠ (mmT_11 b).2.1 := by decide +kernel
theorem mmY_11 : ∀ j, j < 10 → parseFieldDescriptor (mmT_11 j).2.2.1 = some (mm_fty 11 j) := by decide +kernel
theorem mmI_12 : ∀ w ∈ u_ws mmR_12 mmT_12 57, w ∈ kw_Ts := by
  intro w hw
  obtain ⟨j, hj, e⟩ := List.mem_map.mp hw
  have hj := List.mem_range.mp hj
  subst e
  match j, hj with
  | 0, _ => exact (kw_m5 (i := 200) (by decide +kernel) (by decide +kernel))
  | 1, _ => exact (kw_m5 (i := 202) (by decide +kernel) (by decide +kernel))
  | 2, _ => exact (kw_m5 (i := 204) (by decide +kernel) (by decide +kernel))
  | 3, _ => exact (kw_m5 (i := 206) (by decide +kernel) (by decide +kernel))
  | 4, _ => exact (kw_m5 (i := 208) (by decide +kernel) (by decide +kernel))
  | 5, _ => exact (kw_m5 (i := 210) (by decide +kernel) (by decide +kernel))
  | 6, _ => exact (kw_m5 (i := 212) (by decide +kernel) (by decide +kernel))
  | 7, _ => exact (kw_m5 (i := 214) (by decide +kernel) (by decide +kernel))
  | 8, _ => exact (kw_m5 (i := 216) (by decide +kernel) (by decide +kernel))
  | 9, _ => exact (kw_m5 (i := 218) (by decide +kernel) (by decide +kernel))
  | 10, _ => exact (kw_m5 (i := 220) (by decide +kernel) (by decide +kernel))
  | 11, _ => exact (kw_m5 (i := 222) (by decide +kernel) (by decide +kernel))
  | 12, _ => exact (kw_m5 (i := 224) (by decide +kernel) (by decide +kernel))
  | 13, _ => exact (kw_m5 (i := 226) (by decide +kernel) (by decide +kernel))
  | 14, _ => exact (kw_m5 (i := 228) (by decide +kernel) (by decide +kernel))
  | 15, _ => exact (kw_m5 (i := 230) (by decide +kernel) (by decide +kernel))
  | 16, _ => exact (kw_m5 (i := 232) (by decide +kernel) (by decide +kernel))
  | 17, _ => exact (kw_m5 (i := 234) (by decide +kernel) (by decide +kernel))
  | 18, _ => exact (kw_m5 (i := 236) (by decide +kernel) (by decide +kernel))
  | 19, _ => exact (kw_m5 (i := 238) (by decide +kernel) (by decide +kernel))
  | 20, _ => exact (kw_m6 (i := 0) (by decide +kernel) (by decide +kernel))
  | 21, _ => exact (kw_m6 (i := 2) (by decide +kernel) (by decide +kernel))
  | 22, _ => exact (kw_m6 (i := 4) (by decide +kernel) (by decide +kernel))
  | 23, _ => exact (kw_m6 (i := 6) (by decide +kernel) (by decide +kernel))
  | 24, _ => exact (kw_m6 (i := 8) (by decide +kernel) (by decide +kernel))
  | 25, _ => exact (kw_m6 (i := 10) (by decide +kernel) (by decide +kernel))
  | 26, _ => exact (kw_m6 (i := 12) (by decide +kernel) (by decide +kernel))
  | 27, _ => exact (kw_m6 (i := 14) (by decide +kernel) (by decide +kernel))
  | 28, _ => exact (kw_m6 (i := 16) (by decide +kernel) (by decide +kernel))
  | 29, _ => exact (kw_m6 (i := 18) (by decide +kernel) (by decide +kernel))
  | 30, _ => exact (kw_m6 (i := 20) (by decide +kernel) (by decide +kernel))
  | 31, _ => exact (kw_m6 (i := 22) (by decide +kernel) (by decide +kernel))
  | 32, _ => exact (kw_m6 (i := 24) (by decide +kernel) (by decide +kernel))
  | 33, _ => exact (kw_m6 (i := 26) (by decide +kernel) (by decide +kernel))
  | 34, _ => exact (kw_m6 (i := 28) (by decide +kernel) (by decide +kernel))
  | 35, _ => exact (kw_m6 (i := 30) (by decide +kernel) (by decide +kernel))
  | 36, _ => exact (kw_m6 (i := 32) (by decide +kernel) (by decide +kernel))
  | 37, _ => exact (kw_m6 (i := 34) (by decide +kernel) (by decide +kernel))
  | 38, _ => exact (kw_m6 (i := 36) (by decide +kernel) (by decide +kernel))
  | 39, _ => exact (kw_m6 (i := 38) (by decide +kernel) (by decide +kernel))
  | 40, _ => exact (kw_m6 (i := 40) (by decide +kernel) (by decide +kernel))
  | 41, _ => exact (kw_m6 (i := 42) (by decide +kernel) (by decide +kernel))
  | 42, _ => exact (kw_m6 (i := 44) (by decide +kernel) (by decide +kernel))
  | 43, _ => exact (kw_m6 (i := 46) (by decide +kernel) (by decide +kernel))
  | 44, _ => exact (kw_m6 (i := 48) (by decide +kernel) (by decide +kernel))
  | 45, _ => exact (kw_m6 (i := 50) (by decide +kernel) (by decide +kernel))
  | 46, _ => exact (kw_m6 (i := 52) (by decide +kernel) (by decide +kernel))
  | 47, _ => exact (kw_m6 (i := 54) (by decide +kernel) (by decide +kernel))
  | 48, _ => exact (kw_m6 (i := 56) (by decide +kernel) (by decide +kernel))
  | 49, _ => exact (kw_m6 (i := 58) (by decide +kernel) (by decide +kernel))
  | 50, _ => exact (kw_m6 (i := 60) (by decide +kernel) (by decide +kernel))
  | 51, _ => exact (kw_m6 (i := 62) (by decide +kernel) (by decide +kernel))
  | 52, _ => exact (kw_m6 (i := 64) (by decide +kernel) (by decide +kernel))
  | 53, _ => exact (kw_m6 (i := 66) (by decide +kernel) (by decide +kernel))
  | 54, _ => exact (kw_m6 (i := 68) (by decide +kernel) (by decide +kernel))
  | 55, _ => exact (kw_m6 (i := 70) (by decide +kernel) (by decide +kernel))
  | 56, _ => exact (kw_m6 (i := 72) (by decide +kernel) (by decide +kernel))
  | j + 57, h => omega
theorem mmN_12 : ∀ a, a < 57 → ∀ b, b < 57 → a ≠ b → (mmT_12 a).2.1 ≠ (mmT_12 b).2.1 := by decide +kernel
theorem mmY_12 : ∀ j, j < 57 → parseFieldDescriptor (mmT_12 j).2.2.1 = some (mm_fty 12 j) := by decide +kernel
