/-! tables of the landed class, its reference and its law, by program (wip/whole/gen_tables.py) -/
/-- an instruction: pc, length, entry of the pool, what it is (entries resolved: a field 64 * class + place, a method's number, a class, a type of array, a static array) -/
abbrev mm_I : Type := Nat × Nat × Nat × Instr
/-- a method: name, bytes, locals, what it gives, (class, parameters, static), places of its words, code -/
abbrev mm_M : Type := MethodName × ByteArray × Nat × Option FieldType × (Nat × Nat × Bool) × (Nat × Nat × Nat × Nat) × List mm_I
def mm_T0 : u_T := fun k => match k with
  | 0 => ("QualifierGate", "stock", "LQualifierGate$Stock;", true)
  | 1 => ("QualifierGate", "look", "LQualifierGate$Look;", true)
  | 2 => ("QualifierGate", "machine", "LQualifierGate$Machine;", true)
  | _ => ("QualifierGate", "lastPlace", "I", false)
def mm_y0 : Nat → FieldType := fun k => match k with
  | 0 => .object "QualifierGate$Stock"
  | 1 => .object "QualifierGate$Look"
  | 2 => .object "QualifierGate$Machine"
  | _ => .int
def mm_T1 : u_T := fun k => match k with
  | 0 => ("QualifierGate$Stock", "classCount", "I", false)
  | 1 => ("QualifierGate$Stock", "above", "[I", true)
  | 2 => ("QualifierGate$Stock", "aboveSets", "[I", true)
  | 3 => ("QualifierGate$Stock", "loaded", "[Z", true)
  | 4 => ("QualifierGate$Stock", "frozen", "Z", false)
  | 5 => ("QualifierGate$Stock", "fieldCount", "I", false)
  | 6 => ("QualifierGate$Stock", "fieldOwners", "[I", true)
  | 7 => ("QualifierGate$Stock", "fields", "[LQualifierGate$Place;", true)
  | 8 => ("QualifierGate$Stock", "methodCount", "I", false)
  | _ => ("QualifierGate$Stock", "methods", "[LQualifierGate$Method;", true)
def mm_y1 : Nat → FieldType := fun k => match k with
  | 0 => .int
  | 1 => .array .int
  | 2 => .array .int
  | 3 => .array .boolean
  | 4 => .boolean
  | 5 => .int
  | 6 => .array .int
  | 7 => .array (.object "QualifierGate$Place")
  | 8 => .int
  | _ => .array (.object "QualifierGate$Method")
def mm_T2 : u_T := fun k => match k with
  | 0 => ("QualifierGate$Look", "stock", "LQualifierGate$Stock;", true)
  | 1 => ("QualifierGate$Look", "rules", "LQualifierGate$Rules;", true)
  | 2 => ("QualifierGate$Look", "frames", "[LQualifierGate$Frame;", true)
  | 3 => ("QualifierGate$Look", "out", "LQualifierGate$Frame;", true)
  | 4 => ("QualifierGate$Look", "jump", "LQualifierGate$Frame;", true)
  | 5 => ("QualifierGate$Look", "method", "LQualifierGate$Method;", false)
  | _ => ("QualifierGate$Look", "errorAt", "I", false)
def mm_y2 : Nat → FieldType := fun k => match k with
  | 0 => .object "QualifierGate$Stock"
  | 1 => .object "QualifierGate$Rules"
  | 2 => .array (.object "QualifierGate$Frame")
  | 3 => .object "QualifierGate$Frame"
  | 4 => .object "QualifierGate$Frame"
  | 5 => .object "QualifierGate$Method"
  | _ => .int
def mm_T3 : u_T := fun k => match k with
  | 0 => ("QualifierGate$Frame", "slots", "[I", true)
  | 1 => ("QualifierGate$Frame", "height", "I", false)
  | 2 => ("QualifierGate$Frame", "site", "I", false)
  | 3 => ("QualifierGate$Frame", "set", "I", false)
  | _ => ("QualifierGate$Frame", "fresh", "Z", false)
def mm_y3 : Nat → FieldType := fun k => match k with
  | 0 => .array .int
  | 1 => .int
  | 2 => .int
  | 3 => .int
  | _ => .boolean
def mm_T4 : u_T := fun k => match k with
  | _ => ("QualifierGate$Rules", "stock", "LQualifierGate$Stock;", true)
def mm_y4 : Nat → FieldType := fun k => match k with
  | _ => .object "QualifierGate$Stock"
def mm_T5 : u_T := fun k => match k with
  | 0 => ("QualifierGate$Machine", "stock", "LQualifierGate$Stock;", true)
  | 1 => ("QualifierGate$Machine", "inputs", "[I", true)
  | 2 => ("QualifierGate$Machine", "inputCount", "I", false)
  | 3 => ("QualifierGate$Machine", "outputs", "[I", true)
  | 4 => ("QualifierGate$Machine", "answer", "I", false)
  | 5 => ("QualifierGate$Machine", "begun", "I", false)
  | 6 => ("QualifierGate$Machine", "made", "I", false)
  | 7 => ("QualifierGate$Machine", "putOut", "I", false)
  | 8 => ("QualifierGate$Machine", "taken", "I", false)
  | 9 => ("QualifierGate$Machine", "mostAtWork", "I", false)
  | 10 => ("QualifierGate$Machine", "classes", "[I", true)
  | 11 => ("QualifierGate$Machine", "held", "[I", true)
  | 12 => ("QualifierGate$Machine", "works", "[LQualifierGate$Activation;", true)
  | 13 => ("QualifierGate$Machine", "atWork", "I", false)
  | _ => ("QualifierGate$Machine", "ending", "I", false)
def mm_y5 : Nat → FieldType := fun k => match k with
  | 0 => .object "QualifierGate$Stock"
  | 1 => .array .int
  | 2 => .int
  | 3 => .array .int
  | 4 => .int
  | 5 => .int
  | 6 => .int
  | 7 => .int
  | 8 => .int
  | 9 => .int
  | 10 => .array .int
  | 11 => .array .int
  | 12 => .array (.object "QualifierGate$Activation")
  | 13 => .int
  | _ => .int
def mm_T6 : u_T := fun k => match k with
  | 0 => ("QualifierGate$Activation", "method", "LQualifierGate$Method;", false)
  | 1 => ("QualifierGate$Activation", "at", "I", false)
  | 2 => ("QualifierGate$Activation", "locals", "[I", true)
  | 3 => ("QualifierGate$Activation", "stack", "[I", true)
  | _ => ("QualifierGate$Activation", "height", "I", false)
def mm_y6 : Nat → FieldType := fun k => match k with
  | 0 => .object "QualifierGate$Method"
  | 1 => .int
  | 2 => .array .int
  | 3 => .array .int
  | _ => .int
def mm_T7 : u_T := fun k => match k with
  | 0 => ("QualifierGate$Place", "sort", "I", false)
  | 1 => ("QualifierGate$Place", "may", "Z", false)
  | _ => ("QualifierGate$Place", "marks", "I", false)
def mm_y7 : Nat → FieldType := fun k => match k with
  | 0 => .int
  | 1 => .boolean
  | _ => .int
def mm_T8 : u_T := fun k => match k with
  | 0 => ("QualifierGate$Method", "owner", "I", true)
  | 1 => ("QualifierGate$Method", "name", "I", true)
  | 2 => ("QualifierGate$Method", "isStatic", "Z", true)
  | 3 => ("QualifierGate$Method", "params", "[LQualifierGate$Place;", true)
  | 4 => ("QualifierGate$Method", "paramCount", "I", false)
  | 5 => ("QualifierGate$Method", "result", "LQualifierGate$Place;", true)
  | 6 => ("QualifierGate$Method", "builtInKind", "I", false)
  | 7 => ("QualifierGate$Method", "ops", "[I", true)
  | 8 => ("QualifierGate$Method", "args", "[I", true)
  | 9 => ("QualifierGate$Method", "count", "I", false)
  | 10 => ("QualifierGate$Method", "guardFrom", "[I", true)
  | 11 => ("QualifierGate$Method", "guardTo", "[I", true)
  | 12 => ("QualifierGate$Method", "guardAt", "[I", true)
  | _ => ("QualifierGate$Method", "guardCount", "I", false)
def mm_y8 : Nat → FieldType := fun k => match k with
  | 0 => .int
  | 1 => .int
  | 2 => .boolean
  | 3 => .array (.object "QualifierGate$Place")
  | 4 => .int
  | 5 => .object "QualifierGate$Place"
  | 6 => .int
  | 7 => .array .int
  | 8 => .array .int
  | 9 => .int
  | 10 => .array .int
  | 11 => .array .int
  | 12 => .array .int
  | _ => .int
def mm_T9 : u_T := fun k => match k with
  | 0 => ("QualifierGateModel", "classes", "I", false)
  | 1 => ("QualifierGateModel", "fields", "I", false)
  | 2 => ("QualifierGateModel", "methods", "I", false)
  | 3 => ("QualifierGateModel", "above", "[I", true)
  | 4 => ("QualifierGateModel", "fOwner", "[I", true)
  | 5 => ("QualifierGateModel", "fSort", "[I", true)
  | 6 => ("QualifierGateModel", "fMarks", "[I", true)
  | 7 => ("QualifierGateModel", "loaded", "[Z", true)
  | 8 => ("QualifierGateModel", "fMay", "[Z", true)
  | 9 => ("QualifierGateModel", "mOwner", "[I", true)
  | 10 => ("QualifierGateModel", "mName", "[I", true)
  | 11 => ("QualifierGateModel", "mParams", "[I", true)
  | 12 => ("QualifierGateModel", "mKind", "[I", true)
  | 13 => ("QualifierGateModel", "mLength", "[I", true)
  | 14 => ("QualifierGateModel", "mGuards", "[I", true)
  | 15 => ("QualifierGateModel", "sorts", "[I", true)
  | 16 => ("QualifierGateModel", "marks", "[I", true)
  | 17 => ("QualifierGateModel", "mStatic", "[Z", true)
  | 18 => ("QualifierGateModel", "mays", "[Z", true)
  | 19 => ("QualifierGateModel", "ops", "[I", true)
  | 20 => ("QualifierGateModel", "args", "[I", true)
  | 21 => ("QualifierGateModel", "gFrom", "[I", true)
  | 22 => ("QualifierGateModel", "gTo", "[I", true)
  | 23 => ("QualifierGateModel", "gAt", "[I", true)
  | 24 => ("QualifierGateModel", "high", "[I", true)
  | 25 => ("QualifierGateModel", "site", "[I", true)
  | 26 => ("QualifierGateModel", "sets", "[I", true)
  | 27 => ("QualifierGateModel", "kinds", "[I", true)
  | 28 => ("QualifierGateModel", "refs", "[I", true)
  | 29 => ("QualifierGateModel", "vMarks", "[I", true)
  | 30 => ("QualifierGateModel", "origins", "[I", true)
  | 31 => ("QualifierGateModel", "nulls", "[Z", true)
  | 32 => ("QualifierGateModel", "seen", "I", false)
  | 33 => ("QualifierGateModel", "place", "I", false)
  | 34 => ("QualifierGateModel", "changes", "Z", false)
  | 35 => ("QualifierGateModel", "h", "I", false)
  | 36 => ("QualifierGateModel", "s", "I", false)
  | 37 => ("QualifierGateModel", "f", "I", false)
  | 38 => ("QualifierGateModel", "k", "[I", true)
  | 39 => ("QualifierGateModel", "c", "[I", true)
  | 40 => ("QualifierGateModel", "w", "[I", true)
  | 41 => ("QualifierGateModel", "o", "[I", true)
  | 42 => ("QualifierGateModel", "n", "[Z", true)
  | 43 => ("QualifierGateModel", "inputs", "[I", true)
  | 44 => ("QualifierGateModel", "objectClass", "[I", true)
  | 45 => ("QualifierGateModel", "contents", "[I", true)
  | 46 => ("QualifierGateModel", "locals", "[I", true)
  | 47 => ("QualifierGateModel", "stack", "[I", true)
  | 48 => ("QualifierGateModel", "heights", "[I", true)
  | 49 => ("QualifierGateModel", "at", "[I", true)
  | 50 => ("QualifierGateModel", "in", "[I", true)
  | 51 => ("QualifierGateModel", "out", "[I", true)
  | 52 => ("QualifierGateModel", "inputCount", "I", false)
  | 53 => ("QualifierGateModel", "objects", "I", false)
  | 54 => ("QualifierGateModel", "taken", "I", false)
  | 55 => ("QualifierGateModel", "put", "I", false)
  | 56 => ("QualifierGateModel", "begun", "I", false)
  | 57 => ("QualifierGateModel", "depth", "I", false)
  | 58 => ("QualifierGateModel", "deepest", "I", false)
  | 59 => ("QualifierGateModel", "end", "I", false)
  | _ => ("QualifierGateModel", "value", "I", false)
def mm_y9 : Nat → FieldType := fun k => match k with
  | 0 => .int
  | 1 => .int
  | 2 => .int
  | 3 => .array .int
  | 4 => .array .int
  | 5 => .array .int
  | 6 => .array .int
  | 7 => .array .boolean
  | 8 => .array .boolean
  | 9 => .array .int
  | 10 => .array .int
  | 11 => .array .int
  | 12 => .array .int
  | 13 => .array .int
  | 14 => .array .int
  | 15 => .array .int
  | 16 => .array .int
  | 17 => .array .boolean
  | 18 => .array .boolean
  | 19 => .array .int
  | 20 => .array .int
  | 21 => .array .int
  | 22 => .array .int
  | 23 => .array .int
  | 24 => .array .int
  | 25 => .array .int
  | 26 => .array .int
  | 27 => .array .int
  | 28 => .array .int
  | 29 => .array .int
  | 30 => .array .int
  | 31 => .array .boolean
  | 32 => .int
  | 33 => .int
  | 34 => .boolean
  | 35 => .int
  | 36 => .int
  | 37 => .int
  | 38 => .array .int
  | 39 => .array .int
  | 40 => .array .int
  | 41 => .array .int
  | 42 => .array .boolean
  | 43 => .array .int
  | 44 => .array .int
  | 45 => .array .int
  | 46 => .array .int
  | 47 => .array .int
  | 48 => .array .int
  | 49 => .array .int
  | 50 => .array .int
  | 51 => .array .int
  | 52 => .int
  | 53 => .int
  | 54 => .int
  | 55 => .int
  | 56 => .int
  | 57 => .int
  | 58 => .int
  | 59 => .int
  | _ => .int
/-- the classes whose objects the worlds hold -/
abbrev mm_cl : List vw_C := [("QualifierGate", mm_T0, 4), ("QualifierGate$Stock", mm_T1, 10), ("QualifierGate$Look", mm_T2, 7), ("QualifierGate$Frame", mm_T3, 5), ("QualifierGate$Rules", mm_T4, 1), ("QualifierGate$Machine", mm_T5, 15), ("QualifierGate$Activation", mm_T6, 5), ("QualifierGate$Place", mm_T7, 3), ("QualifierGate$Method", mm_T8, 14), ("QualifierGateModel", mm_T9, 61)]
/-- the names of all classes with code -/
def mm_N : List String := ["QualifierGate", "QualifierGate$Stock", "QualifierGate$Look", "QualifierGate$Frame", "QualifierGate$Rules", "QualifierGate$Machine", "QualifierGate$Activation", "QualifierGate$Place", "QualifierGate$Method", "QualifierGateModel", "QualifierGateLaw", "QualifierGate$Value", "QualifierGate$Op"]
/-- for each class its fields: 0 int, 1 boolean, 2 reference -/
def mm_fks : List (List Nat) := [[2, 2, 2, 0], [0, 2, 2, 2, 1, 0, 2, 2, 0, 2], [2, 2, 2, 2, 2, 2, 0], [2, 0, 0, 0, 1], [2], [2, 2, 0, 2, 0, 0, 0, 0, 0, 0, 2, 2, 2, 0, 0], [2, 0, 2, 2, 0], [0, 1, 0], [0, 0, 1, 2, 0, 2, 0, 2, 2, 0, 2, 2, 2, 0], [0, 0, 0, 2, 2, 2, 2, 2, 2, 2, 2, 2, 2, 2, 2, 2, 2, 2, 2, 2, 2, 2, 2, 2, 2, 2, 2, 2, 2, 2, 2, 2, 0, 0, 1, 0, 0, 0, 2, 2, 2, 2, 2, 2, 2, 2, 2, 2, 2, 2, 2, 2, 0, 0, 0, 0, 0, 0, 0, 0, 0]]
/-- which fields are final -/
def mm_fin : List (List Bool) := [[true, true, true, false], [false, true, true, true, false, false, true, true, false, true], [true, true, true, true, true, false, false], [true, false, false, false, false], [true], [true, true, false, true, false, false, false, false, false, false, true, true, true, false, false], [false, false, true, true, false], [false, false, false], [true, true, true, true, false, true, false, true, true, false, true, true, true, false], [false, false, false, true, true, true, true, true, true, true, true, true, true, true, true, true, true, true, true, true, true, true, true, true, true, true, true, true, true, true, true, true, false, false, false, false, false, false, true, true, true, true, true, true, true, true, true, true, true, true, true, true, false, false, false, false, false, false, false, false, false]]
def mm_ty : List (Nat → FieldType) := [mm_y0, mm_y1, mm_y2, mm_y3, mm_y4, mm_y5, mm_y6, mm_y7, mm_y8, mm_y9]
/-- types of arrays -/
def mm_aty : List FieldType := [.int, .boolean, .object "QualifierGate$Place", .object "QualifierGate$Method", .object "QualifierGate$Frame", .object "QualifierGate$Activation"]
/-- the class of an array's places, for arrays of references -/
def mm_ac : List Nat := [0, 0, 7, 8, 3, 6]
/-- links of fields: class, entry, field, place among the words -/
def mm_fl : List (Nat × Nat × Nat × Nat) := [(0, 10, 0, 320), (0, 21, 1, 321), (0, 28, 2, 322), (0, 32, 3, 323), (0, 36, 68, 120), (0, 44, 64, 112), (0, 55, 69, 122), (0, 74, 72, 130), (0, 89, 73, 133), (0, 93, 516, 428), (0, 100, 517, 434), (0, 107, 518, 438), (0, 115, 521, 455), (0, 122, 525, 460), (0, 139, 67, 119), (0, 143, 65, 115), (0, 147, 512, 411), (0, 158, 193, 178), (0, 163, 194, 181), (0, 166, 195, 185), (0, 169, 192, 174), (0, 177, 322, 269), (0, 190, 324, 273), (0, 193, 327, 279), (0, 201, 323, 271), (0, 204, 325, 275), (0, 207, 326, 277), (0, 210, 328, 281), (0, 213, 329, 283), (0, 216, 134, 216), (1, 9, 64, 111), (1, 15, 65, 113), (1, 19, 66, 116), (1, 22, 67, 117), (1, 26, 70, 124), (1, 31, 71, 126), (1, 37, 73, 131), (1, 41, 69, 121), (1, 44, 72, 129), (1, 58, 512, 409), (1, 61, 513, 415), (1, 68, 519, 445), (1, 71, 520, 450), (1, 94, 514, 421), (1, 101, 516, 431), (1, 104, 515, 425), (1, 107, 448, 371), (2, 11, 130, 211), (2, 18, 131, 212), (2, 22, 132, 213), (2, 25, 128, 209), (2, 34, 129, 210), (2, 42, 133, 214), (2, 46, 193, 177), (2, 50, 196, 186), (2, 64, 521, 453), (2, 81, 134, 215), (2, 84, 65, 114), (2, 90, 512, 408), (2, 93, 513, 414), (2, 104, 194, 180), (2, 107, 195, 184), (2, 110, 192, 173), (2, 119, 514, 418), (2, 122, 516, 429), (2, 125, 515, 423), (2, 133, 449, 374), (2, 146, 519, 444), (2, 158, 520, 449), (2, 227, 73, 135), (2, 240, 71, 128), (2, 249, 517, 435), (3, 9, 192, 172), (3, 15, 193, 175), (3, 19, 194, 179), (3, 28, 195, 182), (3, 59, 196, 187), (4, 9, 256, 205), (4, 15, 193, 176), (4, 31, 519, 442), (4, 43, 521, 452), (4, 49, 520, 447), (4, 69, 195, 183), (4, 75, 70, 125), (4, 81, 71, 127), (4, 89, 73, 132), (4, 105, 517, 433), (4, 135, 448, 370), (4, 140, 449, 375), (4, 143, 450, 378), (4, 145, 516, 430), (4, 148, 515, 424), (4, 151, 514, 419), (4, 154, 512, 410), (4, 157, 69, 123), (4, 160, 518, 439), (5, 9, 321, 267), (5, 15, 323, 270), (5, 18, 330, 284), (5, 21, 331, 285), (5, 26, 332, 286), (5, 30, 320, 266), (5, 35, 322, 268), (5, 39, 324, 272), (5, 42, 325, 274), (5, 45, 326, 276), (5, 48, 327, 278), (5, 51, 328, 280), (5, 54, 329, 282), (5, 57, 333, 287), (5, 60, 334, 288), (5, 67, 516, 427), (5, 72, 386, 250), (5, 89, 385, 248), (5, 92, 384, 246), (5, 96, 521, 454), (5, 103, 520, 448), (5, 106, 519, 443), (5, 133, 73, 134), (5, 152, 67, 118), (5, 163, 388, 254), (5, 169, 514, 420), (5, 173, 387, 252), (5, 179, 513, 416), (5, 186, 512, 412), (5, 206, 518, 440), (5, 212, 517, 436), (5, 216, 448, 372), (6, 9, 386, 249), (6, 15, 387, 251), (6, 18, 384, 245), (6, 22, 385, 247), (6, 26, 388, 253), (7, 13, 448, 367), (7, 17, 449, 373), (7, 21, 450, 376), (8, 11, 515, 422), (8, 20, 517, 432), (8, 24, 518, 437), (8, 28, 519, 441), (8, 32, 520, 446), (8, 35, 522, 456), (8, 38, 523, 457), (8, 41, 524, 458), (8, 44, 512, 407), (8, 47, 513, 413), (8, 50, 514, 417), (8, 54, 516, 426), (8, 57, 521, 451), (8, 60, 525, 459), (8, 63, 448, 369), (9, 7, 576, 956), (9, 13, 579, 959), (9, 17, 580, 960), (9, 20, 581, 961), (9, 23, 582, 962), (9, 26, 583, 963), (9, 30, 584, 964), (9, 33, 585, 965), (9, 36, 586, 966), (9, 39, 587, 967), (9, 42, 588, 968), (9, 45, 589, 969), (9, 48, 590, 970), (9, 51, 591, 971), (9, 54, 592, 972), (9, 57, 593, 973), (9, 60, 594, 974), (9, 63, 595, 975), (9, 66, 596, 976), (9, 69, 597, 977), (9, 72, 598, 978), (9, 75, 599, 979), (9, 78, 600, 980), (9, 81, 601, 981), (9, 84, 602, 982), (9, 87, 603, 983), (9, 90, 604, 984), (9, 93, 605, 985), (9, 96, 606, 986), (9, 99, 607, 987), (9, 102, 608, 988), (9, 105, 609, 989), (9, 108, 614, 994), (9, 111, 615, 995), (9, 114, 616, 996), (9, 117, 617, 997), (9, 120, 618, 998), (9, 123, 619, 999), (9, 126, 620, 1000), (9, 129, 621, 1001), (9, 132, 622, 1002), (9, 135, 623, 1003), (9, 138, 624, 1004), (9, 141, 625, 1005), (9, 144, 626, 1006), (9, 147, 627, 1007), (9, 154, 578, 958), (9, 169, 577, 957), (9, 193, 611, 991), (9, 203, 612, 992), (9, 206, 613, 993), (9, 209, 610, 990), (9, 296, 628, 1008), (9, 299, 629, 1009), (9, 302, 630, 1010), (9, 305, 631, 1011), (9, 308, 632, 1012), (9, 311, 633, 1013), (9, 314, 634, 1014), (9, 317, 635, 1015), (9, 320, 636, 1016), (11, 11, 448, 368), (11, 17, 450, 377)]
def mm_ml : List (Nat × Nat × Nat × Nat) := [(0, 1, 1000, 98), (0, 9, 27, 103), (0, 18, 66, 161), (0, 27, 85, 234), (0, 40, 31, 337), (0, 47, 28, 344), (0, 51, 33, 352), (0, 60, 15, 359), (0, 63, 29, 386), (0, 67, 123, 394), (0, 70, 37, 395), (0, 79, 17, 401), (0, 82, 30, 490), (0, 86, 32, 498), (0, 96, 18, 502), (0, 104, 16, 510), (0, 112, 34, 519), (0, 118, 19, 524), (0, 125, 20, 532), (0, 129, 21, 540), (0, 133, 68, 548), (0, 136, 122, 791), (0, 150, 69, 799), (0, 154, 67, 828), (0, 172, 14, 833), (0, 180, 86, 840), (0, 183, 41, 848), (0, 186, 87, 853), (0, 196, 1003, 945), (1, 3, 1000, 106), (1, 51, 31, 356), (1, 55, 32, 523), (1, 64, 37, 807), (1, 74, 24, 603), (1, 78, 23, 608), (1, 87, 39, 599), (1, 98, 22, 852), (2, 3, 1000, 164), (2, 31, 50, 201), (2, 54, 22, 552), (2, 60, 62, 556), (2, 67, 70, 572), (2, 71, 71, 587), (2, 74, 51, 736), (2, 78, 53, 749), (2, 96, 38, 803), (2, 100, 65, 808), (2, 115, 3, 576), (2, 129, 25, 579), (2, 138, 4, 583), (2, 142, 72, 591), (2, 149, 40, 595), (2, 153, 43, 613), (2, 161, 75, 620), (2, 165, 76, 665), (2, 169, 1, 695), (2, 173, 74, 698), (2, 177, 0, 722), (2, 180, 2, 725), (2, 183, 26, 728), (2, 187, 73, 732), (2, 191, 44, 624), (2, 194, 49, 702), (2, 198, 10, 628), (2, 202, 47, 631), (2, 205, 46, 643), (2, 208, 45, 647), (2, 211, 8, 648), (2, 214, 48, 651), (2, 218, 5, 664), (2, 221, 77, 669), (2, 224, 78, 673), (2, 231, 79, 677), (2, 235, 7, 683), (2, 237, 80, 686), (2, 243, 24, 681), (2, 246, 23, 682), (2, 253, 9, 690), (2, 256, 11, 691), (2, 260, 12, 692), (3, 3, 1000, 171), (3, 22, 1001, 617), (3, 31, 45, 635), (3, 35, 10, 639), (3, 41, 9, 640), (3, 45, 5, 655), (3, 48, 6, 658), (3, 51, 11, 661), (3, 55, 43, 706), (3, 63, 48, 707), (3, 67, 13, 708), (4, 3, 1000, 204), (4, 21, 52, 740), (4, 25, 40, 748), (4, 37, 0, 744), (4, 46, 1, 745), (4, 52, 2, 746), (4, 55, 26, 747), (4, 59, 46, 753), (4, 62, 55, 754), (4, 65, 54, 758), (4, 72, 61, 764), (4, 78, 58, 769), (4, 85, 59, 778), (4, 93, 60, 787), (4, 97, 57, 782), (4, 101, 23, 560), (4, 109, 1003, 761), (4, 114, 5, 757), (4, 119, 6, 768), (4, 122, 35, 568), (4, 126, 56, 773), (4, 129, 7, 777), (4, 132, 8, 786), (4, 163, 63, 564), (4, 167, 64, 812), (5, 3, 1000, 237), (5, 63, 88, 857), (5, 75, 89, 868), (5, 79, 82, 861), (5, 83, 1002, 865), (5, 109, 91, 873), (5, 113, 84, 880), (5, 117, 83, 876), (5, 121, 90, 884), (5, 124, 93, 888), (5, 127, 94, 892), (5, 130, 95, 900), (5, 139, 97, 904), (5, 143, 96, 918), (5, 146, 99, 932), (5, 149, 101, 923), (5, 156, 92, 896), (5, 160, 35, 922), (5, 166, 24, 908), (5, 176, 1003, 909), (5, 182, 38, 910), (5, 189, 22, 911), (5, 193, 98, 912), (5, 197, 1001, 917), (5, 203, 25, 916), (5, 209, 23, 936), (5, 221, 100, 928), (5, 225, 26, 927), (6, 3, 1000, 244), (7, 1, 1000, 362), (7, 7, 16, 363), (8, 3, 1000, 404), (8, 17, 15, 406), (8, 66, 25, 607), (9, 1, 1000, 955), (9, 150, 125, 1152), (9, 157, 126, 1148), (9, 161, 128, 1144), (9, 165, 130, 1159), (9, 172, 133, 1167), (9, 176, 127, 1175), (9, 179, 137, 1179), (9, 183, 143, 1259), (9, 186, 144, 1247), (9, 190, 145, 1251), (9, 196, 148, 1219), (9, 200, 149, 1267), (9, 213, 153, 1227), (9, 217, 155, 1231), (9, 221, 129, 1235), (9, 224, 151, 1215), (9, 228, 154, 1223), (9, 232, 158, 1239), (9, 235, 147, 1243), (9, 238, 146, 1255), (9, 241, 152, 1263), (9, 244, 159, 1271), (9, 247, 156, 1275), (9, 250, 150, 1279), (9, 254, 161, 1295), (9, 257, 160, 1291), (9, 261, 163, 1299), (9, 264, 166, 1302), (9, 267, 162, 1306), (9, 271, 165, 1310), (9, 275, 157, 1211), (9, 278, 167, 1283), (9, 281, 164, 1287), (9, 284, 168, 1207), (9, 287, 134, 1322), (9, 290, 170, 1326), (9, 293, 171, 1318), (9, 323, 178, 1350), (9, 326, 181, 1354), (9, 329, 179, 1358), (9, 333, 180, 1362), (9, 336, 182, 1366), (9, 339, 183, 1370), (9, 342, 186, 1378), (9, 345, 185, 1382), (9, 348, 184, 1374), (10, 9, 102, 95), (10, 12, 124, 952), (10, 13, 103, 333), (10, 17, 131, 1140), (10, 18, 104, 348), (10, 22, 132, 1155), (10, 23, 105, 390), (10, 27, 135, 1163), (10, 28, 106, 494), (10, 31, 136, 1171), (10, 32, 107, 506), (10, 36, 138, 1183), (10, 37, 108, 511), (10, 41, 139, 1187), (10, 42, 109, 515), (10, 46, 140, 1191), (10, 47, 110, 528), (10, 51, 141, 1195), (10, 52, 111, 536), (10, 55, 142, 1199), (10, 56, 112, 544), (10, 59, 169, 1203), (10, 60, 113, 795), (10, 63, 172, 1314), (10, 64, 114, 816), (10, 68, 173, 1330), (10, 69, 115, 820), (10, 73, 174, 1334), (10, 74, 116, 824), (10, 77, 175, 1338), (10, 78, 117, 836), (10, 81, 176, 1342), (10, 82, 118, 844), (10, 85, 177, 1346), (10, 86, 119, 937), (10, 89, 187, 1386), (10, 90, 120, 941), (10, 93, 188, 1390), (10, 94, 121, 946), (10, 97, 189, 1394), (11, 20, 3, 586), (11, 24, 5, 711), (11, 28, 7, 712), (11, 32, 8, 713), (11, 34, 9, 714), (11, 37, 10, 715), (11, 41, 6, 716), (11, 44, 36, 717), (11, 49, 11, 721)]
def mm_mn : List (Nat × Nat × Nat) := [(1, 47, 123), (2, 17, 42), (2, 38, 123), (5, 34, 81), (5, 99, 123)]
def mm_nc : List (Nat × Nat × Nat × Nat) := [(0, 7, 1, 101), (0, 16, 2, 159), (0, 25, 5, 232), (0, 58, 7, 357), (0, 77, 8, 399), (2, 9, 3, 165), (2, 29, 4, 199), (5, 24, 6, 238), (8, 9, 7, 405), (10, 7, 0, 93), (10, 10, 9, 950)]
def mm_na : List (Nat × Nat × Nat × Nat) := [(1, 29, 2, 107), (1, 35, 3, 109), (2, 9, 4, 165), (5, 24, 5, 238), (8, 9, 2, 405)]
def mm_sl : List (Nat × Nat × Nat) := [(1, 82, 1), (1, 91, 2)]
