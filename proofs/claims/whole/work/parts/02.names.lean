/-! ===== names, field tables (by the program wip/whole/gen) ===== -/
def zR0 : String := "HereMiss$Call"
def zR1 : String := "HereMiss$Changes"
def zR2 : String := "HereMiss$Deeds"
def zR3 : String := "HereMiss$Law"
def zR4 : String := "HereMiss$Pupils"
def zR5 : String := "HereMiss$Registers"
def zR6 : String := "HereMiss$Shelf"
def zR7 : String := "HereMiss$Tape"
def zR8 : String := "HereMiss$Thought"
def zR9 : String := "HereMiss$Voices"
def zR10 : String := "HereMiss"
def zR11 : String := "HereMissModel"
def zR12 : String := "java/lang/Integer"
def zR13 : String := "java/util/Arrays"
def zR14 : String := "java/lang/Math"
def zR15 : String := "java/lang/System"
def zR16 : String := "HereMissLaw"
def zcn : Nat → String := fun k => match k with
  | 0 => zR0
  | 1 => zR1
  | 2 => zR2
  | 3 => zR3
  | 4 => zR4
  | 5 => zR5
  | 6 => zR6
  | 7 => zR7
  | 8 => zR8
  | 9 => zR9
  | 10 => zR10
  | 11 => zR11
  | 12 => zR12
  | 13 => zR13
  | 14 => zR14
  | 15 => zR15
  | _ => zR16
def zT0 : u_T := fun k => match k with
  | 0 => ("HereMiss$Call", "pupils", "LHereMiss$Pupils;", true)
  | 1 => ("HereMiss$Call", "law", "LHereMiss$Law;", true)
  | 2 => ("HereMiss$Call", "order", "[I", true)
  | 3 => ("HereMiss$Call", "bold", "[I", true)
  | 4 => ("HereMiss$Call", "friends", "[I", true)
  | 5 => ("HereMiss$Call", "late", "[I", true)
  | 6 => ("HereMiss$Call", "helped", "[I", true)
  | 7 => ("HereMiss$Call", "answerer", "[I", true)
  | 8 => ("HereMiss$Call", "cameAt", "[I", true)
  | 9 => ("HereMiss$Call", "way", "I", false)
  | 10 => ("HereMiss$Call", "looks", "I", false)
  | 11 => ("HereMiss$Call", "here", "I", false)
  | 12 => ("HereMiss$Call", "marked", "I", false)
  | 13 => ("HereMiss$Call", "falsely", "I", false)
  | 14 => ("HereMiss$Call", "helpers", "I", false)
  | 15 => ("HereMiss$Call", "tenths", "I", false)
  | _ => ("HereMiss$Call", "caught", "I", false)
def zY0 : Nat → FieldType := fun k => match k with
  | 0 => .object "HereMiss$Pupils"
  | 1 => .object "HereMiss$Law"
  | 2 => .array .int
  | 3 => .array .int
  | 4 => .array .int
  | 5 => .array .int
  | 6 => .array .int
  | 7 => .array .int
  | 8 => .array .int
  | 9 => .int
  | 10 => .int
  | 11 => .int
  | 12 => .int
  | 13 => .int
  | 14 => .int
  | 15 => .int
  | _ => .int
def zT1 : u_T := fun k => match k with
  | 0 => ("HereMiss$Changes", "pupils", "LHereMiss$Pupils;", true)
  | 1 => ("HereMiss$Changes", "numbers", "[I", true)
  | 2 => ("HereMiss$Changes", "whats", "[I", true)
  | 3 => ("HereMiss$Changes", "before", "[I", true)
  | 4 => ("HereMiss$Changes", "after", "[I", true)
  | 5 => ("HereMiss$Changes", "done", "I", false)
  | _ => ("HereMiss$Changes", "size", "I", false)
def zY1 : Nat → FieldType := fun k => match k with
  | 0 => .object "HereMiss$Pupils"
  | 1 => .array .int
  | 2 => .array .int
  | 3 => .array .int
  | 4 => .array .int
  | 5 => .int
  | _ => .int
def zT2 : u_T := fun k => match k with
  | 0 => ("HereMiss$Deeds", "pupils", "LHereMiss$Pupils;", true)
  | 1 => ("HereMiss$Deeds", "marks", "[I", true)
  | 2 => ("HereMiss$Deeds", "led", "[I", true)
  | 3 => ("HereMiss$Deeds", "keptMarks", "[I", true)
  | 4 => ("HereMiss$Deeds", "keptBold", "[I", true)
  | 5 => ("HereMiss$Deeds", "keptLed", "[I", true)
  | 6 => ("HereMiss$Deeds", "keptSize", "I", false)
  | _ => ("HereMiss$Deeds", "isKept", "Z", false)
def zY2 : Nat → FieldType := fun k => match k with
  | 0 => .object "HereMiss$Pupils"
  | 1 => .array .int
  | 2 => .array .int
  | 3 => .array .int
  | 4 => .array .int
  | 5 => .array .int
  | 6 => .int
  | _ => .boolean
def zT3 : u_T := fun k => match k with
  | 0 => ("HereMiss$Law", "pupils", "LHereMiss$Pupils;", true)
  | 1 => ("HereMiss$Law", "codes", "[I", true)
  | 2 => ("HereMiss$Law", "size", "I", false)
  | 3 => ("HereMiss$Law", "names", "[I", true)
  | 4 => ("HereMiss$Law", "stack", "[I", true)
  | 5 => ("HereMiss$Law", "slow", "[I", true)
  | 6 => ("HereMiss$Law", "known", "[I", true)
  | _ => ("HereMiss$Law", "knownOf", "I", false)
def zY3 : Nat → FieldType := fun k => match k with
  | 0 => .object "HereMiss$Pupils"
  | 1 => .array .int
  | 2 => .int
  | 3 => .array .int
  | 4 => .array .int
  | 5 => .array .int
  | 6 => .array .int
  | _ => .int
def zT4 : u_T := fun k => match k with
  | 0 => ("HereMiss$Pupils", "numbers", "[I", true)
  | 1 => ("HereMiss$Pupils", "size", "I", false)
  | _ => ("HereMiss$Pupils", "version", "I", false)
def zY4 : Nat → FieldType := fun k => match k with
  | 0 => .array .int
  | 1 => .int
  | _ => .int
def zT5 : u_T := fun _ => ("HereMiss$Registers", "call", "LHereMiss$Call;", true)
def zY5 : Nat → FieldType := fun _ => .object "HereMiss$Call"
def zT6 : u_T := fun k => match k with
  | 0 => ("HereMiss$Shelf", "elements", "[J", true)
  | 1 => ("HereMiss$Shelf", "sort", "I", false)
  | 2 => ("HereMiss$Shelf", "size", "I", false)
  | _ => ("HereMiss$Shelf", "voice", "I", false)
def zY6 : Nat → FieldType := fun k => match k with
  | 0 => .array .long
  | 1 => .int
  | 2 => .int
  | _ => .int
def zT7 : u_T := fun k => match k with
  | 0 => ("HereMiss$Tape", "letters", "[I", true)
  | 1 => ("HereMiss$Tape", "codes", "[I", true)
  | 2 => ("HereMiss$Tape", "fed", "I", false)
  | 3 => ("HereMiss$Tape", "size", "I", false)
  | _ => ("HereMiss$Tape", "place", "I", false)
def zY7 : Nat → FieldType := fun k => match k with
  | 0 => .array .int
  | 1 => .array .int
  | 2 => .int
  | 3 => .int
  | _ => .int
def zT8 : u_T := fun k => match k with
  | 0 => ("HereMiss$Thought", "pupils", "LHereMiss$Pupils;", true)
  | 1 => ("HereMiss$Thought", "call", "LHereMiss$Call;", true)
  | 2 => ("HereMiss$Thought", "sets", "I", false)
  | 3 => ("HereMiss$Thought", "leastSet", "I", false)
  | 4 => ("HereMiss$Thought", "inAnySet", "I", false)
  | 5 => ("HereMiss$Thought", "setsWith", "[I", true)
  | _ => ("HereMiss$Thought", "between", "[I", true)
def zY8 : Nat → FieldType := fun k => match k with
  | 0 => .object "HereMiss$Pupils"
  | 1 => .object "HereMiss$Call"
  | 2 => .int
  | 3 => .int
  | 4 => .int
  | 5 => .array .int
  | _ => .array .int
def zT9 : u_T := fun k => match k with
  | 0 => ("HereMiss$Voices", "kinds", "[I", true)
  | 1 => ("HereMiss$Voices", "trace", "[I", true)
  | 2 => ("HereMiss$Voices", "size", "I", false)
  | 3 => ("HereMiss$Voices", "ran", "I", false)
  | 4 => ("HereMiss$Voices", "voice", "I", false)
  | _ => ("HereMiss$Voices", "kind", "I", false)
def zY9 : Nat → FieldType := fun k => match k with
  | 0 => .array .int
  | 1 => .array .int
  | 2 => .int
  | 3 => .int
  | 4 => .int
  | _ => .int
def zT10 : u_T := fun k => match k with
  | 0 => ("HereMiss", "pupils", "LHereMiss$Pupils;", true)
  | 1 => ("HereMiss", "tape", "LHereMiss$Tape;", true)
  | 2 => ("HereMiss", "law", "LHereMiss$Law;", true)
  | 3 => ("HereMiss", "call", "LHereMiss$Call;", true)
  | 4 => ("HereMiss", "thought", "LHereMiss$Thought;", true)
  | 5 => ("HereMiss", "registers", "LHereMiss$Registers;", true)
  | 6 => ("HereMiss", "deeds", "LHereMiss$Deeds;", true)
  | 7 => ("HereMiss", "changes", "LHereMiss$Changes;", true)
  | 8 => ("HereMiss", "voices", "LHereMiss$Voices;", true)
  | _ => ("HereMiss", "shelves", "[LHereMiss$Shelf;", true)
def zY10 : Nat → FieldType := fun k => match k with
  | 0 => .object "HereMiss$Pupils"
  | 1 => .object "HereMiss$Tape"
  | 2 => .object "HereMiss$Law"
  | 3 => .object "HereMiss$Call"
  | 4 => .object "HereMiss$Thought"
  | 5 => .object "HereMiss$Registers"
  | 6 => .object "HereMiss$Deeds"
  | 7 => .object "HereMiss$Changes"
  | 8 => .object "HereMiss$Voices"
  | _ => .array (.object "HereMiss$Shelf")
def zT11 : u_T := fun k => match k with
  | 0 => ("HereMissModel", "may", "[I", true)
  | 1 => ("HereMissModel", "changeAt", "[I", true)
  | 2 => ("HereMissModel", "changeWas", "[I", true)
  | 3 => ("HereMissModel", "changeIs", "[I", true)
  | 4 => ("HereMissModel", "keptMany", "I", false)
  | 5 => ("HereMissModel", "done", "I", false)
  | 6 => ("HereMissModel", "pupils", "I", false)
  | 7 => ("HereMissModel", "marks", "[I", true)
  | 8 => ("HereMissModel", "tape", "[I", true)
  | 9 => ("HereMissModel", "tapeMany", "I", false)
  | 10 => ("HereMissModel", "text", "[I", true)
  | 11 => ("HereMissModel", "textMany", "I", false)
  | 12 => ("HereMissModel", "base", "I", false)
  | 13 => ("HereMissModel", "at", "I", false)
  | 14 => ("HereMissModel", "ends", "I", false)
  | 15 => ("HereMissModel", "fault", "I", false)
  | 16 => ("HereMissModel", "opened", "I", false)
  | 17 => ("HereMissModel", "names", "[I", true)
  | 18 => ("HereMissModel", "toldThere", "I", false)
  | 19 => ("HereMissModel", "answered", "[I", true)
  | 20 => ("HereMissModel", "boldSoFar", "[I", true)
  | 21 => ("HereMissModel", "marked", "I", false)
  | 22 => ("HereMissModel", "falsely", "I", false)
  | 23 => ("HereMissModel", "forOthers", "I", false)
  | 24 => ("HereMissModel", "caught", "I", false)
  | 25 => ("HereMissModel", "tenths", "I", false)
  | 26 => ("HereMissModel", "fitting", "[Z", true)
  | 27 => ("HereMissModel", "often", "[I", true)
  | 28 => ("HereMissModel", "ledNow", "[I", true)
  | 29 => ("HereMissModel", "isKept", "Z", false)
  | 30 => ("HereMissModel", "imagePupils", "I", false)
  | 31 => ("HereMissModel", "imageBold", "[I", true)
  | 32 => ("HereMissModel", "imageMarks", "[I", true)
  | 33 => ("HereMissModel", "imageLed", "[I", true)
  | 34 => ("HereMissModel", "bodies", "I", false)
  | 35 => ("HereMissModel", "bodyKind", "[I", true)
  | 36 => ("HereMissModel", "trace", "[I", true)
  | 37 => ("HereMissModel", "ran", "I", false)
  | 38 => ("HereMissModel", "ownKind", "I", false)
  | 39 => ("HereMissModel", "ownNumber", "I", false)
  | 40 => ("HereMissModel", "shelf", "[I", true)
  | 41 => ("HereMissModel", "many", "[I", true)
  | 42 => ("HereMissModel", "items", "[J", true)
  | _ => ("HereMissModel", "carried", "[J", true)
def zY11 : Nat → FieldType := fun k => match k with
  | 0 => .array .int
  | 1 => .array .int
  | 2 => .array .int
  | 3 => .array .int
  | 4 => .int
  | 5 => .int
  | 6 => .int
  | 7 => .array .int
  | 8 => .array .int
  | 9 => .int
  | 10 => .array .int
  | 11 => .int
  | 12 => .int
  | 13 => .int
  | 14 => .int
  | 15 => .int
  | 16 => .int
  | 17 => .array .int
  | 18 => .int
  | 19 => .array .int
  | 20 => .array .int
  | 21 => .int
  | 22 => .int
  | 23 => .int
  | 24 => .int
  | 25 => .int
  | 26 => .array .boolean
  | 27 => .array .int
  | 28 => .array .int
  | 29 => .boolean
  | 30 => .int
  | 31 => .array .int
  | 32 => .array .int
  | 33 => .array .int
  | 34 => .int
  | 35 => .array .int
  | 36 => .array .int
  | 37 => .int
  | 38 => .int
  | 39 => .int
  | 40 => .array .int
  | 41 => .array .int
  | 42 => .array .long
  | _ => .array .long
abbrev zcl : List vw_C := [(zR0, zT0, 17), (zR1, zT1, 7), (zR2, zT2, 8), (zR3, zT3, 8), (zR4, zT4, 3), (zR5, zT5, 1), (zR6, zT6, 4), (zR7, zT7, 5), (zR8, zT8, 7), (zR9, zT9, 6), (zR10, zT10, 10), (zR11, zT11, 44)]
def zT : Nat → u_T := fun k => match k with
  | 0 => zT0
  | 1 => zT1
  | 2 => zT2
  | 3 => zT3
  | 4 => zT4
  | 5 => zT5
  | 6 => zT6
  | 7 => zT7
  | 8 => zT8
  | 9 => zT9
  | 10 => zT10
  | _ => zT11
def zY : Nat → Nat → FieldType := fun k => match k with
  | 0 => zY0
  | 1 => zY1
  | 2 => zY2
  | 3 => zY3
  | 4 => zY4
  | 5 => zY5
  | 6 => zY6
  | 7 => zY7
  | 8 => zY8
  | 9 => zY9
  | 10 => zY10
  | _ => zY11
def zNf : Nat → Nat := fun n => (cond (Nat.blt n 6) (cond (Nat.blt n 3) (cond (Nat.blt n 1) (cond (Nat.beq n 0) 17 0) (cond (Nat.blt n 2) (cond (Nat.beq n 1) 7 0) (cond (Nat.beq n 2) 8 0))) (cond (Nat.blt n 4) (cond (Nat.beq n 3) 8 0) (cond (Nat.blt n 5) (cond (Nat.beq n 4) 3 0) (cond (Nat.beq n 5) 1 0)))) (cond (Nat.blt n 9) (cond (Nat.blt n 7) (cond (Nat.beq n 6) 4 0) (cond (Nat.blt n 8) (cond (Nat.beq n 7) 5 0) (cond (Nat.beq n 8) 7 0))) (cond (Nat.blt n 10) (cond (Nat.beq n 9) 6 0) (cond (Nat.blt n 11) (cond (Nat.beq n 10) 10 0) (cond (Nat.beq n 11) 44 0)))))
/-- boolean fields -/
def zB : Nat → Nat → Bool := fun c j => (Nat.beq c 2 && Nat.beq j 7) || (Nat.beq c 11 && Nat.beq j 29)
/-! ===== the cells, in the order in which the two constructors make them ===== -/
abbrev zNC : Nat := 74
def zK_0_9 : Nat → Nat := fun n => (cond (Nat.blt n 4) (cond (Nat.blt n 2) (cond (Nat.blt n 1) (cond (Nat.beq n 0) 0 9) (cond (Nat.beq n 1) 0 9)) (cond (Nat.blt n 3) (cond (Nat.beq n 2) 1 9) (cond (Nat.beq n 3) 0 9))) (cond (Nat.blt n 6) (cond (Nat.blt n 5) (cond (Nat.beq n 4) 1 9) (cond (Nat.beq n 5) 1 9)) (cond (Nat.blt n 7) (cond (Nat.beq n 6) 0 9) (cond (Nat.blt n 8) (cond (Nat.beq n 7) 1 9) (cond (Nat.beq n 8) 1 9)))))
def zK_9_9 : Nat → Nat := fun n => (cond (Nat.blt n 13) (cond (Nat.blt n 11) (cond (Nat.blt n 10) (cond (Nat.beq n 9) 1 9) (cond (Nat.beq n 10) 1 9)) (cond (Nat.blt n 12) (cond (Nat.beq n 11) 1 9) (cond (Nat.beq n 12) 0 9))) (cond (Nat.blt n 15) (cond (Nat.blt n 14) (cond (Nat.beq n 13) 1 9) (cond (Nat.beq n 14) 1 9)) (cond (Nat.blt n 16) (cond (Nat.beq n 15) 1 9) (cond (Nat.blt n 17) (cond (Nat.beq n 16) 1 9) (cond (Nat.beq n 17) 1 9)))))
def zK_0_18 : Nat → Nat := fun n => (cond (Nat.blt n 9) (zK_0_9 n) (zK_9_9 n))
def zK_18_9 : Nat → Nat := fun n => (cond (Nat.blt n 22) (cond (Nat.blt n 20) (cond (Nat.blt n 19) (cond (Nat.beq n 18) 1 9) (cond (Nat.beq n 19) 1 9)) (cond (Nat.blt n 21) (cond (Nat.beq n 20) 0 9) (cond (Nat.beq n 21) 1 9))) (cond (Nat.blt n 24) (cond (Nat.blt n 23) (cond (Nat.beq n 22) 1 9) (cond (Nat.beq n 23) 0 9)) (cond (Nat.blt n 25) (cond (Nat.beq n 24) 0 9) (cond (Nat.blt n 26) (cond (Nat.beq n 25) 1 9) (cond (Nat.beq n 26) 1 9)))))
def zK_27_10 : Nat → Nat := fun n => (cond (Nat.blt n 32) (cond (Nat.blt n 29) (cond (Nat.blt n 28) (cond (Nat.beq n 27) 1 9) (cond (Nat.beq n 28) 1 9)) (cond (Nat.blt n 30) (cond (Nat.beq n 29) 1 9) (cond (Nat.blt n 31) (cond (Nat.beq n 30) 0 9) (cond (Nat.beq n 31) 1 9)))) (cond (Nat.blt n 34) (cond (Nat.blt n 33) (cond (Nat.beq n 32) 1 9) (cond (Nat.beq n 33) 1 9)) (cond (Nat.blt n 35) (cond (Nat.beq n 34) 1 9) (cond (Nat.blt n 36) (cond (Nat.beq n 35) 0 9) (cond (Nat.beq n 36) 1 9)))))
def zK_18_19 : Nat → Nat := fun n => (cond (Nat.blt n 27) (zK_18_9 n) (zK_27_10 n))
def zK_0_37 : Nat → Nat := fun n => (cond (Nat.blt n 18) (zK_0_18 n) (zK_18_19 n))
def zK_37_9 : Nat → Nat := fun n => (cond (Nat.blt n 41) (cond (Nat.blt n 39) (cond (Nat.blt n 38) (cond (Nat.beq n 37) 1 9) (cond (Nat.beq n 38) 4 9)) (cond (Nat.blt n 40) (cond (Nat.beq n 39) 0 9) (cond (Nat.beq n 40) 2 9))) (cond (Nat.blt n 43) (cond (Nat.blt n 42) (cond (Nat.beq n 41) 0 9) (cond (Nat.beq n 42) 2 9)) (cond (Nat.blt n 44) (cond (Nat.beq n 43) 0 9) (cond (Nat.blt n 45) (cond (Nat.beq n 44) 2 9) (cond (Nat.beq n 45) 0 9)))))
def zK_46_9 : Nat → Nat := fun n => (cond (Nat.blt n 50) (cond (Nat.blt n 48) (cond (Nat.blt n 47) (cond (Nat.beq n 46) 2 9) (cond (Nat.beq n 47) 0 9)) (cond (Nat.blt n 49) (cond (Nat.beq n 48) 2 9) (cond (Nat.beq n 49) 0 9))) (cond (Nat.blt n 52) (cond (Nat.blt n 51) (cond (Nat.beq n 50) 2 9) (cond (Nat.beq n 51) 0 9)) (cond (Nat.blt n 53) (cond (Nat.beq n 52) 1 9) (cond (Nat.blt n 54) (cond (Nat.beq n 53) 1 9) (cond (Nat.beq n 54) 1 9)))))
def zK_37_18 : Nat → Nat := fun n => (cond (Nat.blt n 46) (zK_37_9 n) (zK_46_9 n))
def zK_55_9 : Nat → Nat := fun n => (cond (Nat.blt n 59) (cond (Nat.blt n 57) (cond (Nat.blt n 56) (cond (Nat.beq n 55) 1 9) (cond (Nat.beq n 56) 1 9)) (cond (Nat.blt n 58) (cond (Nat.beq n 57) 1 9) (cond (Nat.beq n 58) 1 9))) (cond (Nat.blt n 61) (cond (Nat.blt n 60) (cond (Nat.beq n 59) 1 9) (cond (Nat.beq n 60) 1 9)) (cond (Nat.blt n 62) (cond (Nat.beq n 61) 1 9) (cond (Nat.blt n 63) (cond (Nat.beq n 62) 3 9) (cond (Nat.beq n 63) 1 9)))))
def zK_64_10 : Nat → Nat := fun n => (cond (Nat.blt n 69) (cond (Nat.blt n 66) (cond (Nat.blt n 65) (cond (Nat.beq n 64) 1 9) (cond (Nat.beq n 65) 1 9)) (cond (Nat.blt n 67) (cond (Nat.beq n 66) 1 9) (cond (Nat.blt n 68) (cond (Nat.beq n 67) 1 9) (cond (Nat.beq n 68) 1 9)))) (cond (Nat.blt n 71) (cond (Nat.blt n 70) (cond (Nat.beq n 69) 1 9) (cond (Nat.beq n 70) 1 9)) (cond (Nat.blt n 72) (cond (Nat.beq n 71) 1 9) (cond (Nat.blt n 73) (cond (Nat.beq n 72) 2 9) (cond (Nat.beq n 73) 2 9)))))
def zK_55_19 : Nat → Nat := fun n => (cond (Nat.blt n 64) (zK_55_9 n) (zK_64_10 n))
def zK_37_37 : Nat → Nat := fun n => (cond (Nat.blt n 55) (zK_37_18 n) (zK_55_19 n))
def zK : Nat → Nat := fun n => (cond (Nat.blt n 37) (zK_0_37 n) (zK_37_37 n))
def zC_30_9 : Nat → Nat := fun n => (cond (Nat.blt n 43) (cond (Nat.blt n 39) (cond (Nat.blt n 35) (cond (Nat.beq n 30) 1 99) (cond (Nat.beq n 35) 9 99)) (cond (Nat.blt n 41) (cond (Nat.beq n 39) 6 99) (cond (Nat.beq n 41) 6 99))) (cond (Nat.blt n 47) (cond (Nat.blt n 45) (cond (Nat.beq n 43) 6 99) (cond (Nat.beq n 45) 6 99)) (cond (Nat.blt n 49) (cond (Nat.beq n 47) 6 99) (cond (Nat.blt n 51) (cond (Nat.beq n 49) 6 99) (cond (Nat.beq n 51) 11 99)))))
def zC : Nat → Nat := fun n => (cond (Nat.blt n 30) (cond (Nat.blt n 12) (cond (Nat.blt n 3) (cond (Nat.blt n 1) (cond (Nat.beq n 0) 10 99) (cond (Nat.beq n 1) 4 99)) (cond (Nat.blt n 6) (cond (Nat.beq n 3) 7 99) (cond (Nat.beq n 6) 3 99))) (cond (Nat.blt n 23) (cond (Nat.blt n 20) (cond (Nat.beq n 12) 0 99) (cond (Nat.beq n 20) 8 99)) (cond (Nat.blt n 24) (cond (Nat.beq n 23) 5 99) (cond (Nat.beq n 24) 2 99)))) (zC_30_9 n))
def zN_0_9 : Nat → Nat := fun n => (cond (Nat.blt n 4) (cond (Nat.blt n 2) (cond (Nat.blt n 1) (cond (Nat.beq n 0) 10 0) (cond (Nat.beq n 1) 3 0)) (cond (Nat.blt n 3) (cond (Nat.beq n 2) 66 0) (cond (Nat.beq n 3) 5 0))) (cond (Nat.blt n 6) (cond (Nat.blt n 5) (cond (Nat.beq n 4) 120 0) (cond (Nat.beq n 5) 121 0)) (cond (Nat.blt n 7) (cond (Nat.beq n 6) 8 0) (cond (Nat.blt n 8) (cond (Nat.beq n 7) 121 0) (cond (Nat.beq n 8) 6 0)))))
def zN_9_9 : Nat → Nat := fun n => (cond (Nat.blt n 13) (cond (Nat.blt n 11) (cond (Nat.blt n 10) (cond (Nat.beq n 9) 121 0) (cond (Nat.beq n 10) 8 0)) (cond (Nat.blt n 12) (cond (Nat.beq n 11) 432 0) (cond (Nat.beq n 12) 17 0))) (cond (Nat.blt n 15) (cond (Nat.blt n 14) (cond (Nat.beq n 13) 8 0) (cond (Nat.beq n 14) 8 0)) (cond (Nat.blt n 16) (cond (Nat.beq n 15) 8 0) (cond (Nat.blt n 17) (cond (Nat.beq n 16) 8 0) (cond (Nat.beq n 17) 8 0)))))
def zN_0_18 : Nat → Nat := fun n => (cond (Nat.blt n 9) (zN_0_9 n) (zN_9_9 n))
def zN_18_9 : Nat → Nat := fun n => (cond (Nat.blt n 22) (cond (Nat.blt n 20) (cond (Nat.blt n 19) (cond (Nat.beq n 18) 8 0) (cond (Nat.beq n 19) 8 0)) (cond (Nat.blt n 21) (cond (Nat.beq n 20) 7 0) (cond (Nat.beq n 21) 8 0))) (cond (Nat.blt n 24) (cond (Nat.blt n 23) (cond (Nat.beq n 22) 80 0) (cond (Nat.beq n 23) 1 0)) (cond (Nat.blt n 25) (cond (Nat.beq n 24) 8 0) (cond (Nat.blt n 26) (cond (Nat.beq n 25) 8 0) (cond (Nat.beq n 26) 5 0)))))
def zN_27_10 : Nat → Nat := fun n => (cond (Nat.blt n 32) (cond (Nat.blt n 29) (cond (Nat.blt n 28) (cond (Nat.beq n 27) 8 0) (cond (Nat.beq n 28) 8 0)) (cond (Nat.blt n 30) (cond (Nat.beq n 29) 5 0) (cond (Nat.blt n 31) (cond (Nat.beq n 30) 7 0) (cond (Nat.beq n 31) 40 0)))) (cond (Nat.blt n 34) (cond (Nat.blt n 33) (cond (Nat.beq n 32) 40 0) (cond (Nat.beq n 33) 40 0)) (cond (Nat.blt n 35) (cond (Nat.beq n 34) 40 0) (cond (Nat.blt n 36) (cond (Nat.beq n 35) 6 0) (cond (Nat.beq n 36) 50 0)))))
def zN_18_19 : Nat → Nat := fun n => (cond (Nat.blt n 27) (zN_18_9 n) (zN_27_10 n))
def zN_0_37 : Nat → Nat := fun n => (cond (Nat.blt n 18) (zN_0_18 n) (zN_18_19 n))
def zN_37_9 : Nat → Nat := fun n => (cond (Nat.blt n 41) (cond (Nat.blt n 39) (cond (Nat.blt n 38) (cond (Nat.beq n 37) 24 0) (cond (Nat.beq n 38) 6 0)) (cond (Nat.blt n 40) (cond (Nat.beq n 39) 4 0) (cond (Nat.beq n 40) 60 0))) (cond (Nat.blt n 43) (cond (Nat.blt n 42) (cond (Nat.beq n 41) 4 0) (cond (Nat.beq n 42) 60 0)) (cond (Nat.blt n 44) (cond (Nat.beq n 43) 4 0) (cond (Nat.blt n 45) (cond (Nat.beq n 44) 60 0) (cond (Nat.beq n 45) 4 0)))))
def zN_46_9 : Nat → Nat := fun n => (cond (Nat.blt n 50) (cond (Nat.blt n 48) (cond (Nat.blt n 47) (cond (Nat.beq n 46) 60 0) (cond (Nat.beq n 47) 4 0)) (cond (Nat.blt n 49) (cond (Nat.beq n 48) 60 0) (cond (Nat.beq n 49) 4 0))) (cond (Nat.blt n 52) (cond (Nat.blt n 51) (cond (Nat.beq n 50) 60 0) (cond (Nat.beq n 51) 44 0)) (cond (Nat.blt n 53) (cond (Nat.beq n 52) 66 0) (cond (Nat.blt n 54) (cond (Nat.beq n 53) 40 0) (cond (Nat.beq n 54) 40 0)))))
def zN_37_18 : Nat → Nat := fun n => (cond (Nat.blt n 46) (zN_37_9 n) (zN_46_9 n))
def zN_55_9 : Nat → Nat := fun n => (cond (Nat.blt n 59) (cond (Nat.blt n 57) (cond (Nat.blt n 56) (cond (Nat.beq n 55) 40 0) (cond (Nat.beq n 56) 8 0)) (cond (Nat.blt n 58) (cond (Nat.beq n 57) 120 0) (cond (Nat.beq n 58) 120 0))) (cond (Nat.blt n 61) (cond (Nat.blt n 60) (cond (Nat.beq n 59) 6 0) (cond (Nat.beq n 60) 8 0)) (cond (Nat.blt n 62) (cond (Nat.beq n 61) 8 0) (cond (Nat.blt n 63) (cond (Nat.beq n 62) 256 0) (cond (Nat.beq n 63) 64 0)))))
def zN_64_10 : Nat → Nat := fun n => (cond (Nat.blt n 69) (cond (Nat.blt n 66) (cond (Nat.blt n 65) (cond (Nat.beq n 64) 5 0) (cond (Nat.beq n 65) 8 0)) (cond (Nat.blt n 67) (cond (Nat.beq n 66) 8 0) (cond (Nat.blt n 68) (cond (Nat.beq n 67) 5 0) (cond (Nat.beq n 68) 50 0)))) (cond (Nat.blt n 71) (cond (Nat.blt n 70) (cond (Nat.beq n 69) 24 0) (cond (Nat.beq n 70) 6 0)) (cond (Nat.blt n 72) (cond (Nat.beq n 71) 6 0) (cond (Nat.blt n 73) (cond (Nat.beq n 72) 360 0) (cond (Nat.beq n 73) 60 0)))))
def zN_55_19 : Nat → Nat := fun n => (cond (Nat.blt n 64) (zN_55_9 n) (zN_64_10 n))
def zN_37_37 : Nat → Nat := fun n => (cond (Nat.blt n 55) (zN_37_18 n) (zN_55_19 n))
def zN : Nat → Nat := fun n => (cond (Nat.blt n 37) (zN_0_37 n) (zN_37_37 n))
def zFr_0_9 : Nat → List (Nat × Nat) := fun c => (cond (Nat.blt c 12) (cond (Nat.blt c 3) (cond (Nat.blt c 1) (cond (Nat.beq c 0) [(0, 1), (1, 3), (2, 6), (3, 12), (4, 20), (5, 23), (6, 24), (7, 30), (8, 35), (9, 38)] []) (cond (Nat.beq c 1) [(0, 2)] [])) (cond (Nat.blt c 6) (cond (Nat.beq c 3) [(0, 4), (1, 5)] []) (cond (Nat.beq c 6) [(0, 1), (1, 7), (3, 8), (4, 9), (5, 10), (6, 11)] []))) (cond (Nat.blt c 23) (cond (Nat.blt c 20) (cond (Nat.beq c 12) [(0, 1), (1, 6), (2, 13), (3, 14), (4, 15), (5, 16), (6, 17), (7, 18), (8, 19)] []) (cond (Nat.beq c 20) [(0, 1), (1, 12), (5, 21), (6, 22)] [])) (cond (Nat.blt c 24) (cond (Nat.beq c 23) [(0, 12)] []) (cond (Nat.blt c 30) (cond (Nat.beq c 24) [(0, 1), (1, 25), (2, 26), (3, 27), (4, 28), (5, 29)] []) (cond (Nat.beq c 30) [(0, 1), (1, 31), (2, 32), (3, 33), (4, 34)] [])))))
def zFr_35_9 : Nat → List (Nat × Nat) := fun c => (cond (Nat.blt c 43) (cond (Nat.blt c 39) (cond (Nat.blt c 38) (cond (Nat.beq c 35) [(0, 36), (1, 37)] []) (cond (Nat.beq c 38) [(0, 39), (1, 41), (2, 43), (3, 45), (4, 47), (5, 49)] [])) (cond (Nat.blt c 41) (cond (Nat.beq c 39) [(0, 40)] []) (cond (Nat.beq c 41) [(0, 42)] []))) (cond (Nat.blt c 47) (cond (Nat.blt c 45) (cond (Nat.beq c 43) [(0, 44)] []) (cond (Nat.beq c 45) [(0, 46)] [])) (cond (Nat.blt c 49) (cond (Nat.beq c 47) [(0, 48)] []) (cond (Nat.blt c 51) (cond (Nat.beq c 49) [(0, 50)] []) (cond (Nat.beq c 51) [(0, 52), (1, 53), (2, 54), (3, 55), (7, 56), (8, 57), (10, 58), (17, 59), (19, 60), (20, 61), (26, 62), (27, 63), (28, 64), (31, 65), (32, 66), (33, 67), (35, 68), (36, 69), (40, 70), (41, 71), (42, 72), (43, 73)] [])))))
def zFr : Nat → List (Nat × Nat) := fun c => (cond (Nat.blt c 35) (zFr_0_9 c) (zFr_35_9 c))
def zfl : List (Nat × Nat) → Nat → Option Nat
  | [], _ => none
  | q :: r, j => cond (Nat.beq q.1 j) (some q.2) (zfl r j)
def zF (c j : Nat) : Option Nat := zfl (zFr c) j
def zSl_0_9 : Nat → Nat := fun n => (cond (Nat.blt n 4) (cond (Nat.blt n 2) (cond (Nat.blt n 1) (cond (Nat.beq n 0) 0 0) (cond (Nat.beq n 1) 10 0)) (cond (Nat.blt n 3) (cond (Nat.beq n 2) 13 0) (cond (Nat.beq n 3) 79 0))) (cond (Nat.blt n 6) (cond (Nat.blt n 5) (cond (Nat.beq n 4) 84 0) (cond (Nat.beq n 5) 204 0)) (cond (Nat.blt n 7) (cond (Nat.beq n 6) 325 0) (cond (Nat.blt n 8) (cond (Nat.beq n 7) 333 0) (cond (Nat.beq n 8) 454 0)))))
def zSl_9_9 : Nat → Nat := fun n => (cond (Nat.blt n 13) (cond (Nat.blt n 11) (cond (Nat.blt n 10) (cond (Nat.beq n 9) 460 0) (cond (Nat.beq n 10) 581 0)) (cond (Nat.blt n 12) (cond (Nat.beq n 11) 589 0) (cond (Nat.beq n 12) 1021 0))) (cond (Nat.blt n 15) (cond (Nat.blt n 14) (cond (Nat.beq n 13) 1038 0) (cond (Nat.beq n 14) 1046 0)) (cond (Nat.blt n 16) (cond (Nat.beq n 15) 1054 0) (cond (Nat.blt n 17) (cond (Nat.beq n 16) 1062 0) (cond (Nat.beq n 17) 1070 0)))))
def zSl_0_18 : Nat → Nat := fun n => (cond (Nat.blt n 9) (zSl_0_9 n) (zSl_9_9 n))
def zSl_18_9 : Nat → Nat := fun n => (cond (Nat.blt n 22) (cond (Nat.blt n 20) (cond (Nat.blt n 19) (cond (Nat.beq n 18) 1078 0) (cond (Nat.beq n 19) 1086 0)) (cond (Nat.blt n 21) (cond (Nat.beq n 20) 1094 0) (cond (Nat.beq n 21) 1101 0))) (cond (Nat.blt n 24) (cond (Nat.blt n 23) (cond (Nat.beq n 22) 1109 0) (cond (Nat.beq n 23) 1189 0)) (cond (Nat.blt n 25) (cond (Nat.beq n 24) 1190 0) (cond (Nat.blt n 26) (cond (Nat.beq n 25) 1198 0) (cond (Nat.beq n 26) 1206 0)))))
def zSl_27_10 : Nat → Nat := fun n => (cond (Nat.blt n 32) (cond (Nat.blt n 29) (cond (Nat.blt n 28) (cond (Nat.beq n 27) 1211 0) (cond (Nat.beq n 28) 1219 0)) (cond (Nat.blt n 30) (cond (Nat.beq n 29) 1227 0) (cond (Nat.blt n 31) (cond (Nat.beq n 30) 1232 0) (cond (Nat.beq n 31) 1239 0)))) (cond (Nat.blt n 34) (cond (Nat.blt n 33) (cond (Nat.beq n 32) 1279 0) (cond (Nat.beq n 33) 1319 0)) (cond (Nat.blt n 35) (cond (Nat.beq n 34) 1359 0) (cond (Nat.blt n 36) (cond (Nat.beq n 35) 1399 0) (cond (Nat.beq n 36) 1405 0)))))
def zSl_18_19 : Nat → Nat := fun n => (cond (Nat.blt n 27) (zSl_18_9 n) (zSl_27_10 n))
def zSl_0_37 : Nat → Nat := fun n => (cond (Nat.blt n 18) (zSl_0_18 n) (zSl_18_19 n))
def zSl_37_9 : Nat → Nat := fun n => (cond (Nat.blt n 41) (cond (Nat.blt n 39) (cond (Nat.blt n 38) (cond (Nat.beq n 37) 1455 0) (cond (Nat.beq n 38) 1479 0)) (cond (Nat.blt n 40) (cond (Nat.beq n 39) 1485 0) (cond (Nat.beq n 40) 1489 0))) (cond (Nat.blt n 43) (cond (Nat.blt n 42) (cond (Nat.beq n 41) 1549 0) (cond (Nat.beq n 42) 1553 0)) (cond (Nat.blt n 44) (cond (Nat.beq n 43) 1613 0) (cond (Nat.blt n 45) (cond (Nat.beq n 44) 1617 0) (cond (Nat.beq n 45) 1677 0)))))
def zSl_46_10 : Nat → Nat := fun n => (cond (Nat.blt n 51) (cond (Nat.blt n 48) (cond (Nat.blt n 47) (cond (Nat.beq n 46) 1681 0) (cond (Nat.beq n 47) 1741 0)) (cond (Nat.blt n 49) (cond (Nat.beq n 48) 1745 0) (cond (Nat.blt n 50) (cond (Nat.beq n 49) 1805 0) (cond (Nat.beq n 50) 1809 0)))) (cond (Nat.blt n 53) (cond (Nat.blt n 52) (cond (Nat.beq n 51) 1869 0) (cond (Nat.beq n 52) 1913 0)) (cond (Nat.blt n 54) (cond (Nat.beq n 53) 1979 0) (cond (Nat.blt n 55) (cond (Nat.beq n 54) 2019 0) (cond (Nat.beq n 55) 2059 0)))))
def zSl_37_19 : Nat → Nat := fun n => (cond (Nat.blt n 46) (zSl_37_9 n) (zSl_46_10 n))
def zSl_56_9 : Nat → Nat := fun n => (cond (Nat.blt n 60) (cond (Nat.blt n 58) (cond (Nat.blt n 57) (cond (Nat.beq n 56) 2099 0) (cond (Nat.beq n 57) 2107 0)) (cond (Nat.blt n 59) (cond (Nat.beq n 58) 2227 0) (cond (Nat.beq n 59) 2347 0))) (cond (Nat.blt n 62) (cond (Nat.blt n 61) (cond (Nat.beq n 60) 2353 0) (cond (Nat.beq n 61) 2361 0)) (cond (Nat.blt n 63) (cond (Nat.beq n 62) 2369 0) (cond (Nat.blt n 64) (cond (Nat.beq n 63) 2625 0) (cond (Nat.beq n 64) 2689 0)))))
def zSl_65_10 : Nat → Nat := fun n => (cond (Nat.blt n 70) (cond (Nat.blt n 67) (cond (Nat.blt n 66) (cond (Nat.beq n 65) 2694 0) (cond (Nat.beq n 66) 2702 0)) (cond (Nat.blt n 68) (cond (Nat.beq n 67) 2710 0) (cond (Nat.blt n 69) (cond (Nat.beq n 68) 2715 0) (cond (Nat.beq n 69) 2765 0)))) (cond (Nat.blt n 72) (cond (Nat.blt n 71) (cond (Nat.beq n 70) 2789 0) (cond (Nat.beq n 71) 2795 0)) (cond (Nat.blt n 73) (cond (Nat.beq n 72) 2801 0) (cond (Nat.blt n 74) (cond (Nat.beq n 73) 3161 0) (cond (Nat.beq n 74) 3221 0)))))
def zSl_56_19 : Nat → Nat := fun n => (cond (Nat.blt n 65) (zSl_56_9 n) (zSl_65_10 n))
def zSl_37_38 : Nat → Nat := fun n => (cond (Nat.blt n 56) (zSl_37_19 n) (zSl_56_19 n))
def zSl : Nat → Nat := fun n => (cond (Nat.blt n 37) (zSl_0_37 n) (zSl_37_38 n))
/-! ===== the static arrays ===== -/
def zsN : Nat → Nat := fun n => (cond (Nat.blt n 2) (cond (Nat.blt n 1) (cond (Nat.beq n 0) 10 0) (cond (Nat.beq n 1) 10 0)) (cond (Nat.blt n 3) (cond (Nat.beq n 2) 9 0) (cond (Nat.beq n 3) 36 0)))
def zsf : Nat → Nat → Int32 := fun k j => (cond (Nat.blt k 2) (cond (Nat.blt k 1) (cond (Nat.beq k 0) ((cond (Nat.blt j 5) (cond (Nat.blt j 2) (cond (Nat.blt j 1) (cond (Nat.beq j 0) (0 : Int32) (0 : Int32)) (cond (Nat.beq j 1) (1 : Int32) (0 : Int32))) (cond (Nat.blt j 3) (cond (Nat.beq j 2) (-1 : Int32) (0 : Int32)) (cond (Nat.blt j 4) (cond (Nat.beq j 3) (0 : Int32) (0 : Int32)) (cond (Nat.beq j 4) (0 : Int32) (0 : Int32))))) (cond (Nat.blt j 7) (cond (Nat.blt j 6) (cond (Nat.beq j 5) (0 : Int32) (0 : Int32)) (cond (Nat.beq j 6) (0 : Int32) (0 : Int32))) (cond (Nat.blt j 8) (cond (Nat.beq j 7) (0 : Int32) (0 : Int32)) (cond (Nat.blt j 9) (cond (Nat.beq j 8) (0 : Int32) (0 : Int32)) (cond (Nat.beq j 9) (0 : Int32) (0 : Int32))))))) (0 : Int32)) (cond (Nat.beq k 1) ((cond (Nat.blt j 5) (cond (Nat.blt j 2) (cond (Nat.blt j 1) (cond (Nat.beq j 0) (99 : Int32) (0 : Int32)) (cond (Nat.beq j 1) (99 : Int32) (0 : Int32))) (cond (Nat.blt j 3) (cond (Nat.beq j 2) (15 : Int32) (0 : Int32)) (cond (Nat.blt j 4) (cond (Nat.beq j 3) (7 : Int32) (0 : Int32)) (cond (Nat.beq j 4) (255 : Int32) (0 : Int32))))) (cond (Nat.blt j 7) (cond (Nat.blt j 6) (cond (Nat.beq j 5) (9 : Int32) (0 : Int32)) (cond (Nat.beq j 6) (9 : Int32) (0 : Int32))) (cond (Nat.blt j 8) (cond (Nat.beq j 7) (999 : Int32) (0 : Int32)) (cond (Nat.blt j 9) (cond (Nat.beq j 8) (99 : Int32) (0 : Int32)) (cond (Nat.beq j 9) (99 : Int32) (0 : Int32))))))) (0 : Int32))) (cond (Nat.blt k 3) (cond (Nat.beq k 2) ((cond (Nat.blt j 4) (cond (Nat.blt j 2) (cond (Nat.blt j 1) (cond (Nat.beq j 0) (8 : Int32) (0 : Int32)) (cond (Nat.beq j 1) (0 : Int32) (0 : Int32))) (cond (Nat.blt j 3) (cond (Nat.beq j 2) (0 : Int32) (0 : Int32)) (cond (Nat.beq j 3) (2 : Int32) (0 : Int32)))) (cond (Nat.blt j 6) (cond (Nat.blt j 5) (cond (Nat.beq j 4) (1 : Int32) (0 : Int32)) (cond (Nat.beq j 5) (3 : Int32) (0 : Int32))) (cond (Nat.blt j 7) (cond (Nat.beq j 6) (0 : Int32) (0 : Int32)) (cond (Nat.blt j 8) (cond (Nat.beq j 7) (4 : Int32) (0 : Int32)) (cond (Nat.beq j 8) (-1 : Int32) (0 : Int32))))))) (0 : Int32)) (cond (Nat.beq k 3) ((cond (Nat.blt j 18) (cond (Nat.blt j 9) (cond (Nat.blt j 4) (cond (Nat.blt j 2) (cond (Nat.blt j 1) (cond (Nat.beq j 0) (0 : Int32) (0 : Int32)) (cond (Nat.beq j 1) (10 : Int32) (0 : Int32))) (cond (Nat.blt j 3) (cond (Nat.beq j 2) (11 : Int32) (0 : Int32)) (cond (Nat.beq j 3) (0 : Int32) (0 : Int32)))) (cond (Nat.blt j 6) (cond (Nat.blt j 5) (cond (Nat.beq j 4) (20 : Int32) (0 : Int32)) (cond (Nat.beq j 5) (0 : Int32) (0 : Int32))) (cond (Nat.blt j 7) (cond (Nat.beq j 6) (0 : Int32) (0 : Int32)) (cond (Nat.blt j 8) (cond (Nat.beq j 7) (0 : Int32) (0 : Int32)) (cond (Nat.beq j 8) (0 : Int32) (0 : Int32)))))) (cond (Nat.blt j 13) (cond (Nat.blt j 11) (cond (Nat.blt j 10) (cond (Nat.beq j 9) (30 : Int32) (0 : Int32)) (cond (Nat.beq j 10) (0 : Int32) (0 : Int32))) (cond (Nat.blt j 12) (cond (Nat.beq j 11) (0 : Int32) (0 : Int32)) (cond (Nat.beq j 12) (0 : Int32) (0 : Int32)))) (cond (Nat.blt j 15) (cond (Nat.blt j 14) (cond (Nat.beq j 13) (41 : Int32) (0 : Int32)) (cond (Nat.beq j 14) (40 : Int32) (0 : Int32))) (cond (Nat.blt j 16) (cond (Nat.beq j 15) (0 : Int32) (0 : Int32)) (cond (Nat.blt j 17) (cond (Nat.beq j 16) (0 : Int32) (0 : Int32)) (cond (Nat.beq j 17) (0 : Int32) (0 : Int32))))))) (cond (Nat.blt j 27) (cond (Nat.blt j 22) (cond (Nat.blt j 20) (cond (Nat.blt j 19) (cond (Nat.beq j 18) (50 : Int32) (0 : Int32)) (cond (Nat.beq j 19) (0 : Int32) (0 : Int32))) (cond (Nat.blt j 21) (cond (Nat.beq j 20) (0 : Int32) (0 : Int32)) (cond (Nat.beq j 21) (0 : Int32) (0 : Int32)))) (cond (Nat.blt j 24) (cond (Nat.blt j 23) (cond (Nat.beq j 22) (0 : Int32) (0 : Int32)) (cond (Nat.beq j 23) (60 : Int32) (0 : Int32))) (cond (Nat.blt j 25) (cond (Nat.beq j 24) (70 : Int32) (0 : Int32)) (cond (Nat.blt j 26) (cond (Nat.beq j 25) (0 : Int32) (0 : Int32)) (cond (Nat.beq j 26) (0 : Int32) (0 : Int32)))))) (cond (Nat.blt j 31) (cond (Nat.blt j 29) (cond (Nat.blt j 28) (cond (Nat.beq j 27) (0 : Int32) (0 : Int32)) (cond (Nat.beq j 28) (0 : Int32) (0 : Int32))) (cond (Nat.blt j 30) (cond (Nat.beq j 29) (80 : Int32) (0 : Int32)) (cond (Nat.beq j 30) (0 : Int32) (0 : Int32)))) (cond (Nat.blt j 33) (cond (Nat.blt j 32) (cond (Nat.beq j 31) (81 : Int32) (0 : Int32)) (cond (Nat.beq j 32) (1 : Int32) (0 : Int32))) (cond (Nat.blt j 34) (cond (Nat.beq j 33) (0 : Int32) (0 : Int32)) (cond (Nat.blt j 35) (cond (Nat.beq j 34) (0 : Int32) (0 : Int32)) (cond (Nat.beq j 35) (2 : Int32) (0 : Int32))))))))) (0 : Int32))))
def zsC : Nat → String := fun k => cond (Nat.blt k 2) "HereMiss$Pupils" "HereMiss$Voices"
def zsn : Nat → String := fun k => cond (Nat.blt k 2) (cond (Nat.blt k 1) "LEAST" "MOST") (cond (Nat.blt k 3) "ABOVE" "BODIES")
/-! ===== the methods ===== -/
abbrev zm_X0_init : Nat := 0
def zy0 : MethodName := ⟨zR0, "<init>", "(LHereMiss$Pupils;LHereMiss$Law;)V"⟩
abbrev zm_X0_inLessonByWay : Nat := 1
def zy1 : MethodName := ⟨zR0, "inLessonByWay", "(III)V"⟩
abbrev zm_X0_load : Nat := 2
def zy2 : MethodName := ⟨zR0, "load", "(I)V"⟩
abbrev zm_X0_lineUp : Nat := 3
def zy3 : MethodName := ⟨zR0, "lineUp", "(I)V"⟩
abbrev zm_X0_inLesson : Nat := 4
def zy4 : MethodName := ⟨zR0, "inLesson", "(I)V"⟩
abbrev zm_X0_withOnly : Nat := 5
def zy5 : MethodName := ⟨zR0, "withOnly", "(I)V"⟩
abbrev zm_X0_make : Nat := 6
def zy6 : MethodName := ⟨zR0, "make", "(I)V"⟩
abbrev zm_X0_nameComes : Nat := 7
def zy7 : MethodName := ⟨zR0, "nameComes", "(II)V"⟩
abbrev zm_X0_isThere : Nat := 8
def zy8 : MethodName := ⟨zR0, "isThere", "(II)Z"⟩
abbrev zm_X0_helperOf : Nat := 9
def zy9 : MethodName := ⟨zR0, "helperOf", "(I)I"⟩
abbrev zm_X0_missed : Nat := 10
def zy10 : MethodName := ⟨zR0, "missed", "()I"⟩
abbrev zm_X0_howManyThere : Nat := 11
def zy11 : MethodName := ⟨zR0, "howManyThere", "(I)I"⟩
abbrev zm_X1_init : Nat := 12
def zy12 : MethodName := ⟨zR1, "<init>", "(LHereMiss$Pupils;)V"⟩
abbrev zm_X1_add : Nat := 13
def zy13 : MethodName := ⟨zR1, "add", "(IIII)V"⟩
abbrev zm_X1_forgetFirst : Nat := 14
def zy14 : MethodName := ⟨zR1, "forgetFirst", "([I)V"⟩
abbrev zm_X1_takeBack : Nat := 15
def zy15 : MethodName := ⟨zR1, "takeBack", "()I"⟩
abbrev zm_X1_doAgain : Nat := 16
def zy16 : MethodName := ⟨zR1, "doAgain", "()I"⟩
abbrev zm_X2_init : Nat := 17
def zy17 : MethodName := ⟨zR2, "<init>", "(LHereMiss$Pupils;)V"⟩
abbrev zm_X2_marksOf : Nat := 18
def zy18 : MethodName := ⟨zR2, "marksOf", "(I)I"⟩
abbrev zm_X2_told : Nat := 19
def zy19 : MethodName := ⟨zR2, "told", "(I)I"⟩
abbrev zm_X2_note : Nat := 20
def zy20 : MethodName := ⟨zR2, "note", "(LHereMiss$Call;)V"⟩
abbrev zm_X2_makeMeek : Nat := 21
def zy21 : MethodName := ⟨zR2, "makeMeek", "(I)I"⟩
abbrev zm_X2_keepImage : Nat := 22
def zy22 : MethodName := ⟨zR2, "keepImage", "()I"⟩
abbrev zm_X2_layBack : Nat := 23
def zy23 : MethodName := ⟨zR2, "layBack", "()I"⟩
abbrev zm_X3_init : Nat := 24
def zy24 : MethodName := ⟨zR3, "<init>", "(LHereMiss$Pupils;)V"⟩
abbrev zm_X3_isName : Nat := 25
def zy25 : MethodName := ⟨zR3, "isName", "(I)Z"⟩
abbrev zm_X3_take : Nat := 26
def zy26 : MethodName := ⟨zR3, "take", "(LHereMiss$Tape;)V"⟩
abbrev zm_X3_load : Nat := 27
def zy27 : MethodName := ⟨zR3, "load", "()V"⟩
abbrev zm_X3_tenths : Nat := 28
def zy28 : MethodName := ⟨zR3, "tenths", "(IIIII)I"⟩
abbrev zm_X3_withoutText : Nat := 29
def zy29 : MethodName := ⟨zR3, "withoutText", "()I"⟩
abbrev zm_X3_byText : Nat := 30
def zy30 : MethodName := ⟨zR3, "byText", "()I"⟩
abbrev zm_X3_lay : Nat := 31
def zy31 : MethodName := ⟨zR3, "lay", "(II)I"⟩
abbrev zm_X3_named : Nat := 32
def zy32 : MethodName := ⟨zR3, "named", "(I)I"⟩
abbrev zm_X3_workedOut : Nat := 33
def zy33 : MethodName := ⟨zR3, "workedOut", "(III)I"⟩
abbrev zm_X4_init : Nat := 34
def zy34 : MethodName := ⟨zR4, "<init>", "()V"⟩
abbrev zm_X4_fits : Nat := 35
def zy35 : MethodName := ⟨zR4, "fits", "(II)Z"⟩
abbrev zm_X4_add : Nat := 36
def zy36 : MethodName := ⟨zR4, "add", "(III)I"⟩
abbrev zm_X4_isOne : Nat := 37
def zy37 : MethodName := ⟨zR4, "isOne", "(I)Z"⟩
abbrev zm_X4_has : Nat := 38
def zy38 : MethodName := ⟨zR4, "has", "(II)Z"⟩
abbrev zm_X4_get : Nat := 39
def zy39 : MethodName := ⟨zR4, "get", "(II)I"⟩
abbrev zm_X4_set : Nat := 40
def zy40 : MethodName := ⟨zR4, "set", "(III)V"⟩
abbrev zm_X4_slot : Nat := 41
def zy41 : MethodName := ⟨zR4, "slot", "(II)I"⟩
abbrev zm_X4_isHere : Nat := 42
def zy42 : MethodName := ⟨zR4, "isHere", "(II)Z"⟩
abbrev zm_X4_rank : Nat := 43
def zy43 : MethodName := ⟨zR4, "rank", "(II)I"⟩
abbrev zm_X5_init : Nat := 44
def zy44 : MethodName := ⟨zR5, "<init>", "(LHereMiss$Call;)V"⟩
abbrev zm_X5_firstWrong : Nat := 45
def zy45 : MethodName := ⟨zR5, "firstWrong", "(LHereMiss$Shelf;)I"⟩
abbrev zm_X5_ifNotBold : Nat := 46
def zy46 : MethodName := ⟨zR5, "ifNotBold", "(LHereMiss$Shelf;I)I"⟩
abbrev zm_X5_leastBold : Nat := 47
def zy47 : MethodName := ⟨zR5, "leastBold", "(LHereMiss$Shelf;I)I"⟩
abbrev zm_X5_setsOfFriends : Nat := 48
def zy48 : MethodName := ⟨zR5, "setsOfFriends", "(LHereMiss$Shelf;II)I"⟩
abbrev zm_X6_init : Nat := 49
def zy49 : MethodName := ⟨zR6, "<init>", "()V"⟩
abbrev zm_X6_isEmpty : Nat := 50
def zy50 : MethodName := ⟨zR6, "isEmpty", "()Z"⟩
abbrev zm_X6_isRow : Nat := 51
def zy51 : MethodName := ⟨zR6, "isRow", "()Z"⟩
abbrev zm_X6_isRowOf : Nat := 52
def zy52 : MethodName := ⟨zR6, "isRowOf", "(I)Z"⟩
abbrev zm_X6_holdVoice : Nat := 53
def zy53 : MethodName := ⟨zR6, "holdVoice", "(I)V"⟩
abbrev zm_X6_holdRow : Nat := 54
def zy54 : MethodName := ⟨zR6, "holdRow", "(II)V"⟩
abbrev zm_X6_has : Nat := 55
def zy55 : MethodName := ⟨zR6, "has", "(II)Z"⟩
abbrev zm_X6_refusalAsRowOf : Nat := 56
def zy56 : MethodName := ⟨zR6, "refusalAsRowOf", "(I)I"⟩
abbrev zm_X6_refusalAt : Nat := 57
def zy57 : MethodName := ⟨zR6, "refusalAt", "(I)I"⟩
abbrev zm_X6_get : Nat := 58
def zy58 : MethodName := ⟨zR6, "get", "(I)J"⟩
abbrev zm_X6_set : Nat := 59
def zy59 : MethodName := ⟨zR6, "set", "(IJ)V"⟩
abbrev zm_X6_lowestBits : Nat := 60
def zy60 : MethodName := ⟨zR6, "lowestBits", "(J)J"⟩
abbrev zm_X7_init : Nat := 61
def zy61 : MethodName := ⟨zR7, "<init>", "()V"⟩
abbrev zm_X7_add : Nat := 62
def zy62 : MethodName := ⟨zR7, "add", "(I)I"⟩
abbrev zm_X7_wipe : Nat := 63
def zy63 : MethodName := ⟨zR7, "wipe", "()V"⟩
abbrev zm_X7_read : Nat := 64
def zy64 : MethodName := ⟨zR7, "read", "()I"⟩
abbrev zm_X7_letter : Nat := 65
def zy65 : MethodName := ⟨zR7, "letter", "()I"⟩
abbrev zm_X7_skip : Nat := 66
def zy66 : MethodName := ⟨zR7, "skip", "(I)Z"⟩
abbrev zm_X7_emit : Nat := 67
def zy67 : MethodName := ⟨zR7, "emit", "(I)V"⟩
abbrev zm_X7_line : Nat := 68
def zy68 : MethodName := ⟨zR7, "line", "()Z"⟩
abbrev zm_X7_bond : Nat := 69
def zy69 : MethodName := ⟨zR7, "bond", "(I)I"⟩
abbrev zm_X7_part : Nat := 70
def zy70 : MethodName := ⟨zR7, "part", "(II)Z"⟩
abbrev zm_X7_operand : Nat := 71
def zy71 : MethodName := ⟨zR7, "operand", "(I)Z"⟩
abbrev zm_X7_isDigit : Nat := 72
def zy72 : MethodName := ⟨zR7, "isDigit", "(I)Z"⟩
abbrev zm_X7_number : Nat := 73
def zy73 : MethodName := ⟨zR7, "number", "()V"⟩
abbrev zm_X8_init : Nat := 74
def zy74 : MethodName := ⟨zR8, "<init>", "(LHereMiss$Pupils;LHereMiss$Call;)V"⟩
abbrev zm_X8_everybody : Nat := 75
def zy75 : MethodName := ⟨zR8, "everybody", "()I"⟩
abbrev zm_X8_wayWithFewest : Nat := 76
def zy76 : MethodName := ⟨zR8, "wayWithFewest", "(II)I"⟩
abbrev zm_X8_fewestLooks : Nat := 77
def zy77 : MethodName := ⟨zR8, "fewestLooks", "(III)I"⟩
abbrev zm_X8_oneMoreLook : Nat := 78
def zy78 : MethodName := ⟨zR8, "oneMoreLook", "(II)I"⟩
abbrev zm_X8_findSets : Nat := 79
def zy79 : MethodName := ⟨zR8, "findSets", "(III)V"⟩
abbrev zm_X8_addSet : Nat := 80
def zy80 : MethodName := ⟨zR8, "addSet", "(I)V"⟩
abbrev zm_X8_inNoSet : Nat := 81
def zy81 : MethodName := ⟨zR8, "inNoSet", "()I"⟩
abbrev zm_X8_evenestSplit : Nat := 82
def zy82 : MethodName := ⟨zR8, "evenestSplit", "()I"⟩
abbrev zm_X8_greatestLate : Nat := 83
def zy83 : MethodName := ⟨zR8, "greatestLate", "(III)I"⟩
abbrev zm_X8_wholeDay : Nat := 84
def zy84 : MethodName := ⟨zR8, "wholeDay", "(IIZ)I"⟩
abbrev zm_X8_mostAnsweringPair : Nat := 85
def zy85 : MethodName := ⟨zR8, "mostAnsweringPair", "(II)I"⟩
abbrev zm_X8_addPairs : Nat := 86
def zy86 : MethodName := ⟨zR8, "addPairs", "()V"⟩
abbrev zm_X8_mornings : Nat := 87
def zy87 : MethodName := ⟨zR8, "mornings", "(IIIZ)I"⟩
abbrev zm_X9_init : Nat := 88
def zy88 : MethodName := ⟨zR9, "<init>", "()V"⟩
abbrev zm_X9_add : Nat := 89
def zy89 : MethodName := ⟨zR9, "add", "(I)I"⟩
abbrev zm_X9_isOne : Nat := 90
def zy90 : MethodName := ⟨zR9, "isOne", "(I)Z"⟩
abbrev zm_X9_kindOf : Nat := 91
def zy91 : MethodName := ⟨zR9, "kindOf", "(I)I"⟩
abbrev zm_X9_isUnder : Nat := 92
def zy92 : MethodName := ⟨zR9, "isUnder", "(II)Z"⟩
abbrev zm_X9_ranAt : Nat := 93
def zy93 : MethodName := ⟨zR9, "ranAt", "(I)I"⟩
abbrev zm_X9_perform : Nat := 94
def zy94 : MethodName := ⟨zR9, "perform", "(III)I"⟩
abbrev zm_X9_whoseBody : Nat := 95
def zy95 : MethodName := ⟨zR9, "whoseBody", "(II)I"⟩
abbrev zm_X9_note : Nat := 96
def zy96 : MethodName := ⟨zR9, "note", "(I)V"⟩
abbrev zm_X9_run : Nat := 97
def zy97 : MethodName := ⟨zR9, "run", "(IIII)I"⟩
abbrev zm_X10_init : Nat := 98
def zy98 : MethodName := ⟨zR10, "<init>", "()V"⟩
abbrev zm_X10_pupil : Nat := 99
def zy99 : MethodName := ⟨zR10, "pupil", "(II)I"⟩
abbrev zm_X10_pupils : Nat := 100
def zy100 : MethodName := ⟨zR10, "pupils", "(III)I"⟩
abbrev zm_X10_mend : Nat := 101
def zy101 : MethodName := ⟨zR10, "mend", "(III)I"⟩
abbrev zm_X10_of : Nat := 102
def zy102 : MethodName := ⟨zR10, "of", "(II)I"⟩
abbrev zm_X10_feed : Nat := 103
def zy103 : MethodName := ⟨zR10, "feed", "(I)I"⟩
abbrev zm_X10_law : Nat := 104
def zy104 : MethodName := ⟨zR10, "law", "()I"⟩
abbrev zm_X10_called : Nat := 105
def zy105 : MethodName := ⟨zR10, "called", "(III)I"⟩
abbrev zm_X10_answers : Nat := 106
def zy106 : MethodName := ⟨zR10, "answers", "(III)I"⟩
abbrev zm_X10_bestWay : Nat := 107
def zy107 : MethodName := ⟨zR10, "bestWay", "(II)I"⟩
abbrev zm_X10_enough : Nat := 108
def zy108 : MethodName := ⟨zR10, "enough", "(II)I"⟩
abbrev zm_X10_next : Nat := 109
def zy109 : MethodName := ⟨zR10, "next", "(III)I"⟩
abbrev zm_X10_heads : Nat := 110
def zy110 : MethodName := ⟨zR10, "heads", "(II)I"⟩
abbrev zm_X10_absent : Nat := 111
def zy111 : MethodName := ⟨zR10, "absent", "(III)I"⟩
abbrev zm_X10_ask : Nat := 112
def zy112 : MethodName := ⟨zR10, "ask", "(II)I"⟩
abbrev zm_X10_inTime : Nat := 113
def zy113 : MethodName := ⟨zR10, "inTime", "(II)I"⟩
abbrev zm_X10_fire : Nat := 114
def zy114 : MethodName := ⟨zR10, "fire", "(II)I"⟩
abbrev zm_X10_day : Nat := 115
def zy115 : MethodName := ⟨zR10, "day", "(III)I"⟩
abbrev zm_X10_order : Nat := 116
def zy116 : MethodName := ⟨zR10, "order", "(II)I"⟩
abbrev zm_X10_judge : Nat := 117
def zy117 : MethodName := ⟨zR10, "judge", "(II)I"⟩
abbrev zm_X10_who : Nat := 118
def zy118 : MethodName := ⟨zR10, "who", "(II)I"⟩
abbrev zm_X10_howBold : Nat := 119
def zy119 : MethodName := ⟨zR10, "howBold", "(III)I"⟩
abbrev zm_X10_forWhom : Nat := 120
def zy120 : MethodName := ⟨zR10, "forWhom", "(IIII)I"⟩
abbrev zm_X10_partners : Nat := 121
def zy121 : MethodName := ⟨zR10, "partners", "(II)I"⟩
abbrev zm_X10_drawn : Nat := 122
def zy122 : MethodName := ⟨zR10, "drawn", "(IIII)I"⟩
abbrev zm_X10_call : Nat := 123
def zy123 : MethodName := ⟨zR10, "call", "(II)I"⟩
abbrev zm_X10_punish : Nat := 124
def zy124 : MethodName := ⟨zR10, "punish", "(I)I"⟩
abbrev zm_X10_led : Nat := 125
def zy125 : MethodName := ⟨zR10, "led", "(I)I"⟩
abbrev zm_X10_image : Nat := 126
def zy126 : MethodName := ⟨zR10, "image", "()I"⟩
abbrev zm_X10_back : Nat := 127
def zy127 : MethodName := ⟨zR10, "back", "()I"⟩
abbrev zm_X10_undo : Nat := 128
def zy128 : MethodName := ⟨zR10, "undo", "()I"⟩
abbrev zm_X10_redo : Nat := 129
def zy129 : MethodName := ⟨zR10, "redo", "()I"⟩
abbrev zm_X10_body : Nat := 130
def zy130 : MethodName := ⟨zR10, "body", "(I)I"⟩
abbrev zm_X10_act : Nat := 131
def zy131 : MethodName := ⟨zR10, "act", "(III)I"⟩
abbrev zm_X10_trace : Nat := 132
def zy132 : MethodName := ⟨zR10, "trace", "(I)I"⟩
abbrev zm_X10_keep : Nat := 133
def zy133 : MethodName := ⟨zR10, "keep", "(II)I"⟩
abbrev zm_X10_row : Nat := 134
def zy134 : MethodName := ⟨zR10, "row", "(III)I"⟩
abbrev zm_X10_put : Nat := 135
def zy135 : MethodName := ⟨zR10, "put", "(IIJ)I"⟩
abbrev zm_X10_element : Nat := 136
def zy136 : MethodName := ⟨zR10, "element", "(II)J"⟩
abbrev zm_X10_shift : Nat := 137
def zy137 : MethodName := ⟨zR10, "shift", "(IIIII)I"⟩
abbrev zm_X10_taken : Nat := 138
def zy138 : MethodName := ⟨zR10, "taken", "(II)I"⟩
abbrev zm_X10_count : Nat := 139
def zy139 : MethodName := ⟨zR10, "count", "(I)I"⟩
abbrev zm_X10_within : Nat := 140
def zy140 : MethodName := ⟨zR10, "within", "(III)Z"⟩
abbrev zm_X10_isLesson : Nat := 141
def zy141 : MethodName := ⟨zR10, "isLesson", "(I)Z"⟩
abbrev zm_X10_isWay : Nat := 142
def zy142 : MethodName := ⟨zR10, "isWay", "(I)Z"⟩
abbrev zm_X10_isLessonAndWay : Nat := 143
def zy143 : MethodName := ⟨zR10, "isLessonAndWay", "(I)Z"⟩
abbrev zm_X10_isBits : Nat := 144
def zy144 : MethodName := ⟨zR10, "isBits", "(I)Z"⟩
abbrev zm_X10_isShelf : Nat := 145
def zy145 : MethodName := ⟨zR10, "isShelf", "(I)Z"⟩
abbrev zm_X10_registerRefusal : Nat := 146
def zy146 : MethodName := ⟨zR10, "registerRefusal", "(IIZ)I"⟩
abbrev zm_X10_holds : Nat := 147
def zy147 : MethodName := ⟨zR10, "holds", "(II)Z"⟩
abbrev zm_X10_comesFrom : Nat := 148
def zy148 : MethodName := ⟨zR10, "comesFrom", "(LHereMiss$Shelf;I)Z"⟩
abbrev zm_X11_within : Nat := 149
def zy149 : MethodName := ⟨zR11, "within", "(JJJ)Z"⟩
abbrev zm_X11_bitsOf : Nat := 150
def zy150 : MethodName := ⟨zR11, "bitsOf", "(I)I"⟩
abbrev zm_X11_isIn : Nat := 151
def zy151 : MethodName := ⟨zR11, "isIn", "(II)Z"⟩
abbrev zm_X11_init : Nat := 152
def zy152 : MethodName := ⟨zR11, "<init>", "()V"⟩
abbrev zm_X11_becomes : Nat := 153
def zy153 : MethodName := ⟨zR11, "becomes", "(II)I"⟩
abbrev zm_X11_undo : Nat := 154
def zy154 : MethodName := ⟨zR11, "undo", "()I"⟩
abbrev zm_X11_redo : Nat := 155
def zy155 : MethodName := ⟨zR11, "redo", "()I"⟩
abbrev zm_X11_isPupil : Nat := 156
def zy156 : MethodName := ⟨zR11, "isPupil", "(J)Z"⟩
abbrev zm_X11_ofPupil : Nat := 157
def zy157 : MethodName := ⟨zR11, "ofPupil", "(II)I"⟩
abbrev zm_X11_mayCome : Nat := 158
def zy158 : MethodName := ⟨zR11, "mayCome", "(JJJ)Z"⟩
abbrev zm_X11_adds : Nat := 159
def zy159 : MethodName := ⟨zR11, "adds", "(III)V"⟩
abbrev zm_X11_pupil : Nat := 160
def zy160 : MethodName := ⟨zR11, "pupil", "(II)I"⟩
abbrev zm_X11_pupils : Nat := 161
def zy161 : MethodName := ⟨zR11, "pupils", "(III)I"⟩
abbrev zm_X11_placeOf : Nat := 162
def zy162 : MethodName := ⟨zR11, "placeOf", "(II)I"⟩
abbrev zm_X11_mayBecome : Nat := 163
def zy163 : MethodName := ⟨zR11, "mayBecome", "(II)Z"⟩
abbrev zm_X11_mend : Nat := 164
def zy164 : MethodName := ⟨zR11, "mend", "(III)I"⟩
abbrev zm_X11_of : Nat := 165
def zy165 : MethodName := ⟨zR11, "of", "(II)I"⟩
abbrev zm_X11_feed : Nat := 166
def zy166 : MethodName := ⟨zR11, "feed", "(I)I"⟩
abbrev zm_X11_byteAt : Nat := 167
def zy167 : MethodName := ⟨zR11, "byteAt", "()I"⟩
abbrev zm_X11_wrong : Nat := 168
def zy168 : MethodName := ⟨zR11, "wrong", "()I"⟩
abbrev zm_X11_takes : Nat := 169
def zy169 : MethodName := ⟨zR11, "takes", "(I)Z"⟩
abbrev zm_X11_either : Nat := 170
def zy170 : MethodName := ⟨zR11, "either", "()I"⟩
abbrev zm_X11_both : Nat := 171
def zy171 : MethodName := ⟨zR11, "both", "()I"⟩
abbrev zm_X11_compared : Nat := 172
def zy172 : MethodName := ⟨zR11, "compared", "()I"⟩
abbrev zm_X11_sums : Nat := 173
def zy173 : MethodName := ⟨zR11, "sums", "()I"⟩
abbrev zm_X11_product : Nat := 174
def zy174 : MethodName := ⟨zR11, "product", "()I"⟩
abbrev zm_X11_nameOf : Nat := 175
def zy175 : MethodName := ⟨zR11, "nameOf", "(I)I"⟩
abbrev zm_X11_one : Nat := 176
def zy176 : MethodName := ⟨zR11, "one", "()I"⟩
abbrev zm_X11_workOut : Nat := 177
def zy177 : MethodName := ⟨zR11, "workOut", "(II)I"⟩
abbrev zm_X11_law : Nat := 178
def zy178 : MethodName := ⟨zR11, "law", "()I"⟩
abbrev zm_X11_nameTakes : Nat := 179
def zy179 : MethodName := ⟨zR11, "nameTakes", "(IZIIZ)I"⟩
abbrev zm_X11_isWay : Nat := 180
def zy180 : MethodName := ⟨zR11, "isWay", "(I)Z"⟩
abbrev zm_X11_isLesson : Nat := 181
def zy181 : MethodName := ⟨zR11, "isLesson", "(J)Z"⟩
abbrev zm_X11_isTw : Nat := 182
def zy182 : MethodName := ⟨zR11, "isTw", "(I)Z"⟩
abbrev zm_X11_isSet : Nat := 183
def zy183 : MethodName := ⟨zR11, "isSet", "(I)Z"⟩
abbrev zm_X11_keyOf : Nat := 184
def zy184 : MethodName := ⟨zR11, "keyOf", "(II)I"⟩
abbrev zm_X11_orderAt : Nat := 185
def zy185 : MethodName := ⟨zR11, "orderAt", "(II)I"⟩
abbrev zm_X11_isHere : Nat := 186
def zy186 : MethodName := ⟨zR11, "isHere", "(II)Z"⟩
abbrev zm_X11_isThere : Nat := 187
def zy187 : MethodName := ⟨zR11, "isThere", "(III)Z"⟩
abbrev zm_X11_whoWould : Nat := 188
def zy188 : MethodName := ⟨zR11, "whoWould", "(II)I"⟩
abbrev zm_X11_calls : Nat := 189
def zy189 : MethodName := ⟨zR11, "calls", "(III)V"⟩
abbrev zm_X11_missedIn : Nat := 190
def zy190 : MethodName := ⟨zR11, "missedIn", "(I)I"⟩
abbrev zm_X11_called : Nat := 191
def zy191 : MethodName := ⟨zR11, "called", "(III)I"⟩
abbrev zm_X11_answers : Nat := 192
def zy192 : MethodName := ⟨zR11, "answers", "(III)I"⟩
abbrev zm_X11_bestWay : Nat := 193
def zy193 : MethodName := ⟨zR11, "bestWay", "(II)I"⟩
abbrev zm_X11_enough : Nat := 194
def zy194 : MethodName := ⟨zR11, "enough", "(II)I"⟩
abbrev zm_X11_next : Nat := 195
def zy195 : MethodName := ⟨zR11, "next", "(III)I"⟩
abbrev zm_X11_heads : Nat := 196
def zy196 : MethodName := ⟨zR11, "heads", "(II)I"⟩
abbrev zm_X11_isWm : Nat := 197
def zy197 : MethodName := ⟨zR11, "isWm", "(I)Z"⟩
abbrev zm_X11_fits : Nat := 198
def zy198 : MethodName := ⟨zR11, "fits", "(II)I"⟩
abbrev zm_X11_absent : Nat := 199
def zy199 : MethodName := ⟨zR11, "absent", "(III)I"⟩
abbrev zm_X11_ask : Nat := 200
def zy200 : MethodName := ⟨zR11, "ask", "(II)I"⟩
abbrev zm_X11_inTime : Nat := 201
def zy201 : MethodName := ⟨zR11, "inTime", "(II)I"⟩
abbrev zm_X11_fire : Nat := 202
def zy202 : MethodName := ⟨zR11, "fire", "(II)I"⟩
abbrev zm_X11_day : Nat := 203
def zy203 : MethodName := ⟨zR11, "day", "(III)I"⟩
abbrev zm_X11_order : Nat := 204
def zy204 : MethodName := ⟨zR11, "order", "(II)I"⟩
abbrev zm_X11_shortsIs : Nat := 205
def zy205 : MethodName := ⟨zR11, "shortsIs", "(I)I"⟩
abbrev zm_X11_firstFalse : Nat := 206
def zy206 : MethodName := ⟨zR11, "firstFalse", "(II)I"⟩
abbrev zm_X11_judge : Nat := 207
def zy207 : MethodName := ⟨zR11, "judge", "(II)I"⟩
abbrev zm_X11_who : Nat := 208
def zy208 : MethodName := ⟨zR11, "who", "(II)I"⟩
abbrev zm_X11_askedOf : Nat := 209
def zy209 : MethodName := ⟨zR11, "askedOf", "(III)I"⟩
abbrev zm_X11_howBold : Nat := 210
def zy210 : MethodName := ⟨zR11, "howBold", "(III)I"⟩
abbrev zm_X11_forWhom : Nat := 211
def zy211 : MethodName := ⟨zR11, "forWhom", "(IIII)I"⟩
abbrev zm_X11_partners : Nat := 212
def zy212 : MethodName := ⟨zR11, "partners", "(II)I"⟩
abbrev zm_X11_drawn : Nat := 213
def zy213 : MethodName := ⟨zR11, "drawn", "(IIII)I"⟩
abbrev zm_X11_call : Nat := 214
def zy214 : MethodName := ⟨zR11, "call", "(II)I"⟩
abbrev zm_X11_punish : Nat := 215
def zy215 : MethodName := ⟨zR11, "punish", "(I)I"⟩
abbrev zm_X11_led : Nat := 216
def zy216 : MethodName := ⟨zR11, "led", "(I)I"⟩
abbrev zm_X11_image : Nat := 217
def zy217 : MethodName := ⟨zR11, "image", "()I"⟩
abbrev zm_X11_back : Nat := 218
def zy218 : MethodName := ⟨zR11, "back", "()I"⟩
abbrev zm_X11_isBody : Nat := 219
def zy219 : MethodName := ⟨zR11, "isBody", "(I)Z"⟩
abbrev zm_X11_kindOf : Nat := 220
def zy220 : MethodName := ⟨zR11, "kindOf", "(I)I"⟩
abbrev zm_X11_body : Nat := 221
def zy221 : MethodName := ⟨zR11, "body", "(I)I"⟩
abbrev zm_X11_above : Nat := 222
def zy222 : MethodName := ⟨zR11, "above", "(I)I"⟩
abbrev zm_X11_begins : Nat := 223
def zy223 : MethodName := ⟨zR11, "begins", "(I)V"⟩
abbrev zm_X11_saysAs : Nat := 224
def zy224 : MethodName := ⟨zR11, "saysAs", "(II)I"⟩
abbrev zm_X11_hearsAs : Nat := 225
def zy225 : MethodName := ⟨zR11, "hearsAs", "(II)I"⟩
abbrev zm_X11_marksAs : Nat := 226
def zy226 : MethodName := ⟨zR11, "marksAs", "(II)I"⟩
abbrev zm_X11_tellsAs : Nat := 227
def zy227 : MethodName := ⟨zR11, "tellsAs", "(II)I"⟩
abbrev zm_X11_act : Nat := 228
def zy228 : MethodName := ⟨zR11, "act", "(III)I"⟩
abbrev zm_X11_trace : Nat := 229
def zy229 : MethodName := ⟨zR11, "trace", "(I)I"⟩
abbrev zm_X11_isShelf : Nat := 230
def zy230 : MethodName := ⟨zR11, "isShelf", "(I)Z"⟩
abbrev zm_X11_keep : Nat := 231
def zy231 : MethodName := ⟨zR11, "keep", "(II)I"⟩
abbrev zm_X11_row : Nat := 232
def zy232 : MethodName := ⟨zR11, "row", "(III)I"⟩
abbrev zm_X11_refusal : Nat := 233
def zy233 : MethodName := ⟨zR11, "refusal", "(II)I"⟩
abbrev zm_X11_asSort : Nat := 234
def zy234 : MethodName := ⟨zR11, "asSort", "(IJ)J"⟩
abbrev zm_X11_put : Nat := 235
def zy235 : MethodName := ⟨zR11, "put", "(IIJ)I"⟩
abbrev zm_X11_element : Nat := 236
def zy236 : MethodName := ⟨zR11, "element", "(II)J"⟩
abbrev zm_X11_shift : Nat := 237
def zy237 : MethodName := ⟨zR11, "shift", "(IIIII)I"⟩
abbrev zm_X11_taken : Nat := 238
def zy238 : MethodName := ⟨zR11, "taken", "(II)I"⟩
abbrev zm_X11_count : Nat := 239
def zy239 : MethodName := ⟨zR11, "count", "(I)I"⟩
abbrev zm_J6_bitCount_0f7a4 : Nat := 240
def zy240 : MethodName := ⟨zR12, "bitCount", "(I)I"⟩
abbrev zm_J7_fill_d0a16 : Nat := 241
def zy241 : MethodName := ⟨zR13, "fill", "([JJ)V"⟩
abbrev zm_J7_fill_53178 : Nat := 242
def zy242 : MethodName := ⟨zR13, "fill", "([II)V"⟩
abbrev zm_L_law : Nat := 243
def zy243 : MethodName := ⟨zR16, "law", "([I)Z"⟩
def zmn_0_15 : Nat → MethodName := fun n => (cond (Nat.blt n 7) (cond (Nat.blt n 3) (cond (Nat.blt n 1) (cond (Nat.beq n 0) zy0 zy0) (cond (Nat.blt n 2) (cond (Nat.beq n 1) zy1 zy0) (cond (Nat.beq n 2) zy2 zy0))) (cond (Nat.blt n 5) (cond (Nat.blt n 4) (cond (Nat.beq n 3) zy3 zy0) (cond (Nat.beq n 4) zy4 zy0)) (cond (Nat.blt n 6) (cond (Nat.beq n 5) zy5 zy0) (cond (Nat.beq n 6) zy6 zy0)))) (cond (Nat.blt n 11) (cond (Nat.blt n 9) (cond (Nat.blt n 8) (cond (Nat.beq n 7) zy7 zy0) (cond (Nat.beq n 8) zy8 zy0)) (cond (Nat.blt n 10) (cond (Nat.beq n 9) zy9 zy0) (cond (Nat.beq n 10) zy10 zy0))) (cond (Nat.blt n 13) (cond (Nat.blt n 12) (cond (Nat.beq n 11) zy11 zy0) (cond (Nat.beq n 12) zy12 zy0)) (cond (Nat.blt n 14) (cond (Nat.beq n 13) zy13 zy0) (cond (Nat.beq n 14) zy14 zy0)))))
def zmn_15_15 : Nat → MethodName := fun n => (cond (Nat.blt n 22) (cond (Nat.blt n 18) (cond (Nat.blt n 16) (cond (Nat.beq n 15) zy15 zy0) (cond (Nat.blt n 17) (cond (Nat.beq n 16) zy16 zy0) (cond (Nat.beq n 17) zy17 zy0))) (cond (Nat.blt n 20) (cond (Nat.blt n 19) (cond (Nat.beq n 18) zy18 zy0) (cond (Nat.beq n 19) zy19 zy0)) (cond (Nat.blt n 21) (cond (Nat.beq n 20) zy20 zy0) (cond (Nat.beq n 21) zy21 zy0)))) (cond (Nat.blt n 26) (cond (Nat.blt n 24) (cond (Nat.blt n 23) (cond (Nat.beq n 22) zy22 zy0) (cond (Nat.beq n 23) zy23 zy0)) (cond (Nat.blt n 25) (cond (Nat.beq n 24) zy24 zy0) (cond (Nat.beq n 25) zy25 zy0))) (cond (Nat.blt n 28) (cond (Nat.blt n 27) (cond (Nat.beq n 26) zy26 zy0) (cond (Nat.beq n 27) zy27 zy0)) (cond (Nat.blt n 29) (cond (Nat.beq n 28) zy28 zy0) (cond (Nat.beq n 29) zy29 zy0)))))
def zmn_0_30 : Nat → MethodName := fun n => (cond (Nat.blt n 15) (zmn_0_15 n) (zmn_15_15 n))
def zmn_30_15 : Nat → MethodName := fun n => (cond (Nat.blt n 37) (cond (Nat.blt n 33) (cond (Nat.blt n 31) (cond (Nat.beq n 30) zy30 zy0) (cond (Nat.blt n 32) (cond (Nat.beq n 31) zy31 zy0) (cond (Nat.beq n 32) zy32 zy0))) (cond (Nat.blt n 35) (cond (Nat.blt n 34) (cond (Nat.beq n 33) zy33 zy0) (cond (Nat.beq n 34) zy34 zy0)) (cond (Nat.blt n 36) (cond (Nat.beq n 35) zy35 zy0) (cond (Nat.beq n 36) zy36 zy0)))) (cond (Nat.blt n 41) (cond (Nat.blt n 39) (cond (Nat.blt n 38) (cond (Nat.beq n 37) zy37 zy0) (cond (Nat.beq n 38) zy38 zy0)) (cond (Nat.blt n 40) (cond (Nat.beq n 39) zy39 zy0) (cond (Nat.beq n 40) zy40 zy0))) (cond (Nat.blt n 43) (cond (Nat.blt n 42) (cond (Nat.beq n 41) zy41 zy0) (cond (Nat.beq n 42) zy42 zy0)) (cond (Nat.blt n 44) (cond (Nat.beq n 43) zy43 zy0) (cond (Nat.beq n 44) zy44 zy0)))))
def zmn_45_16 : Nat → MethodName := fun n => (cond (Nat.blt n 53) (cond (Nat.blt n 49) (cond (Nat.blt n 47) (cond (Nat.blt n 46) (cond (Nat.beq n 45) zy45 zy0) (cond (Nat.beq n 46) zy46 zy0)) (cond (Nat.blt n 48) (cond (Nat.beq n 47) zy47 zy0) (cond (Nat.beq n 48) zy48 zy0))) (cond (Nat.blt n 51) (cond (Nat.blt n 50) (cond (Nat.beq n 49) zy49 zy0) (cond (Nat.beq n 50) zy50 zy0)) (cond (Nat.blt n 52) (cond (Nat.beq n 51) zy51 zy0) (cond (Nat.beq n 52) zy52 zy0)))) (cond (Nat.blt n 57) (cond (Nat.blt n 55) (cond (Nat.blt n 54) (cond (Nat.beq n 53) zy53 zy0) (cond (Nat.beq n 54) zy54 zy0)) (cond (Nat.blt n 56) (cond (Nat.beq n 55) zy55 zy0) (cond (Nat.beq n 56) zy56 zy0))) (cond (Nat.blt n 59) (cond (Nat.blt n 58) (cond (Nat.beq n 57) zy57 zy0) (cond (Nat.beq n 58) zy58 zy0)) (cond (Nat.blt n 60) (cond (Nat.beq n 59) zy59 zy0) (cond (Nat.beq n 60) zy60 zy0)))))
def zmn_30_31 : Nat → MethodName := fun n => (cond (Nat.blt n 45) (zmn_30_15 n) (zmn_45_16 n))
def zmn_0_61 : Nat → MethodName := fun n => (cond (Nat.blt n 30) (zmn_0_30 n) (zmn_30_31 n))
def zmn_61_15 : Nat → MethodName := fun n => (cond (Nat.blt n 68) (cond (Nat.blt n 64) (cond (Nat.blt n 62) (cond (Nat.beq n 61) zy61 zy0) (cond (Nat.blt n 63) (cond (Nat.beq n 62) zy62 zy0) (cond (Nat.beq n 63) zy63 zy0))) (cond (Nat.blt n 66) (cond (Nat.blt n 65) (cond (Nat.beq n 64) zy64 zy0) (cond (Nat.beq n 65) zy65 zy0)) (cond (Nat.blt n 67) (cond (Nat.beq n 66) zy66 zy0) (cond (Nat.beq n 67) zy67 zy0)))) (cond (Nat.blt n 72) (cond (Nat.blt n 70) (cond (Nat.blt n 69) (cond (Nat.beq n 68) zy68 zy0) (cond (Nat.beq n 69) zy69 zy0)) (cond (Nat.blt n 71) (cond (Nat.beq n 70) zy70 zy0) (cond (Nat.beq n 71) zy71 zy0))) (cond (Nat.blt n 74) (cond (Nat.blt n 73) (cond (Nat.beq n 72) zy72 zy0) (cond (Nat.beq n 73) zy73 zy0)) (cond (Nat.blt n 75) (cond (Nat.beq n 74) zy74 zy0) (cond (Nat.beq n 75) zy75 zy0)))))
def zmn_76_15 : Nat → MethodName := fun n => (cond (Nat.blt n 83) (cond (Nat.blt n 79) (cond (Nat.blt n 77) (cond (Nat.beq n 76) zy76 zy0) (cond (Nat.blt n 78) (cond (Nat.beq n 77) zy77 zy0) (cond (Nat.beq n 78) zy78 zy0))) (cond (Nat.blt n 81) (cond (Nat.blt n 80) (cond (Nat.beq n 79) zy79 zy0) (cond (Nat.beq n 80) zy80 zy0)) (cond (Nat.blt n 82) (cond (Nat.beq n 81) zy81 zy0) (cond (Nat.beq n 82) zy82 zy0)))) (cond (Nat.blt n 87) (cond (Nat.blt n 85) (cond (Nat.blt n 84) (cond (Nat.beq n 83) zy83 zy0) (cond (Nat.beq n 84) zy84 zy0)) (cond (Nat.blt n 86) (cond (Nat.beq n 85) zy85 zy0) (cond (Nat.beq n 86) zy86 zy0))) (cond (Nat.blt n 89) (cond (Nat.blt n 88) (cond (Nat.beq n 87) zy87 zy0) (cond (Nat.beq n 88) zy88 zy0)) (cond (Nat.blt n 90) (cond (Nat.beq n 89) zy89 zy0) (cond (Nat.beq n 90) zy90 zy0)))))
def zmn_61_30 : Nat → MethodName := fun n => (cond (Nat.blt n 76) (zmn_61_15 n) (zmn_76_15 n))
def zmn_91_15 : Nat → MethodName := fun n => (cond (Nat.blt n 98) (cond (Nat.blt n 94) (cond (Nat.blt n 92) (cond (Nat.beq n 91) zy91 zy0) (cond (Nat.blt n 93) (cond (Nat.beq n 92) zy92 zy0) (cond (Nat.beq n 93) zy93 zy0))) (cond (Nat.blt n 96) (cond (Nat.blt n 95) (cond (Nat.beq n 94) zy94 zy0) (cond (Nat.beq n 95) zy95 zy0)) (cond (Nat.blt n 97) (cond (Nat.beq n 96) zy96 zy0) (cond (Nat.beq n 97) zy97 zy0)))) (cond (Nat.blt n 102) (cond (Nat.blt n 100) (cond (Nat.blt n 99) (cond (Nat.beq n 98) zy98 zy0) (cond (Nat.beq n 99) zy99 zy0)) (cond (Nat.blt n 101) (cond (Nat.beq n 100) zy100 zy0) (cond (Nat.beq n 101) zy101 zy0))) (cond (Nat.blt n 104) (cond (Nat.blt n 103) (cond (Nat.beq n 102) zy102 zy0) (cond (Nat.beq n 103) zy103 zy0)) (cond (Nat.blt n 105) (cond (Nat.beq n 104) zy104 zy0) (cond (Nat.beq n 105) zy105 zy0)))))
def zmn_106_16 : Nat → MethodName := fun n => (cond (Nat.blt n 114) (cond (Nat.blt n 110) (cond (Nat.blt n 108) (cond (Nat.blt n 107) (cond (Nat.beq n 106) zy106 zy0) (cond (Nat.beq n 107) zy107 zy0)) (cond (Nat.blt n 109) (cond (Nat.beq n 108) zy108 zy0) (cond (Nat.beq n 109) zy109 zy0))) (cond (Nat.blt n 112) (cond (Nat.blt n 111) (cond (Nat.beq n 110) zy110 zy0) (cond (Nat.beq n 111) zy111 zy0)) (cond (Nat.blt n 113) (cond (Nat.beq n 112) zy112 zy0) (cond (Nat.beq n 113) zy113 zy0)))) (cond (Nat.blt n 118) (cond (Nat.blt n 116) (cond (Nat.blt n 115) (cond (Nat.beq n 114) zy114 zy0) (cond (Nat.beq n 115) zy115 zy0)) (cond (Nat.blt n 117) (cond (Nat.beq n 116) zy116 zy0) (cond (Nat.beq n 117) zy117 zy0))) (cond (Nat.blt n 120) (cond (Nat.blt n 119) (cond (Nat.beq n 118) zy118 zy0) (cond (Nat.beq n 119) zy119 zy0)) (cond (Nat.blt n 121) (cond (Nat.beq n 120) zy120 zy0) (cond (Nat.beq n 121) zy121 zy0)))))
def zmn_91_31 : Nat → MethodName := fun n => (cond (Nat.blt n 106) (zmn_91_15 n) (zmn_106_16 n))
def zmn_61_61 : Nat → MethodName := fun n => (cond (Nat.blt n 91) (zmn_61_30 n) (zmn_91_31 n))
def zmn_0_122 : Nat → MethodName := fun n => (cond (Nat.blt n 61) (zmn_0_61 n) (zmn_61_61 n))
def zmn_122_15 : Nat → MethodName := fun n => (cond (Nat.blt n 129) (cond (Nat.blt n 125) (cond (Nat.blt n 123) (cond (Nat.beq n 122) zy122 zy0) (cond (Nat.blt n 124) (cond (Nat.beq n 123) zy123 zy0) (cond (Nat.beq n 124) zy124 zy0))) (cond (Nat.blt n 127) (cond (Nat.blt n 126) (cond (Nat.beq n 125) zy125 zy0) (cond (Nat.beq n 126) zy126 zy0)) (cond (Nat.blt n 128) (cond (Nat.beq n 127) zy127 zy0) (cond (Nat.beq n 128) zy128 zy0)))) (cond (Nat.blt n 133) (cond (Nat.blt n 131) (cond (Nat.blt n 130) (cond (Nat.beq n 129) zy129 zy0) (cond (Nat.beq n 130) zy130 zy0)) (cond (Nat.blt n 132) (cond (Nat.beq n 131) zy131 zy0) (cond (Nat.beq n 132) zy132 zy0))) (cond (Nat.blt n 135) (cond (Nat.blt n 134) (cond (Nat.beq n 133) zy133 zy0) (cond (Nat.beq n 134) zy134 zy0)) (cond (Nat.blt n 136) (cond (Nat.beq n 135) zy135 zy0) (cond (Nat.beq n 136) zy136 zy0)))))
def zmn_137_15 : Nat → MethodName := fun n => (cond (Nat.blt n 144) (cond (Nat.blt n 140) (cond (Nat.blt n 138) (cond (Nat.beq n 137) zy137 zy0) (cond (Nat.blt n 139) (cond (Nat.beq n 138) zy138 zy0) (cond (Nat.beq n 139) zy139 zy0))) (cond (Nat.blt n 142) (cond (Nat.blt n 141) (cond (Nat.beq n 140) zy140 zy0) (cond (Nat.beq n 141) zy141 zy0)) (cond (Nat.blt n 143) (cond (Nat.beq n 142) zy142 zy0) (cond (Nat.beq n 143) zy143 zy0)))) (cond (Nat.blt n 148) (cond (Nat.blt n 146) (cond (Nat.blt n 145) (cond (Nat.beq n 144) zy144 zy0) (cond (Nat.beq n 145) zy145 zy0)) (cond (Nat.blt n 147) (cond (Nat.beq n 146) zy146 zy0) (cond (Nat.beq n 147) zy147 zy0))) (cond (Nat.blt n 150) (cond (Nat.blt n 149) (cond (Nat.beq n 148) zy148 zy0) (cond (Nat.beq n 149) zy149 zy0)) (cond (Nat.blt n 151) (cond (Nat.beq n 150) zy150 zy0) (cond (Nat.beq n 151) zy151 zy0)))))
def zmn_122_30 : Nat → MethodName := fun n => (cond (Nat.blt n 137) (zmn_122_15 n) (zmn_137_15 n))
def zmn_152_15 : Nat → MethodName := fun n => (cond (Nat.blt n 159) (cond (Nat.blt n 155) (cond (Nat.blt n 153) (cond (Nat.beq n 152) zy152 zy0) (cond (Nat.blt n 154) (cond (Nat.beq n 153) zy153 zy0) (cond (Nat.beq n 154) zy154 zy0))) (cond (Nat.blt n 157) (cond (Nat.blt n 156) (cond (Nat.beq n 155) zy155 zy0) (cond (Nat.beq n 156) zy156 zy0)) (cond (Nat.blt n 158) (cond (Nat.beq n 157) zy157 zy0) (cond (Nat.beq n 158) zy158 zy0)))) (cond (Nat.blt n 163) (cond (Nat.blt n 161) (cond (Nat.blt n 160) (cond (Nat.beq n 159) zy159 zy0) (cond (Nat.beq n 160) zy160 zy0)) (cond (Nat.blt n 162) (cond (Nat.beq n 161) zy161 zy0) (cond (Nat.beq n 162) zy162 zy0))) (cond (Nat.blt n 165) (cond (Nat.blt n 164) (cond (Nat.beq n 163) zy163 zy0) (cond (Nat.beq n 164) zy164 zy0)) (cond (Nat.blt n 166) (cond (Nat.beq n 165) zy165 zy0) (cond (Nat.beq n 166) zy166 zy0)))))
def zmn_167_16 : Nat → MethodName := fun n => (cond (Nat.blt n 175) (cond (Nat.blt n 171) (cond (Nat.blt n 169) (cond (Nat.blt n 168) (cond (Nat.beq n 167) zy167 zy0) (cond (Nat.beq n 168) zy168 zy0)) (cond (Nat.blt n 170) (cond (Nat.beq n 169) zy169 zy0) (cond (Nat.beq n 170) zy170 zy0))) (cond (Nat.blt n 173) (cond (Nat.blt n 172) (cond (Nat.beq n 171) zy171 zy0) (cond (Nat.beq n 172) zy172 zy0)) (cond (Nat.blt n 174) (cond (Nat.beq n 173) zy173 zy0) (cond (Nat.beq n 174) zy174 zy0)))) (cond (Nat.blt n 179) (cond (Nat.blt n 177) (cond (Nat.blt n 176) (cond (Nat.beq n 175) zy175 zy0) (cond (Nat.beq n 176) zy176 zy0)) (cond (Nat.blt n 178) (cond (Nat.beq n 177) zy177 zy0) (cond (Nat.beq n 178) zy178 zy0))) (cond (Nat.blt n 181) (cond (Nat.blt n 180) (cond (Nat.beq n 179) zy179 zy0) (cond (Nat.beq n 180) zy180 zy0)) (cond (Nat.blt n 182) (cond (Nat.beq n 181) zy181 zy0) (cond (Nat.beq n 182) zy182 zy0)))))
def zmn_152_31 : Nat → MethodName := fun n => (cond (Nat.blt n 167) (zmn_152_15 n) (zmn_167_16 n))
def zmn_122_61 : Nat → MethodName := fun n => (cond (Nat.blt n 152) (zmn_122_30 n) (zmn_152_31 n))
def zmn_183_15 : Nat → MethodName := fun n => (cond (Nat.blt n 190) (cond (Nat.blt n 186) (cond (Nat.blt n 184) (cond (Nat.beq n 183) zy183 zy0) (cond (Nat.blt n 185) (cond (Nat.beq n 184) zy184 zy0) (cond (Nat.beq n 185) zy185 zy0))) (cond (Nat.blt n 188) (cond (Nat.blt n 187) (cond (Nat.beq n 186) zy186 zy0) (cond (Nat.beq n 187) zy187 zy0)) (cond (Nat.blt n 189) (cond (Nat.beq n 188) zy188 zy0) (cond (Nat.beq n 189) zy189 zy0)))) (cond (Nat.blt n 194) (cond (Nat.blt n 192) (cond (Nat.blt n 191) (cond (Nat.beq n 190) zy190 zy0) (cond (Nat.beq n 191) zy191 zy0)) (cond (Nat.blt n 193) (cond (Nat.beq n 192) zy192 zy0) (cond (Nat.beq n 193) zy193 zy0))) (cond (Nat.blt n 196) (cond (Nat.blt n 195) (cond (Nat.beq n 194) zy194 zy0) (cond (Nat.beq n 195) zy195 zy0)) (cond (Nat.blt n 197) (cond (Nat.beq n 196) zy196 zy0) (cond (Nat.beq n 197) zy197 zy0)))))
def zmn_198_15 : Nat → MethodName := fun n => (cond (Nat.blt n 205) (cond (Nat.blt n 201) (cond (Nat.blt n 199) (cond (Nat.beq n 198) zy198 zy0) (cond (Nat.blt n 200) (cond (Nat.beq n 199) zy199 zy0) (cond (Nat.beq n 200) zy200 zy0))) (cond (Nat.blt n 203) (cond (Nat.blt n 202) (cond (Nat.beq n 201) zy201 zy0) (cond (Nat.beq n 202) zy202 zy0)) (cond (Nat.blt n 204) (cond (Nat.beq n 203) zy203 zy0) (cond (Nat.beq n 204) zy204 zy0)))) (cond (Nat.blt n 209) (cond (Nat.blt n 207) (cond (Nat.blt n 206) (cond (Nat.beq n 205) zy205 zy0) (cond (Nat.beq n 206) zy206 zy0)) (cond (Nat.blt n 208) (cond (Nat.beq n 207) zy207 zy0) (cond (Nat.beq n 208) zy208 zy0))) (cond (Nat.blt n 211) (cond (Nat.blt n 210) (cond (Nat.beq n 209) zy209 zy0) (cond (Nat.beq n 210) zy210 zy0)) (cond (Nat.blt n 212) (cond (Nat.beq n 211) zy211 zy0) (cond (Nat.beq n 212) zy212 zy0)))))
def zmn_183_30 : Nat → MethodName := fun n => (cond (Nat.blt n 198) (zmn_183_15 n) (zmn_198_15 n))
def zmn_213_15 : Nat → MethodName := fun n => (cond (Nat.blt n 220) (cond (Nat.blt n 216) (cond (Nat.blt n 214) (cond (Nat.beq n 213) zy213 zy0) (cond (Nat.blt n 215) (cond (Nat.beq n 214) zy214 zy0) (cond (Nat.beq n 215) zy215 zy0))) (cond (Nat.blt n 218) (cond (Nat.blt n 217) (cond (Nat.beq n 216) zy216 zy0) (cond (Nat.beq n 217) zy217 zy0)) (cond (Nat.blt n 219) (cond (Nat.beq n 218) zy218 zy0) (cond (Nat.beq n 219) zy219 zy0)))) (cond (Nat.blt n 224) (cond (Nat.blt n 222) (cond (Nat.blt n 221) (cond (Nat.beq n 220) zy220 zy0) (cond (Nat.beq n 221) zy221 zy0)) (cond (Nat.blt n 223) (cond (Nat.beq n 222) zy222 zy0) (cond (Nat.beq n 223) zy223 zy0))) (cond (Nat.blt n 226) (cond (Nat.blt n 225) (cond (Nat.beq n 224) zy224 zy0) (cond (Nat.beq n 225) zy225 zy0)) (cond (Nat.blt n 227) (cond (Nat.beq n 226) zy226 zy0) (cond (Nat.beq n 227) zy227 zy0)))))
def zmn_228_16 : Nat → MethodName := fun n => (cond (Nat.blt n 236) (cond (Nat.blt n 232) (cond (Nat.blt n 230) (cond (Nat.blt n 229) (cond (Nat.beq n 228) zy228 zy0) (cond (Nat.beq n 229) zy229 zy0)) (cond (Nat.blt n 231) (cond (Nat.beq n 230) zy230 zy0) (cond (Nat.beq n 231) zy231 zy0))) (cond (Nat.blt n 234) (cond (Nat.blt n 233) (cond (Nat.beq n 232) zy232 zy0) (cond (Nat.beq n 233) zy233 zy0)) (cond (Nat.blt n 235) (cond (Nat.beq n 234) zy234 zy0) (cond (Nat.beq n 235) zy235 zy0)))) (cond (Nat.blt n 240) (cond (Nat.blt n 238) (cond (Nat.blt n 237) (cond (Nat.beq n 236) zy236 zy0) (cond (Nat.beq n 237) zy237 zy0)) (cond (Nat.blt n 239) (cond (Nat.beq n 238) zy238 zy0) (cond (Nat.beq n 239) zy239 zy0))) (cond (Nat.blt n 242) (cond (Nat.blt n 241) (cond (Nat.beq n 240) zy240 zy0) (cond (Nat.beq n 241) zy241 zy0)) (cond (Nat.blt n 243) (cond (Nat.beq n 242) zy242 zy0) (cond (Nat.beq n 243) zy243 zy0)))))
def zmn_213_31 : Nat → MethodName := fun n => (cond (Nat.blt n 228) (zmn_213_15 n) (zmn_228_16 n))
def zmn_183_61 : Nat → MethodName := fun n => (cond (Nat.blt n 213) (zmn_183_30 n) (zmn_213_31 n))
def zmn_122_122 : Nat → MethodName := fun n => (cond (Nat.blt n 183) (zmn_122_61 n) (zmn_183_61 n))
def zmn : Nat → MethodName := fun n => (cond (Nat.blt n 122) (zmn_0_122 n) (zmn_122_122 n))
def zby_0_15 : Nat → ByteArray := fun n => (cond (Nat.blt n 7) (cond (Nat.blt n 3) (cond (Nat.blt n 1) (cond (Nat.beq n 0) prog_2_method_1_code (⟨#[]⟩ : ByteArray)) (cond (Nat.blt n 2) (cond (Nat.beq n 1) prog_2_method_2_code (⟨#[]⟩ : ByteArray)) (cond (Nat.beq n 2) prog_2_method_3_code (⟨#[]⟩ : ByteArray)))) (cond (Nat.blt n 5) (cond (Nat.blt n 4) (cond (Nat.beq n 3) prog_2_method_4_code (⟨#[]⟩ : ByteArray)) (cond (Nat.beq n 4) prog_2_method_5_code (⟨#[]⟩ : ByteArray))) (cond (Nat.blt n 6) (cond (Nat.beq n 5) prog_2_method_6_code (⟨#[]⟩ : ByteArray)) (cond (Nat.beq n 6) prog_2_method_7_code (⟨#[]⟩ : ByteArray))))) (cond (Nat.blt n 11) (cond (Nat.blt n 9) (cond (Nat.blt n 8) (cond (Nat.beq n 7) prog_2_method_8_code (⟨#[]⟩ : ByteArray)) (cond (Nat.beq n 8) prog_2_method_9_code (⟨#[]⟩ : ByteArray))) (cond (Nat.blt n 10) (cond (Nat.beq n 9) prog_2_method_10_code (⟨#[]⟩ : ByteArray)) (cond (Nat.beq n 10) prog_2_method_11_code (⟨#[]⟩ : ByteArray)))) (cond (Nat.blt n 13) (cond (Nat.blt n 12) (cond (Nat.beq n 11) prog_2_method_12_code (⟨#[]⟩ : ByteArray)) (cond (Nat.beq n 12) prog_3_method_1_code (⟨#[]⟩ : ByteArray))) (cond (Nat.blt n 14) (cond (Nat.beq n 13) prog_3_method_2_code (⟨#[]⟩ : ByteArray)) (cond (Nat.beq n 14) prog_3_method_3_code (⟨#[]⟩ : ByteArray))))))
def zby_15_15 : Nat → ByteArray := fun n => (cond (Nat.blt n 22) (cond (Nat.blt n 18) (cond (Nat.blt n 16) (cond (Nat.beq n 15) prog_3_method_4_code (⟨#[]⟩ : ByteArray)) (cond (Nat.blt n 17) (cond (Nat.beq n 16) prog_3_method_5_code (⟨#[]⟩ : ByteArray)) (cond (Nat.beq n 17) prog_4_method_1_code (⟨#[]⟩ : ByteArray)))) (cond (Nat.blt n 20) (cond (Nat.blt n 19) (cond (Nat.beq n 18) prog_4_method_2_code (⟨#[]⟩ : ByteArray)) (cond (Nat.beq n 19) prog_4_method_3_code (⟨#[]⟩ : ByteArray))) (cond (Nat.blt n 21) (cond (Nat.beq n 20) prog_4_method_4_code (⟨#[]⟩ : ByteArray)) (cond (Nat.beq n 21) prog_4_method_5_code (⟨#[]⟩ : ByteArray))))) (cond (Nat.blt n 26) (cond (Nat.blt n 24) (cond (Nat.blt n 23) (cond (Nat.beq n 22) prog_4_method_6_code (⟨#[]⟩ : ByteArray)) (cond (Nat.beq n 23) prog_4_method_7_code (⟨#[]⟩ : ByteArray))) (cond (Nat.blt n 25) (cond (Nat.beq n 24) prog_5_method_1_code (⟨#[]⟩ : ByteArray)) (cond (Nat.beq n 25) prog_5_method_2_code (⟨#[]⟩ : ByteArray)))) (cond (Nat.blt n 28) (cond (Nat.blt n 27) (cond (Nat.beq n 26) prog_5_method_3_code (⟨#[]⟩ : ByteArray)) (cond (Nat.beq n 27) prog_5_method_4_code (⟨#[]⟩ : ByteArray))) (cond (Nat.blt n 29) (cond (Nat.beq n 28) prog_5_method_5_code (⟨#[]⟩ : ByteArray)) (cond (Nat.beq n 29) prog_5_method_6_code (⟨#[]⟩ : ByteArray))))))
def zby_0_30 : Nat → ByteArray := fun n => (cond (Nat.blt n 15) (zby_0_15 n) (zby_15_15 n))
def zby_30_15 : Nat → ByteArray := fun n => (cond (Nat.blt n 37) (cond (Nat.blt n 33) (cond (Nat.blt n 31) (cond (Nat.beq n 30) prog_5_method_7_code (⟨#[]⟩ : ByteArray)) (cond (Nat.blt n 32) (cond (Nat.beq n 31) prog_5_method_8_code (⟨#[]⟩ : ByteArray)) (cond (Nat.beq n 32) prog_5_method_9_code (⟨#[]⟩ : ByteArray)))) (cond (Nat.blt n 35) (cond (Nat.blt n 34) (cond (Nat.beq n 33) prog_5_method_10_code (⟨#[]⟩ : ByteArray)) (cond (Nat.beq n 34) prog_6_method_1_code (⟨#[]⟩ : ByteArray))) (cond (Nat.blt n 36) (cond (Nat.beq n 35) prog_6_method_2_code (⟨#[]⟩ : ByteArray)) (cond (Nat.beq n 36) prog_6_method_3_code (⟨#[]⟩ : ByteArray))))) (cond (Nat.blt n 41) (cond (Nat.blt n 39) (cond (Nat.blt n 38) (cond (Nat.beq n 37) prog_6_method_4_code (⟨#[]⟩ : ByteArray)) (cond (Nat.beq n 38) prog_6_method_5_code (⟨#[]⟩ : ByteArray))) (cond (Nat.blt n 40) (cond (Nat.beq n 39) prog_6_method_6_code (⟨#[]⟩ : ByteArray)) (cond (Nat.beq n 40) prog_6_method_7_code (⟨#[]⟩ : ByteArray)))) (cond (Nat.blt n 43) (cond (Nat.blt n 42) (cond (Nat.beq n 41) prog_6_method_8_code (⟨#[]⟩ : ByteArray)) (cond (Nat.beq n 42) prog_6_method_9_code (⟨#[]⟩ : ByteArray))) (cond (Nat.blt n 44) (cond (Nat.beq n 43) prog_6_method_10_code (⟨#[]⟩ : ByteArray)) (cond (Nat.beq n 44) prog_7_method_1_code (⟨#[]⟩ : ByteArray))))))
def zby_45_16 : Nat → ByteArray := fun n => (cond (Nat.blt n 53) (cond (Nat.blt n 49) (cond (Nat.blt n 47) (cond (Nat.blt n 46) (cond (Nat.beq n 45) prog_7_method_2_code (⟨#[]⟩ : ByteArray)) (cond (Nat.beq n 46) prog_7_method_3_code (⟨#[]⟩ : ByteArray))) (cond (Nat.blt n 48) (cond (Nat.beq n 47) prog_7_method_4_code (⟨#[]⟩ : ByteArray)) (cond (Nat.beq n 48) prog_7_method_5_code (⟨#[]⟩ : ByteArray)))) (cond (Nat.blt n 51) (cond (Nat.blt n 50) (cond (Nat.beq n 49) prog_8_method_1_code (⟨#[]⟩ : ByteArray)) (cond (Nat.beq n 50) prog_8_method_2_code (⟨#[]⟩ : ByteArray))) (cond (Nat.blt n 52) (cond (Nat.beq n 51) prog_8_method_3_code (⟨#[]⟩ : ByteArray)) (cond (Nat.beq n 52) prog_8_method_4_code (⟨#[]⟩ : ByteArray))))) (cond (Nat.blt n 57) (cond (Nat.blt n 55) (cond (Nat.blt n 54) (cond (Nat.beq n 53) prog_8_method_5_code (⟨#[]⟩ : ByteArray)) (cond (Nat.beq n 54) prog_8_method_6_code (⟨#[]⟩ : ByteArray))) (cond (Nat.blt n 56) (cond (Nat.beq n 55) prog_8_method_7_code (⟨#[]⟩ : ByteArray)) (cond (Nat.beq n 56) prog_8_method_8_code (⟨#[]⟩ : ByteArray)))) (cond (Nat.blt n 59) (cond (Nat.blt n 58) (cond (Nat.beq n 57) prog_8_method_9_code (⟨#[]⟩ : ByteArray)) (cond (Nat.beq n 58) prog_8_method_10_code (⟨#[]⟩ : ByteArray))) (cond (Nat.blt n 60) (cond (Nat.beq n 59) prog_8_method_11_code (⟨#[]⟩ : ByteArray)) (cond (Nat.beq n 60) prog_8_method_12_code (⟨#[]⟩ : ByteArray))))))
def zby_30_31 : Nat → ByteArray := fun n => (cond (Nat.blt n 45) (zby_30_15 n) (zby_45_16 n))
def zby_0_61 : Nat → ByteArray := fun n => (cond (Nat.blt n 30) (zby_0_30 n) (zby_30_31 n))
def zby_61_15 : Nat → ByteArray := fun n => (cond (Nat.blt n 68) (cond (Nat.blt n 64) (cond (Nat.blt n 62) (cond (Nat.beq n 61) prog_9_method_1_code (⟨#[]⟩ : ByteArray)) (cond (Nat.blt n 63) (cond (Nat.beq n 62) prog_9_method_2_code (⟨#[]⟩ : ByteArray)) (cond (Nat.beq n 63) prog_9_method_3_code (⟨#[]⟩ : ByteArray)))) (cond (Nat.blt n 66) (cond (Nat.blt n 65) (cond (Nat.beq n 64) prog_9_method_4_code (⟨#[]⟩ : ByteArray)) (cond (Nat.beq n 65) prog_9_method_5_code (⟨#[]⟩ : ByteArray))) (cond (Nat.blt n 67) (cond (Nat.beq n 66) prog_9_method_6_code (⟨#[]⟩ : ByteArray)) (cond (Nat.beq n 67) prog_9_method_7_code (⟨#[]⟩ : ByteArray))))) (cond (Nat.blt n 72) (cond (Nat.blt n 70) (cond (Nat.blt n 69) (cond (Nat.beq n 68) prog_9_method_8_code (⟨#[]⟩ : ByteArray)) (cond (Nat.beq n 69) prog_9_method_9_code (⟨#[]⟩ : ByteArray))) (cond (Nat.blt n 71) (cond (Nat.beq n 70) prog_9_method_10_code (⟨#[]⟩ : ByteArray)) (cond (Nat.beq n 71) prog_9_method_11_code (⟨#[]⟩ : ByteArray)))) (cond (Nat.blt n 74) (cond (Nat.blt n 73) (cond (Nat.beq n 72) prog_9_method_12_code (⟨#[]⟩ : ByteArray)) (cond (Nat.beq n 73) prog_9_method_13_code (⟨#[]⟩ : ByteArray))) (cond (Nat.blt n 75) (cond (Nat.beq n 74) prog_10_method_1_code (⟨#[]⟩ : ByteArray)) (cond (Nat.beq n 75) prog_10_method_2_code (⟨#[]⟩ : ByteArray))))))
def zby_76_15 : Nat → ByteArray := fun n => (cond (Nat.blt n 83) (cond (Nat.blt n 79) (cond (Nat.blt n 77) (cond (Nat.beq n 76) prog_10_method_3_code (⟨#[]⟩ : ByteArray)) (cond (Nat.blt n 78) (cond (Nat.beq n 77) prog_10_method_4_code (⟨#[]⟩ : ByteArray)) (cond (Nat.beq n 78) prog_10_method_5_code (⟨#[]⟩ : ByteArray)))) (cond (Nat.blt n 81) (cond (Nat.blt n 80) (cond (Nat.beq n 79) prog_10_method_6_code (⟨#[]⟩ : ByteArray)) (cond (Nat.beq n 80) prog_10_method_7_code (⟨#[]⟩ : ByteArray))) (cond (Nat.blt n 82) (cond (Nat.beq n 81) prog_10_method_8_code (⟨#[]⟩ : ByteArray)) (cond (Nat.beq n 82) prog_10_method_9_code (⟨#[]⟩ : ByteArray))))) (cond (Nat.blt n 87) (cond (Nat.blt n 85) (cond (Nat.blt n 84) (cond (Nat.beq n 83) prog_10_method_10_code (⟨#[]⟩ : ByteArray)) (cond (Nat.beq n 84) prog_10_method_11_code (⟨#[]⟩ : ByteArray))) (cond (Nat.blt n 86) (cond (Nat.beq n 85) prog_10_method_12_code (⟨#[]⟩ : ByteArray)) (cond (Nat.beq n 86) prog_10_method_13_code (⟨#[]⟩ : ByteArray)))) (cond (Nat.blt n 89) (cond (Nat.blt n 88) (cond (Nat.beq n 87) prog_10_method_14_code (⟨#[]⟩ : ByteArray)) (cond (Nat.beq n 88) prog_11_method_1_code (⟨#[]⟩ : ByteArray))) (cond (Nat.blt n 90) (cond (Nat.beq n 89) prog_11_method_2_code (⟨#[]⟩ : ByteArray)) (cond (Nat.beq n 90) prog_11_method_3_code (⟨#[]⟩ : ByteArray))))))
def zby_61_30 : Nat → ByteArray := fun n => (cond (Nat.blt n 76) (zby_61_15 n) (zby_76_15 n))
def zby_91_15 : Nat → ByteArray := fun n => (cond (Nat.blt n 98) (cond (Nat.blt n 94) (cond (Nat.blt n 92) (cond (Nat.beq n 91) prog_11_method_4_code (⟨#[]⟩ : ByteArray)) (cond (Nat.blt n 93) (cond (Nat.beq n 92) prog_11_method_5_code (⟨#[]⟩ : ByteArray)) (cond (Nat.beq n 93) prog_11_method_6_code (⟨#[]⟩ : ByteArray)))) (cond (Nat.blt n 96) (cond (Nat.blt n 95) (cond (Nat.beq n 94) prog_11_method_7_code (⟨#[]⟩ : ByteArray)) (cond (Nat.beq n 95) prog_11_method_8_code (⟨#[]⟩ : ByteArray))) (cond (Nat.blt n 97) (cond (Nat.beq n 96) prog_11_method_9_code (⟨#[]⟩ : ByteArray)) (cond (Nat.beq n 97) prog_11_method_10_code (⟨#[]⟩ : ByteArray))))) (cond (Nat.blt n 102) (cond (Nat.blt n 100) (cond (Nat.blt n 99) (cond (Nat.beq n 98) prog_1_method_1_code (⟨#[]⟩ : ByteArray)) (cond (Nat.beq n 99) prog_1_method_2_code (⟨#[]⟩ : ByteArray))) (cond (Nat.blt n 101) (cond (Nat.beq n 100) prog_1_method_3_code (⟨#[]⟩ : ByteArray)) (cond (Nat.beq n 101) prog_1_method_4_code (⟨#[]⟩ : ByteArray)))) (cond (Nat.blt n 104) (cond (Nat.blt n 103) (cond (Nat.beq n 102) prog_1_method_5_code (⟨#[]⟩ : ByteArray)) (cond (Nat.beq n 103) prog_1_method_6_code (⟨#[]⟩ : ByteArray))) (cond (Nat.blt n 105) (cond (Nat.beq n 104) prog_1_method_7_code (⟨#[]⟩ : ByteArray)) (cond (Nat.beq n 105) prog_1_method_8_code (⟨#[]⟩ : ByteArray))))))
def zby_106_16 : Nat → ByteArray := fun n => (cond (Nat.blt n 114) (cond (Nat.blt n 110) (cond (Nat.blt n 108) (cond (Nat.blt n 107) (cond (Nat.beq n 106) prog_1_method_9_code (⟨#[]⟩ : ByteArray)) (cond (Nat.beq n 107) prog_1_method_10_code (⟨#[]⟩ : ByteArray))) (cond (Nat.blt n 109) (cond (Nat.beq n 108) prog_1_method_11_code (⟨#[]⟩ : ByteArray)) (cond (Nat.beq n 109) prog_1_method_12_code (⟨#[]⟩ : ByteArray)))) (cond (Nat.blt n 112) (cond (Nat.blt n 111) (cond (Nat.beq n 110) prog_1_method_13_code (⟨#[]⟩ : ByteArray)) (cond (Nat.beq n 111) prog_1_method_14_code (⟨#[]⟩ : ByteArray))) (cond (Nat.blt n 113) (cond (Nat.beq n 112) prog_1_method_15_code (⟨#[]⟩ : ByteArray)) (cond (Nat.beq n 113) prog_1_method_16_code (⟨#[]⟩ : ByteArray))))) (cond (Nat.blt n 118) (cond (Nat.blt n 116) (cond (Nat.blt n 115) (cond (Nat.beq n 114) prog_1_method_17_code (⟨#[]⟩ : ByteArray)) (cond (Nat.beq n 115) prog_1_method_18_code (⟨#[]⟩ : ByteArray))) (cond (Nat.blt n 117) (cond (Nat.beq n 116) prog_1_method_19_code (⟨#[]⟩ : ByteArray)) (cond (Nat.beq n 117) prog_1_method_20_code (⟨#[]⟩ : ByteArray)))) (cond (Nat.blt n 120) (cond (Nat.blt n 119) (cond (Nat.beq n 118) prog_1_method_21_code (⟨#[]⟩ : ByteArray)) (cond (Nat.beq n 119) prog_1_method_22_code (⟨#[]⟩ : ByteArray))) (cond (Nat.blt n 121) (cond (Nat.beq n 120) prog_1_method_23_code (⟨#[]⟩ : ByteArray)) (cond (Nat.beq n 121) prog_1_method_24_code (⟨#[]⟩ : ByteArray))))))
def zby_91_31 : Nat → ByteArray := fun n => (cond (Nat.blt n 106) (zby_91_15 n) (zby_106_16 n))
def zby_61_61 : Nat → ByteArray := fun n => (cond (Nat.blt n 91) (zby_61_30 n) (zby_91_31 n))
def zby_0_122 : Nat → ByteArray := fun n => (cond (Nat.blt n 61) (zby_0_61 n) (zby_61_61 n))
def zby_122_15 : Nat → ByteArray := fun n => (cond (Nat.blt n 129) (cond (Nat.blt n 125) (cond (Nat.blt n 123) (cond (Nat.beq n 122) prog_1_method_25_code (⟨#[]⟩ : ByteArray)) (cond (Nat.blt n 124) (cond (Nat.beq n 123) prog_1_method_26_code (⟨#[]⟩ : ByteArray)) (cond (Nat.beq n 124) prog_1_method_27_code (⟨#[]⟩ : ByteArray)))) (cond (Nat.blt n 127) (cond (Nat.blt n 126) (cond (Nat.beq n 125) prog_1_method_28_code (⟨#[]⟩ : ByteArray)) (cond (Nat.beq n 126) prog_1_method_29_code (⟨#[]⟩ : ByteArray))) (cond (Nat.blt n 128) (cond (Nat.beq n 127) prog_1_method_30_code (⟨#[]⟩ : ByteArray)) (cond (Nat.beq n 128) prog_1_method_31_code (⟨#[]⟩ : ByteArray))))) (cond (Nat.blt n 133) (cond (Nat.blt n 131) (cond (Nat.blt n 130) (cond (Nat.beq n 129) prog_1_method_32_code (⟨#[]⟩ : ByteArray)) (cond (Nat.beq n 130) prog_1_method_33_code (⟨#[]⟩ : ByteArray))) (cond (Nat.blt n 132) (cond (Nat.beq n 131) prog_1_method_34_code (⟨#[]⟩ : ByteArray)) (cond (Nat.beq n 132) prog_1_method_35_code (⟨#[]⟩ : ByteArray)))) (cond (Nat.blt n 135) (cond (Nat.blt n 134) (cond (Nat.beq n 133) prog_1_method_36_code (⟨#[]⟩ : ByteArray)) (cond (Nat.beq n 134) prog_1_method_37_code (⟨#[]⟩ : ByteArray))) (cond (Nat.blt n 136) (cond (Nat.beq n 135) prog_1_method_38_code (⟨#[]⟩ : ByteArray)) (cond (Nat.beq n 136) prog_1_method_39_code (⟨#[]⟩ : ByteArray))))))
def zby_137_15 : Nat → ByteArray := fun n => (cond (Nat.blt n 144) (cond (Nat.blt n 140) (cond (Nat.blt n 138) (cond (Nat.beq n 137) prog_1_method_40_code (⟨#[]⟩ : ByteArray)) (cond (Nat.blt n 139) (cond (Nat.beq n 138) prog_1_method_41_code (⟨#[]⟩ : ByteArray)) (cond (Nat.beq n 139) prog_1_method_42_code (⟨#[]⟩ : ByteArray)))) (cond (Nat.blt n 142) (cond (Nat.blt n 141) (cond (Nat.beq n 140) prog_1_method_43_code (⟨#[]⟩ : ByteArray)) (cond (Nat.beq n 141) prog_1_method_44_code (⟨#[]⟩ : ByteArray))) (cond (Nat.blt n 143) (cond (Nat.beq n 142) prog_1_method_45_code (⟨#[]⟩ : ByteArray)) (cond (Nat.beq n 143) prog_1_method_46_code (⟨#[]⟩ : ByteArray))))) (cond (Nat.blt n 148) (cond (Nat.blt n 146) (cond (Nat.blt n 145) (cond (Nat.beq n 144) prog_1_method_47_code (⟨#[]⟩ : ByteArray)) (cond (Nat.beq n 145) prog_1_method_48_code (⟨#[]⟩ : ByteArray))) (cond (Nat.blt n 147) (cond (Nat.beq n 146) prog_1_method_49_code (⟨#[]⟩ : ByteArray)) (cond (Nat.beq n 147) prog_1_method_50_code (⟨#[]⟩ : ByteArray)))) (cond (Nat.blt n 150) (cond (Nat.blt n 149) (cond (Nat.beq n 148) prog_1_method_51_code (⟨#[]⟩ : ByteArray)) (cond (Nat.beq n 149) prog_13_method_1_code (⟨#[]⟩ : ByteArray))) (cond (Nat.blt n 151) (cond (Nat.beq n 150) prog_13_method_2_code (⟨#[]⟩ : ByteArray)) (cond (Nat.beq n 151) prog_13_method_3_code (⟨#[]⟩ : ByteArray))))))
def zby_122_30 : Nat → ByteArray := fun n => (cond (Nat.blt n 137) (zby_122_15 n) (zby_137_15 n))
def zby_152_15 : Nat → ByteArray := fun n => (cond (Nat.blt n 159) (cond (Nat.blt n 155) (cond (Nat.blt n 153) (cond (Nat.beq n 152) prog_13_method_4_code (⟨#[]⟩ : ByteArray)) (cond (Nat.blt n 154) (cond (Nat.beq n 153) prog_13_method_5_code (⟨#[]⟩ : ByteArray)) (cond (Nat.beq n 154) prog_13_method_6_code (⟨#[]⟩ : ByteArray)))) (cond (Nat.blt n 157) (cond (Nat.blt n 156) (cond (Nat.beq n 155) prog_13_method_7_code (⟨#[]⟩ : ByteArray)) (cond (Nat.beq n 156) prog_13_method_8_code (⟨#[]⟩ : ByteArray))) (cond (Nat.blt n 158) (cond (Nat.beq n 157) prog_13_method_9_code (⟨#[]⟩ : ByteArray)) (cond (Nat.beq n 158) prog_13_method_10_code (⟨#[]⟩ : ByteArray))))) (cond (Nat.blt n 163) (cond (Nat.blt n 161) (cond (Nat.blt n 160) (cond (Nat.beq n 159) prog_13_method_11_code (⟨#[]⟩ : ByteArray)) (cond (Nat.beq n 160) prog_13_method_12_code (⟨#[]⟩ : ByteArray))) (cond (Nat.blt n 162) (cond (Nat.beq n 161) prog_13_method_13_code (⟨#[]⟩ : ByteArray)) (cond (Nat.beq n 162) prog_13_method_14_code (⟨#[]⟩ : ByteArray)))) (cond (Nat.blt n 165) (cond (Nat.blt n 164) (cond (Nat.beq n 163) prog_13_method_15_code (⟨#[]⟩ : ByteArray)) (cond (Nat.beq n 164) prog_13_method_16_code (⟨#[]⟩ : ByteArray))) (cond (Nat.blt n 166) (cond (Nat.beq n 165) prog_13_method_17_code (⟨#[]⟩ : ByteArray)) (cond (Nat.beq n 166) prog_13_method_18_code (⟨#[]⟩ : ByteArray))))))
def zby_167_16 : Nat → ByteArray := fun n => (cond (Nat.blt n 175) (cond (Nat.blt n 171) (cond (Nat.blt n 169) (cond (Nat.blt n 168) (cond (Nat.beq n 167) prog_13_method_19_code (⟨#[]⟩ : ByteArray)) (cond (Nat.beq n 168) prog_13_method_20_code (⟨#[]⟩ : ByteArray))) (cond (Nat.blt n 170) (cond (Nat.beq n 169) prog_13_method_21_code (⟨#[]⟩ : ByteArray)) (cond (Nat.beq n 170) prog_13_method_22_code (⟨#[]⟩ : ByteArray)))) (cond (Nat.blt n 173) (cond (Nat.blt n 172) (cond (Nat.beq n 171) prog_13_method_23_code (⟨#[]⟩ : ByteArray)) (cond (Nat.beq n 172) prog_13_method_24_code (⟨#[]⟩ : ByteArray))) (cond (Nat.blt n 174) (cond (Nat.beq n 173) prog_13_method_25_code (⟨#[]⟩ : ByteArray)) (cond (Nat.beq n 174) prog_13_method_26_code (⟨#[]⟩ : ByteArray))))) (cond (Nat.blt n 179) (cond (Nat.blt n 177) (cond (Nat.blt n 176) (cond (Nat.beq n 175) prog_13_method_27_code (⟨#[]⟩ : ByteArray)) (cond (Nat.beq n 176) prog_13_method_28_code (⟨#[]⟩ : ByteArray))) (cond (Nat.blt n 178) (cond (Nat.beq n 177) prog_13_method_29_code (⟨#[]⟩ : ByteArray)) (cond (Nat.beq n 178) prog_13_method_30_code (⟨#[]⟩ : ByteArray)))) (cond (Nat.blt n 181) (cond (Nat.blt n 180) (cond (Nat.beq n 179) prog_13_method_31_code (⟨#[]⟩ : ByteArray)) (cond (Nat.beq n 180) prog_13_method_32_code (⟨#[]⟩ : ByteArray))) (cond (Nat.blt n 182) (cond (Nat.beq n 181) prog_13_method_33_code (⟨#[]⟩ : ByteArray)) (cond (Nat.beq n 182) prog_13_method_34_code (⟨#[]⟩ : ByteArray))))))
def zby_152_31 : Nat → ByteArray := fun n => (cond (Nat.blt n 167) (zby_152_15 n) (zby_167_16 n))
def zby_122_61 : Nat → ByteArray := fun n => (cond (Nat.blt n 152) (zby_122_30 n) (zby_152_31 n))
def zby_183_15 : Nat → ByteArray := fun n => (cond (Nat.blt n 190) (cond (Nat.blt n 186) (cond (Nat.blt n 184) (cond (Nat.beq n 183) prog_13_method_35_code (⟨#[]⟩ : ByteArray)) (cond (Nat.blt n 185) (cond (Nat.beq n 184) prog_13_method_36_code (⟨#[]⟩ : ByteArray)) (cond (Nat.beq n 185) prog_13_method_37_code (⟨#[]⟩ : ByteArray)))) (cond (Nat.blt n 188) (cond (Nat.blt n 187) (cond (Nat.beq n 186) prog_13_method_38_code (⟨#[]⟩ : ByteArray)) (cond (Nat.beq n 187) prog_13_method_39_code (⟨#[]⟩ : ByteArray))) (cond (Nat.blt n 189) (cond (Nat.beq n 188) prog_13_method_40_code (⟨#[]⟩ : ByteArray)) (cond (Nat.beq n 189) prog_13_method_41_code (⟨#[]⟩ : ByteArray))))) (cond (Nat.blt n 194) (cond (Nat.blt n 192) (cond (Nat.blt n 191) (cond (Nat.beq n 190) prog_13_method_42_code (⟨#[]⟩ : ByteArray)) (cond (Nat.beq n 191) prog_13_method_43_code (⟨#[]⟩ : ByteArray))) (cond (Nat.blt n 193) (cond (Nat.beq n 192) prog_13_method_44_code (⟨#[]⟩ : ByteArray)) (cond (Nat.beq n 193) prog_13_method_45_code (⟨#[]⟩ : ByteArray)))) (cond (Nat.blt n 196) (cond (Nat.blt n 195) (cond (Nat.beq n 194) prog_13_method_46_code (⟨#[]⟩ : ByteArray)) (cond (Nat.beq n 195) prog_13_method_47_code (⟨#[]⟩ : ByteArray))) (cond (Nat.blt n 197) (cond (Nat.beq n 196) prog_13_method_48_code (⟨#[]⟩ : ByteArray)) (cond (Nat.beq n 197) prog_13_method_49_code (⟨#[]⟩ : ByteArray))))))
def zby_198_15 : Nat → ByteArray := fun n => (cond (Nat.blt n 205) (cond (Nat.blt n 201) (cond (Nat.blt n 199) (cond (Nat.beq n 198) prog_13_method_50_code (⟨#[]⟩ : ByteArray)) (cond (Nat.blt n 200) (cond (Nat.beq n 199) prog_13_method_51_code (⟨#[]⟩ : ByteArray)) (cond (Nat.beq n 200) prog_13_method_52_code (⟨#[]⟩ : ByteArray)))) (cond (Nat.blt n 203) (cond (Nat.blt n 202) (cond (Nat.beq n 201) prog_13_method_53_code (⟨#[]⟩ : ByteArray)) (cond (Nat.beq n 202) prog_13_method_54_code (⟨#[]⟩ : ByteArray))) (cond (Nat.blt n 204) (cond (Nat.beq n 203) prog_13_method_55_code (⟨#[]⟩ : ByteArray)) (cond (Nat.beq n 204) prog_13_method_56_code (⟨#[]⟩ : ByteArray))))) (cond (Nat.blt n 209) (cond (Nat.blt n 207) (cond (Nat.blt n 206) (cond (Nat.beq n 205) prog_13_method_57_code (⟨#[]⟩ : ByteArray)) (cond (Nat.beq n 206) prog_13_method_58_code (⟨#[]⟩ : ByteArray))) (cond (Nat.blt n 208) (cond (Nat.beq n 207) prog_13_method_59_code (⟨#[]⟩ : ByteArray)) (cond (Nat.beq n 208) prog_13_method_60_code (⟨#[]⟩ : ByteArray)))) (cond (Nat.blt n 211) (cond (Nat.blt n 210) (cond (Nat.beq n 209) prog_13_method_61_code (⟨#[]⟩ : ByteArray)) (cond (Nat.beq n 210) prog_13_method_62_code (⟨#[]⟩ : ByteArray))) (cond (Nat.blt n 212) (cond (Nat.beq n 211) prog_13_method_63_code (⟨#[]⟩ : ByteArray)) (cond (Nat.beq n 212) prog_13_method_64_code (⟨#[]⟩ : ByteArray))))))
def zby_183_30 : Nat → ByteArray := fun n => (cond (Nat.blt n 198) (zby_183_15 n) (zby_198_15 n))
def zby_213_15 : Nat → ByteArray := fun n => (cond (Nat.blt n 220) (cond (Nat.blt n 216) (cond (Nat.blt n 214) (cond (Nat.beq n 213) prog_13_method_65_code (⟨#[]⟩ : ByteArray)) (cond (Nat.blt n 215) (cond (Nat.beq n 214) prog_13_method_66_code (⟨#[]⟩ : ByteArray)) (cond (Nat.beq n 215) prog_13_method_67_code (⟨#[]⟩ : ByteArray)))) (cond (Nat.blt n 218) (cond (Nat.blt n 217) (cond (Nat.beq n 216) prog_13_method_68_code (⟨#[]⟩ : ByteArray)) (cond (Nat.beq n 217) prog_13_method_69_code (⟨#[]⟩ : ByteArray))) (cond (Nat.blt n 219) (cond (Nat.beq n 218) prog_13_method_70_code (⟨#[]⟩ : ByteArray)) (cond (Nat.beq n 219) prog_13_method_71_code (⟨#[]⟩ : ByteArray))))) (cond (Nat.blt n 224) (cond (Nat.blt n 222) (cond (Nat.blt n 221) (cond (Nat.beq n 220) prog_13_method_72_code (⟨#[]⟩ : ByteArray)) (cond (Nat.beq n 221) prog_13_method_73_code (⟨#[]⟩ : ByteArray))) (cond (Nat.blt n 223) (cond (Nat.beq n 222) prog_13_method_74_code (⟨#[]⟩ : ByteArray)) (cond (Nat.beq n 223) prog_13_method_75_code (⟨#[]⟩ : ByteArray)))) (cond (Nat.blt n 226) (cond (Nat.blt n 225) (cond (Nat.beq n 224) prog_13_method_76_code (⟨#[]⟩ : ByteArray)) (cond (Nat.beq n 225) prog_13_method_77_code (⟨#[]⟩ : ByteArray))) (cond (Nat.blt n 227) (cond (Nat.beq n 226) prog_13_method_78_code (⟨#[]⟩ : ByteArray)) (cond (Nat.beq n 227) prog_13_method_79_code (⟨#[]⟩ : ByteArray))))))
def zby_228_16 : Nat → ByteArray := fun n => (cond (Nat.blt n 236) (cond (Nat.blt n 232) (cond (Nat.blt n 230) (cond (Nat.blt n 229) (cond (Nat.beq n 228) prog_13_method_80_code (⟨#[]⟩ : ByteArray)) (cond (Nat.beq n 229) prog_13_method_81_code (⟨#[]⟩ : ByteArray))) (cond (Nat.blt n 231) (cond (Nat.beq n 230) prog_13_method_82_code (⟨#[]⟩ : ByteArray)) (cond (Nat.beq n 231) prog_13_method_83_code (⟨#[]⟩ : ByteArray)))) (cond (Nat.blt n 234) (cond (Nat.blt n 233) (cond (Nat.beq n 232) prog_13_method_84_code (⟨#[]⟩ : ByteArray)) (cond (Nat.beq n 233) prog_13_method_85_code (⟨#[]⟩ : ByteArray))) (cond (Nat.blt n 235) (cond (Nat.beq n 234) prog_13_method_86_code (⟨#[]⟩ : ByteArray)) (cond (Nat.beq n 235) prog_13_method_87_code (⟨#[]⟩ : ByteArray))))) (cond (Nat.blt n 240) (cond (Nat.blt n 238) (cond (Nat.blt n 237) (cond (Nat.beq n 236) prog_13_method_88_code (⟨#[]⟩ : ByteArray)) (cond (Nat.beq n 237) prog_13_method_89_code (⟨#[]⟩ : ByteArray))) (cond (Nat.blt n 239) (cond (Nat.beq n 238) prog_13_method_90_code (⟨#[]⟩ : ByteArray)) (cond (Nat.beq n 239) prog_13_method_91_code (⟨#[]⟩ : ByteArray)))) (cond (Nat.blt n 242) (cond (Nat.blt n 241) (cond (Nat.beq n 240) prog_14_method_49_code (⟨#[]⟩ : ByteArray)) (cond (Nat.beq n 241) prog_17_method_101_code (⟨#[]⟩ : ByteArray))) (cond (Nat.blt n 243) (cond (Nat.beq n 242) prog_17_method_103_code (⟨#[]⟩ : ByteArray)) (cond (Nat.beq n 243) code (⟨#[]⟩ : ByteArray))))))
def zby_213_31 : Nat → ByteArray := fun n => (cond (Nat.blt n 228) (zby_213_15 n) (zby_228_16 n))
def zby_183_61 : Nat → ByteArray := fun n => (cond (Nat.blt n 213) (zby_183_30 n) (zby_213_31 n))
def zby_122_122 : Nat → ByteArray := fun n => (cond (Nat.blt n 183) (zby_122_61 n) (zby_183_61 n))
def zby : Nat → ByteArray := fun n => (cond (Nat.blt n 122) (zby_0_122 n) (zby_122_122 n))
def zml_0_15 : Nat → Nat := fun n => (cond (Nat.blt n 7) (cond (Nat.blt n 3) (cond (Nat.blt n 1) (cond (Nat.beq n 0) 3 0) (cond (Nat.blt n 2) (cond (Nat.beq n 1) 4 0) (cond (Nat.beq n 2) 3 0))) (cond (Nat.blt n 5) (cond (Nat.blt n 4) (cond (Nat.beq n 3) 4 0) (cond (Nat.beq n 4) 3 0)) (cond (Nat.blt n 6) (cond (Nat.beq n 5) 2 0) (cond (Nat.beq n 6) 3 0)))) (cond (Nat.blt n 11) (cond (Nat.blt n 9) (cond (Nat.blt n 8) (cond (Nat.beq n 7) 5 0) (cond (Nat.beq n 8) 3 0)) (cond (Nat.blt n 10) (cond (Nat.beq n 9) 3 0) (cond (Nat.beq n 10) 1 0))) (cond (Nat.blt n 13) (cond (Nat.blt n 12) (cond (Nat.beq n 11) 4 0) (cond (Nat.beq n 12) 2 0)) (cond (Nat.blt n 14) (cond (Nat.beq n 13) 5 0) (cond (Nat.beq n 14) 1 0)))))
def zml_15_15 : Nat → Nat := fun n => (cond (Nat.blt n 22) (cond (Nat.blt n 18) (cond (Nat.blt n 16) (cond (Nat.beq n 15) 1 0) (cond (Nat.blt n 17) (cond (Nat.beq n 16) 1 0) (cond (Nat.beq n 17) 2 0))) (cond (Nat.blt n 20) (cond (Nat.blt n 19) (cond (Nat.beq n 18) 2 0) (cond (Nat.beq n 19) 2 0)) (cond (Nat.blt n 21) (cond (Nat.beq n 20) 3 0) (cond (Nat.beq n 21) 3 0)))) (cond (Nat.blt n 26) (cond (Nat.blt n 24) (cond (Nat.blt n 23) (cond (Nat.beq n 22) 2 0) (cond (Nat.beq n 23) 2 0)) (cond (Nat.blt n 25) (cond (Nat.beq n 24) 2 0) (cond (Nat.beq n 25) 1 0))) (cond (Nat.blt n 28) (cond (Nat.blt n 27) (cond (Nat.beq n 26) 2 0) (cond (Nat.beq n 27) 2 0)) (cond (Nat.blt n 29) (cond (Nat.beq n 28) 7 0) (cond (Nat.beq n 29) 2 0)))))
def zml_0_30 : Nat → Nat := fun n => (cond (Nat.blt n 15) (zml_0_15 n) (zml_15_15 n))
def zml_30_15 : Nat → Nat := fun n => (cond (Nat.blt n 37) (cond (Nat.blt n 33) (cond (Nat.blt n 31) (cond (Nat.beq n 30) 7 0) (cond (Nat.blt n 32) (cond (Nat.beq n 31) 3 0) (cond (Nat.beq n 32) 2 0))) (cond (Nat.blt n 35) (cond (Nat.blt n 34) (cond (Nat.beq n 33) 3 0) (cond (Nat.beq n 34) 1 0)) (cond (Nat.blt n 36) (cond (Nat.beq n 35) 2 0) (cond (Nat.beq n 36) 5 0)))) (cond (Nat.blt n 41) (cond (Nat.blt n 39) (cond (Nat.blt n 38) (cond (Nat.beq n 37) 2 0) (cond (Nat.beq n 38) 3 0)) (cond (Nat.blt n 40) (cond (Nat.beq n 39) 3 0) (cond (Nat.beq n 40) 4 0))) (cond (Nat.blt n 43) (cond (Nat.blt n 42) (cond (Nat.beq n 41) 2 0) (cond (Nat.beq n 42) 3 0)) (cond (Nat.blt n 44) (cond (Nat.beq n 43) 4 0) (cond (Nat.beq n 44) 2 0)))))
def zml_45_16 : Nat → Nat := fun n => (cond (Nat.blt n 53) (cond (Nat.blt n 49) (cond (Nat.blt n 47) (cond (Nat.blt n 46) (cond (Nat.beq n 45) 4 0) (cond (Nat.beq n 46) 6 0)) (cond (Nat.blt n 48) (cond (Nat.beq n 47) 4 0) (cond (Nat.beq n 48) 7 0))) (cond (Nat.blt n 51) (cond (Nat.blt n 50) (cond (Nat.beq n 49) 1 0) (cond (Nat.beq n 50) 1 0)) (cond (Nat.blt n 52) (cond (Nat.beq n 51) 1 0) (cond (Nat.beq n 52) 2 0)))) (cond (Nat.blt n 57) (cond (Nat.blt n 55) (cond (Nat.blt n 54) (cond (Nat.beq n 53) 2 0) (cond (Nat.beq n 54) 3 0)) (cond (Nat.blt n 56) (cond (Nat.beq n 55) 3 0) (cond (Nat.beq n 56) 2 0))) (cond (Nat.blt n 59) (cond (Nat.blt n 58) (cond (Nat.beq n 57) 2 0) (cond (Nat.beq n 58) 2 0)) (cond (Nat.blt n 60) (cond (Nat.beq n 59) 4 0) (cond (Nat.beq n 60) 3 0)))))
def zml_30_31 : Nat → Nat := fun n => (cond (Nat.blt n 45) (zml_30_15 n) (zml_45_16 n))
def zml_0_61 : Nat → Nat := fun n => (cond (Nat.blt n 30) (zml_0_30 n) (zml_30_31 n))
def zml_61_15 : Nat → Nat := fun n => (cond (Nat.blt n 68) (cond (Nat.blt n 64) (cond (Nat.blt n 62) (cond (Nat.beq n 61) 1 0) (cond (Nat.blt n 63) (cond (Nat.beq n 62) 2 0) (cond (Nat.beq n 63) 1 0))) (cond (Nat.blt n 66) (cond (Nat.blt n 65) (cond (Nat.beq n 64) 2 0) (cond (Nat.beq n 65) 1 0)) (cond (Nat.blt n 67) (cond (Nat.beq n 66) 2 0) (cond (Nat.beq n 67) 2 0)))) (cond (Nat.blt n 72) (cond (Nat.blt n 70) (cond (Nat.blt n 69) (cond (Nat.beq n 68) 1 0) (cond (Nat.beq n 69) 1 0)) (cond (Nat.blt n 71) (cond (Nat.beq n 70) 5 0) (cond (Nat.beq n 71) 3 0))) (cond (Nat.blt n 74) (cond (Nat.blt n 73) (cond (Nat.beq n 72) 1 0) (cond (Nat.beq n 73) 3 0)) (cond (Nat.blt n 75) (cond (Nat.beq n 74) 3 0) (cond (Nat.beq n 75) 1 0)))))
def zml_76_15 : Nat → Nat := fun n => (cond (Nat.blt n 83) (cond (Nat.blt n 79) (cond (Nat.blt n 77) (cond (Nat.beq n 76) 8 0) (cond (Nat.blt n 78) (cond (Nat.beq n 77) 6 0) (cond (Nat.beq n 78) 7 0))) (cond (Nat.blt n 81) (cond (Nat.blt n 80) (cond (Nat.beq n 79) 5 0) (cond (Nat.beq n 80) 3 0)) (cond (Nat.blt n 82) (cond (Nat.beq n 81) 1 0) (cond (Nat.beq n 82) 5 0)))) (cond (Nat.blt n 87) (cond (Nat.blt n 85) (cond (Nat.blt n 84) (cond (Nat.beq n 83) 4 0) (cond (Nat.beq n 84) 6 0)) (cond (Nat.blt n 86) (cond (Nat.beq n 85) 6 0) (cond (Nat.beq n 86) 3 0))) (cond (Nat.blt n 89) (cond (Nat.blt n 88) (cond (Nat.beq n 87) 10 0) (cond (Nat.beq n 88) 1 0)) (cond (Nat.blt n 90) (cond (Nat.beq n 89) 2 0) (cond (Nat.beq n 90) 2 0)))))
def zml_61_30 : Nat → Nat := fun n => (cond (Nat.blt n 76) (zml_61_15 n) (zml_76_15 n))
def zml_91_15 : Nat → Nat := fun n => (cond (Nat.blt n 98) (cond (Nat.blt n 94) (cond (Nat.blt n 92) (cond (Nat.beq n 91) 2 0) (cond (Nat.blt n 93) (cond (Nat.beq n 92) 4 0) (cond (Nat.beq n 93) 2 0))) (cond (Nat.blt n 96) (cond (Nat.blt n 95) (cond (Nat.beq n 94) 4 0) (cond (Nat.beq n 95) 4 0)) (cond (Nat.blt n 97) (cond (Nat.beq n 96) 2 0) (cond (Nat.beq n 97) 9 0)))) (cond (Nat.blt n 102) (cond (Nat.blt n 100) (cond (Nat.blt n 99) (cond (Nat.beq n 98) 2 0) (cond (Nat.beq n 99) 3 0)) (cond (Nat.blt n 101) (cond (Nat.beq n 100) 7 0) (cond (Nat.beq n 101) 5 0))) (cond (Nat.blt n 104) (cond (Nat.blt n 103) (cond (Nat.beq n 102) 3 0) (cond (Nat.beq n 103) 2 0)) (cond (Nat.blt n 105) (cond (Nat.beq n 104) 2 0) (cond (Nat.beq n 105) 4 0)))))
def zml_106_16 : Nat → Nat := fun n => (cond (Nat.blt n 114) (cond (Nat.blt n 110) (cond (Nat.blt n 108) (cond (Nat.blt n 107) (cond (Nat.beq n 106) 5 0) (cond (Nat.beq n 107) 3 0)) (cond (Nat.blt n 109) (cond (Nat.beq n 108) 3 0) (cond (Nat.beq n 109) 4 0))) (cond (Nat.blt n 112) (cond (Nat.blt n 111) (cond (Nat.beq n 110) 3 0) (cond (Nat.beq n 111) 4 0)) (cond (Nat.blt n 113) (cond (Nat.beq n 112) 3 0) (cond (Nat.beq n 113) 3 0)))) (cond (Nat.blt n 118) (cond (Nat.blt n 116) (cond (Nat.blt n 115) (cond (Nat.beq n 114) 3 0) (cond (Nat.beq n 115) 4 0)) (cond (Nat.blt n 117) (cond (Nat.beq n 116) 3 0) (cond (Nat.beq n 117) 4 0))) (cond (Nat.blt n 120) (cond (Nat.blt n 119) (cond (Nat.beq n 118) 4 0) (cond (Nat.beq n 119) 5 0)) (cond (Nat.blt n 121) (cond (Nat.beq n 120) 6 0) (cond (Nat.beq n 121) 3 0)))))
def zml_91_31 : Nat → Nat := fun n => (cond (Nat.blt n 106) (zml_91_15 n) (zml_106_16 n))
def zml_61_61 : Nat → Nat := fun n => (cond (Nat.blt n 91) (zml_61_30 n) (zml_91_31 n))
def zml_0_122 : Nat → Nat := fun n => (cond (Nat.blt n 61) (zml_0_61 n) (zml_61_61 n))
def zml_122_15 : Nat → Nat := fun n => (cond (Nat.blt n 129) (cond (Nat.blt n 125) (cond (Nat.blt n 123) (cond (Nat.beq n 122) 5 0) (cond (Nat.blt n 124) (cond (Nat.beq n 123) 3 0) (cond (Nat.beq n 124) 2 0))) (cond (Nat.blt n 127) (cond (Nat.blt n 126) (cond (Nat.beq n 125) 2 0) (cond (Nat.beq n 126) 1 0)) (cond (Nat.blt n 128) (cond (Nat.beq n 127) 1 0) (cond (Nat.beq n 128) 1 0)))) (cond (Nat.blt n 133) (cond (Nat.blt n 131) (cond (Nat.blt n 130) (cond (Nat.beq n 129) 1 0) (cond (Nat.beq n 130) 2 0)) (cond (Nat.blt n 132) (cond (Nat.beq n 131) 4 0) (cond (Nat.beq n 132) 2 0))) (cond (Nat.blt n 135) (cond (Nat.blt n 134) (cond (Nat.beq n 133) 3 0) (cond (Nat.beq n 134) 4 0)) (cond (Nat.blt n 136) (cond (Nat.beq n 135) 6 0) (cond (Nat.beq n 136) 3 0)))))
def zml_137_15 : Nat → Nat := fun n => (cond (Nat.blt n 144) (cond (Nat.blt n 140) (cond (Nat.blt n 138) (cond (Nat.beq n 137) 8 0) (cond (Nat.blt n 139) (cond (Nat.beq n 138) 5 0) (cond (Nat.beq n 139) 2 0))) (cond (Nat.blt n 142) (cond (Nat.blt n 141) (cond (Nat.beq n 140) 3 0) (cond (Nat.beq n 141) 1 0)) (cond (Nat.blt n 143) (cond (Nat.beq n 142) 1 0) (cond (Nat.beq n 143) 1 0)))) (cond (Nat.blt n 148) (cond (Nat.blt n 146) (cond (Nat.blt n 145) (cond (Nat.beq n 144) 1 0) (cond (Nat.beq n 145) 1 0)) (cond (Nat.blt n 147) (cond (Nat.beq n 146) 4 0) (cond (Nat.beq n 147) 2 0))) (cond (Nat.blt n 150) (cond (Nat.blt n 149) (cond (Nat.beq n 148) 6 0) (cond (Nat.beq n 149) 6 0)) (cond (Nat.blt n 151) (cond (Nat.beq n 150) 3 0) (cond (Nat.beq n 151) 2 0)))))
def zml_122_30 : Nat → Nat := fun n => (cond (Nat.blt n 137) (zml_122_15 n) (zml_137_15 n))
def zml_152_15 : Nat → Nat := fun n => (cond (Nat.blt n 159) (cond (Nat.blt n 155) (cond (Nat.blt n 153) (cond (Nat.beq n 152) 2 0) (cond (Nat.blt n 154) (cond (Nat.beq n 153) 5 0) (cond (Nat.beq n 154) 1 0))) (cond (Nat.blt n 157) (cond (Nat.blt n 156) (cond (Nat.beq n 155) 1 0) (cond (Nat.beq n 156) 3 0)) (cond (Nat.blt n 158) (cond (Nat.beq n 157) 3 0) (cond (Nat.beq n 158) 6 0)))) (cond (Nat.blt n 163) (cond (Nat.blt n 161) (cond (Nat.blt n 160) (cond (Nat.beq n 159) 5 0) (cond (Nat.beq n 160) 3 0)) (cond (Nat.blt n 162) (cond (Nat.beq n 161) 7 0) (cond (Nat.beq n 162) 3 0))) (cond (Nat.blt n 165) (cond (Nat.blt n 164) (cond (Nat.beq n 163) 2 0) (cond (Nat.beq n 164) 5 0)) (cond (Nat.blt n 166) (cond (Nat.beq n 165) 4 0) (cond (Nat.beq n 166) 2 0)))))
def zml_167_16 : Nat → Nat := fun n => (cond (Nat.blt n 175) (cond (Nat.blt n 171) (cond (Nat.blt n 169) (cond (Nat.blt n 168) (cond (Nat.beq n 167) 1 0) (cond (Nat.beq n 168) 1 0)) (cond (Nat.blt n 170) (cond (Nat.beq n 169) 2 0) (cond (Nat.beq n 170) 3 0))) (cond (Nat.blt n 173) (cond (Nat.blt n 172) (cond (Nat.beq n 171) 3 0) (cond (Nat.beq n 172) 4 0)) (cond (Nat.blt n 174) (cond (Nat.beq n 173) 4 0) (cond (Nat.beq n 174) 4 0)))) (cond (Nat.blt n 179) (cond (Nat.blt n 177) (cond (Nat.blt n 176) (cond (Nat.beq n 175) 1 0) (cond (Nat.beq n 176) 5 0)) (cond (Nat.blt n 178) (cond (Nat.beq n 177) 8 0) (cond (Nat.beq n 178) 4 0))) (cond (Nat.blt n 181) (cond (Nat.blt n 180) (cond (Nat.beq n 179) 9 0) (cond (Nat.beq n 180) 1 0)) (cond (Nat.blt n 182) (cond (Nat.beq n 181) 2 0) (cond (Nat.beq n 182) 1 0)))))
def zml_152_31 : Nat → Nat := fun n => (cond (Nat.blt n 167) (zml_152_15 n) (zml_167_16 n))
def zml_122_61 : Nat → Nat := fun n => (cond (Nat.blt n 152) (zml_122_30 n) (zml_152_31 n))
def zml_183_15 : Nat → Nat := fun n => (cond (Nat.blt n 190) (cond (Nat.blt n 186) (cond (Nat.blt n 184) (cond (Nat.beq n 183) 1 0) (cond (Nat.blt n 185) (cond (Nat.beq n 184) 4 0) (cond (Nat.beq n 185) 6 0))) (cond (Nat.blt n 188) (cond (Nat.blt n 187) (cond (Nat.beq n 186) 3 0) (cond (Nat.beq n 187) 4 0)) (cond (Nat.blt n 189) (cond (Nat.beq n 188) 4 0) (cond (Nat.beq n 189) 8 0)))) (cond (Nat.blt n 194) (cond (Nat.blt n 192) (cond (Nat.blt n 191) (cond (Nat.beq n 190) 4 0) (cond (Nat.beq n 191) 4 0)) (cond (Nat.blt n 193) (cond (Nat.beq n 192) 4 0) (cond (Nat.beq n 193) 8 0))) (cond (Nat.blt n 196) (cond (Nat.blt n 195) (cond (Nat.beq n 194) 6 0) (cond (Nat.beq n 195) 8 0)) (cond (Nat.blt n 197) (cond (Nat.beq n 196) 5 0) (cond (Nat.beq n 197) 1 0)))))
def zml_198_15 : Nat → Nat := fun n => (cond (Nat.blt n 205) (cond (Nat.blt n 201) (cond (Nat.blt n 199) (cond (Nat.beq n 198) 5 0) (cond (Nat.blt n 200) (cond (Nat.beq n 199) 8 0) (cond (Nat.beq n 200) 9 0))) (cond (Nat.blt n 203) (cond (Nat.blt n 202) (cond (Nat.beq n 201) 7 0) (cond (Nat.beq n 202) 5 0)) (cond (Nat.blt n 204) (cond (Nat.beq n 203) 7 0) (cond (Nat.beq n 204) 3 0)))) (cond (Nat.blt n 209) (cond (Nat.blt n 207) (cond (Nat.blt n 206) (cond (Nat.beq n 205) 2 0) (cond (Nat.beq n 206) 5 0)) (cond (Nat.blt n 208) (cond (Nat.beq n 207) 3 0) (cond (Nat.beq n 208) 7 0))) (cond (Nat.blt n 211) (cond (Nat.blt n 210) (cond (Nat.beq n 209) 4 0) (cond (Nat.beq n 210) 8 0)) (cond (Nat.blt n 212) (cond (Nat.beq n 211) 10 0) (cond (Nat.beq n 212) 6 0)))))
def zml_183_30 : Nat → Nat := fun n => (cond (Nat.blt n 198) (zml_183_15 n) (zml_198_15 n))
def zml_213_15 : Nat → Nat := fun n => (cond (Nat.blt n 220) (cond (Nat.blt n 216) (cond (Nat.blt n 214) (cond (Nat.beq n 213) 10 0) (cond (Nat.blt n 215) (cond (Nat.beq n 214) 4 0) (cond (Nat.beq n 215) 3 0))) (cond (Nat.blt n 218) (cond (Nat.blt n 217) (cond (Nat.beq n 216) 2 0) (cond (Nat.beq n 217) 2 0)) (cond (Nat.blt n 219) (cond (Nat.beq n 218) 2 0) (cond (Nat.beq n 219) 2 0)))) (cond (Nat.blt n 224) (cond (Nat.blt n 222) (cond (Nat.blt n 221) (cond (Nat.beq n 220) 2 0) (cond (Nat.beq n 221) 2 0)) (cond (Nat.blt n 223) (cond (Nat.beq n 222) 1 0) (cond (Nat.beq n 223) 2 0))) (cond (Nat.blt n 226) (cond (Nat.blt n 225) (cond (Nat.beq n 224) 3 0) (cond (Nat.beq n 225) 4 0)) (cond (Nat.blt n 227) (cond (Nat.beq n 226) 4 0) (cond (Nat.beq n 227) 4 0)))))
def zml_228_16 : Nat → Nat := fun n => (cond (Nat.blt n 236) (cond (Nat.blt n 232) (cond (Nat.blt n 230) (cond (Nat.blt n 229) (cond (Nat.beq n 228) 4 0) (cond (Nat.beq n 229) 2 0)) (cond (Nat.blt n 231) (cond (Nat.beq n 230) 1 0) (cond (Nat.beq n 231) 3 0))) (cond (Nat.blt n 234) (cond (Nat.blt n 233) (cond (Nat.beq n 232) 5 0) (cond (Nat.beq n 233) 3 0)) (cond (Nat.blt n 235) (cond (Nat.beq n 234) 3 0) (cond (Nat.beq n 235) 6 0)))) (cond (Nat.blt n 240) (cond (Nat.blt n 238) (cond (Nat.blt n 237) (cond (Nat.beq n 236) 3 0) (cond (Nat.beq n 237) 7 0)) (cond (Nat.blt n 239) (cond (Nat.beq n 238) 4 0) (cond (Nat.beq n 239) 2 0))) (cond (Nat.blt n 242) (cond (Nat.blt n 241) (cond (Nat.beq n 240) 1 0) (cond (Nat.beq n 241) 5 0)) (cond (Nat.blt n 243) (cond (Nat.beq n 242) 4 0) (cond (Nat.beq n 243) 4 0)))))
def zml_213_31 : Nat → Nat := fun n => (cond (Nat.blt n 228) (zml_213_15 n) (zml_228_16 n))
def zml_183_61 : Nat → Nat := fun n => (cond (Nat.blt n 213) (zml_183_30 n) (zml_213_31 n))
def zml_122_122 : Nat → Nat := fun n => (cond (Nat.blt n 183) (zml_122_61 n) (zml_183_61 n))
def zml : Nat → Nat := fun n => (cond (Nat.blt n 122) (zml_0_122 n) (zml_122_122 n))
def zrt_0_15 : Nat → Option FieldType := fun n => (cond (Nat.blt n 7) (cond (Nat.blt n 3) (cond (Nat.blt n 1) (cond (Nat.beq n 0) none none) (cond (Nat.blt n 2) (cond (Nat.beq n 1) none none) (cond (Nat.beq n 2) none none))) (cond (Nat.blt n 5) (cond (Nat.blt n 4) (cond (Nat.beq n 3) none none) (cond (Nat.beq n 4) none none)) (cond (Nat.blt n 6) (cond (Nat.beq n 5) none none) (cond (Nat.beq n 6) none none)))) (cond (Nat.blt n 11) (cond (Nat.blt n 9) (cond (Nat.blt n 8) (cond (Nat.beq n 7) none none) (cond (Nat.beq n 8) (some .boolean) none)) (cond (Nat.blt n 10) (cond (Nat.beq n 9) (some .int) none) (cond (Nat.beq n 10) (some .int) none))) (cond (Nat.blt n 13) (cond (Nat.blt n 12) (cond (Nat.beq n 11) (some .int) none) (cond (Nat.beq n 12) none none)) (cond (Nat.blt n 14) (cond (Nat.beq n 13) none none) (cond (Nat.beq n 14) none none)))))
def zrt_15_15 : Nat → Option FieldType := fun n => (cond (Nat.blt n 22) (cond (Nat.blt n 18) (cond (Nat.blt n 16) (cond (Nat.beq n 15) (some .int) none) (cond (Nat.blt n 17) (cond (Nat.beq n 16) (some .int) none) (cond (Nat.beq n 17) none none))) (cond (Nat.blt n 20) (cond (Nat.blt n 19) (cond (Nat.beq n 18) (some .int) none) (cond (Nat.beq n 19) (some .int) none)) (cond (Nat.blt n 21) (cond (Nat.beq n 20) none none) (cond (Nat.beq n 21) (some .int) none)))) (cond (Nat.blt n 26) (cond (Nat.blt n 24) (cond (Nat.blt n 23) (cond (Nat.beq n 22) (some .int) none) (cond (Nat.beq n 23) (some .int) none)) (cond (Nat.blt n 25) (cond (Nat.beq n 24) none none) (cond (Nat.beq n 25) (some .boolean) none))) (cond (Nat.blt n 28) (cond (Nat.blt n 27) (cond (Nat.beq n 26) none none) (cond (Nat.beq n 27) none none)) (cond (Nat.blt n 29) (cond (Nat.beq n 28) (some .int) none) (cond (Nat.beq n 29) (some .int) none)))))
def zrt_0_30 : Nat → Option FieldType := fun n => (cond (Nat.blt n 15) (zrt_0_15 n) (zrt_15_15 n))
def zrt_30_15 : Nat → Option FieldType := fun n => (cond (Nat.blt n 37) (cond (Nat.blt n 33) (cond (Nat.blt n 31) (cond (Nat.beq n 30) (some .int) none) (cond (Nat.blt n 32) (cond (Nat.beq n 31) (some .int) none) (cond (Nat.beq n 32) (some .int) none))) (cond (Nat.blt n 35) (cond (Nat.blt n 34) (cond (Nat.beq n 33) (some .int) none) (cond (Nat.beq n 34) none none)) (cond (Nat.blt n 36) (cond (Nat.beq n 35) (some .boolean) none) (cond (Nat.beq n 36) (some .int) none)))) (cond (Nat.blt n 41) (cond (Nat.blt n 39) (cond (Nat.blt n 38) (cond (Nat.beq n 37) (some .boolean) none) (cond (Nat.beq n 38) (some .boolean) none)) (cond (Nat.blt n 40) (cond (Nat.beq n 39) (some .int) none) (cond (Nat.beq n 40) none none))) (cond (Nat.blt n 43) (cond (Nat.blt n 42) (cond (Nat.beq n 41) (some .int) none) (cond (Nat.beq n 42) (some .boolean) none)) (cond (Nat.blt n 44) (cond (Nat.beq n 43) (some .int) none) (cond (Nat.beq n 44) none none)))))
def zrt_45_16 : Nat → Option FieldType := fun n => (cond (Nat.blt n 53) (cond (Nat.blt n 49) (cond (Nat.blt n 47) (cond (Nat.blt n 46) (cond (Nat.beq n 45) (some .int) none) (cond (Nat.beq n 46) (some .int) none)) (cond (Nat.blt n 48) (cond (Nat.beq n 47) (some .int) none) (cond (Nat.beq n 48) (some .int) none))) (cond (Nat.blt n 51) (cond (Nat.blt n 50) (cond (Nat.beq n 49) none none) (cond (Nat.beq n 50) (some .boolean) none)) (cond (Nat.blt n 52) (cond (Nat.beq n 51) (some .boolean) none) (cond (Nat.beq n 52) (some .boolean) none)))) (cond (Nat.blt n 57) (cond (Nat.blt n 55) (cond (Nat.blt n 54) (cond (Nat.beq n 53) none none) (cond (Nat.beq n 54) none none)) (cond (Nat.blt n 56) (cond (Nat.beq n 55) (some .boolean) none) (cond (Nat.beq n 56) (some .int) none))) (cond (Nat.blt n 59) (cond (Nat.blt n 58) (cond (Nat.beq n 57) (some .int) none) (cond (Nat.beq n 58) (some .long) none)) (cond (Nat.blt n 60) (cond (Nat.beq n 59) none none) (cond (Nat.beq n 60) (some .long) none)))))
def zrt_30_31 : Nat → Option FieldType := fun n => (cond (Nat.blt n 45) (zrt_30_15 n) (zrt_45_16 n))
def zrt_0_61 : Nat → Option FieldType := fun n => (cond (Nat.blt n 30) (zrt_0_30 n) (zrt_30_31 n))
def zrt_61_15 : Nat → Option FieldType := fun n => (cond (Nat.blt n 68) (cond (Nat.blt n 64) (cond (Nat.blt n 62) (cond (Nat.beq n 61) none none) (cond (Nat.blt n 63) (cond (Nat.beq n 62) (some .int) none) (cond (Nat.beq n 63) none none))) (cond (Nat.blt n 66) (cond (Nat.blt n 65) (cond (Nat.beq n 64) (some .int) none) (cond (Nat.beq n 65) (some .int) none)) (cond (Nat.blt n 67) (cond (Nat.beq n 66) (some .boolean) none) (cond (Nat.beq n 67) none none)))) (cond (Nat.blt n 72) (cond (Nat.blt n 70) (cond (Nat.blt n 69) (cond (Nat.beq n 68) (some .boolean) none) (cond (Nat.beq n 69) (some .int) none)) (cond (Nat.blt n 71) (cond (Nat.beq n 70) (some .boolean) none) (cond (Nat.beq n 71) (some .boolean) none))) (cond (Nat.blt n 74) (cond (Nat.blt n 73) (cond (Nat.beq n 72) (some .boolean) none) (cond (Nat.beq n 73) none none)) (cond (Nat.blt n 75) (cond (Nat.beq n 74) none none) (cond (Nat.beq n 75) (some .int) none)))))
def zrt_76_15 : Nat → Option FieldType := fun n => (cond (Nat.blt n 83) (cond (Nat.blt n 79) (cond (Nat.blt n 77) (cond (Nat.beq n 76) (some .int) none) (cond (Nat.blt n 78) (cond (Nat.beq n 77) (some .int) none) (cond (Nat.beq n 78) (some .int) none))) (cond (Nat.blt n 81) (cond (Nat.blt n 80) (cond (Nat.beq n 79) none none) (cond (Nat.beq n 80) none none)) (cond (Nat.blt n 82) (cond (Nat.beq n 81) (some .int) none) (cond (Nat.beq n 82) (some .int) none)))) (cond (Nat.blt n 87) (cond (Nat.blt n 85) (cond (Nat.blt n 84) (cond (Nat.beq n 83) (some .int) none) (cond (Nat.beq n 84) (some .int) none)) (cond (Nat.blt n 86) (cond (Nat.beq n 85) (some .int) none) (cond (Nat.beq n 86) none none))) (cond (Nat.blt n 89) (cond (Nat.blt n 88) (cond (Nat.beq n 87) (some .int) none) (cond (Nat.beq n 88) none none)) (cond (Nat.blt n 90) (cond (Nat.beq n 89) (some .int) none) (cond (Nat.beq n 90) (some .boolean) none)))))
def zrt_61_30 : Nat → Option FieldType := fun n => (cond (Nat.blt n 76) (zrt_61_15 n) (zrt_76_15 n))
def zrt_91_15 : Nat → Option FieldType := fun n => (cond (Nat.blt n 98) (cond (Nat.blt n 94) (cond (Nat.blt n 92) (cond (Nat.beq n 91) (some .int) none) (cond (Nat.blt n 93) (cond (Nat.beq n 92) (some .boolean) none) (cond (Nat.beq n 93) (some .int) none))) (cond (Nat.blt n 96) (cond (Nat.blt n 95) (cond (Nat.beq n 94) (some .int) none) (cond (Nat.beq n 95) (some .int) none)) (cond (Nat.blt n 97) (cond (Nat.beq n 96) none none) (cond (Nat.beq n 97) (some .int) none)))) (cond (Nat.blt n 102) (cond (Nat.blt n 100) (cond (Nat.blt n 99) (cond (Nat.beq n 98) none none) (cond (Nat.beq n 99) (some .int) none)) (cond (Nat.blt n 101) (cond (Nat.beq n 100) (some .int) none) (cond (Nat.beq n 101) (some .int) none))) (cond (Nat.blt n 104) (cond (Nat.blt n 103) (cond (Nat.beq n 102) (some .int) none) (cond (Nat.beq n 103) (some .int) none)) (cond (Nat.blt n 105) (cond (Nat.beq n 104) (some .int) none) (cond (Nat.beq n 105) (some .int) none)))))
def zrt_106_16 : Nat → Option FieldType := fun n => (cond (Nat.blt n 114) (cond (Nat.blt n 110) (cond (Nat.blt n 108) (cond (Nat.blt n 107) (cond (Nat.beq n 106) (some .int) none) (cond (Nat.beq n 107) (some .int) none)) (cond (Nat.blt n 109) (cond (Nat.beq n 108) (some .int) none) (cond (Nat.beq n 109) (some .int) none))) (cond (Nat.blt n 112) (cond (Nat.blt n 111) (cond (Nat.beq n 110) (some .int) none) (cond (Nat.beq n 111) (some .int) none)) (cond (Nat.blt n 113) (cond (Nat.beq n 112) (some .int) none) (cond (Nat.beq n 113) (some .int) none)))) (cond (Nat.blt n 118) (cond (Nat.blt n 116) (cond (Nat.blt n 115) (cond (Nat.beq n 114) (some .int) none) (cond (Nat.beq n 115) (some .int) none)) (cond (Nat.blt n 117) (cond (Nat.beq n 116) (some .int) none) (cond (Nat.beq n 117) (some .int) none))) (cond (Nat.blt n 120) (cond (Nat.blt n 119) (cond (Nat.beq n 118) (some .int) none) (cond (Nat.beq n 119) (some .int) none)) (cond (Nat.blt n 121) (cond (Nat.beq n 120) (some .int) none) (cond (Nat.beq n 121) (some .int) none)))))
def zrt_91_31 : Nat → Option FieldType := fun n => (cond (Nat.blt n 106) (zrt_91_15 n) (zrt_106_16 n))
def zrt_61_61 : Nat → Option FieldType := fun n => (cond (Nat.blt n 91) (zrt_61_30 n) (zrt_91_31 n))
def zrt_0_122 : Nat → Option FieldType := fun n => (cond (Nat.blt n 61) (zrt_0_61 n) (zrt_61_61 n))
def zrt_122_15 : Nat → Option FieldType := fun n => (cond (Nat.blt n 129) (cond (Nat.blt n 125) (cond (Nat.blt n 123) (cond (Nat.beq n 122) (some .int) none) (cond (Nat.blt n 124) (cond (Nat.beq n 123) (some .int) none) (cond (Nat.beq n 124) (some .int) none))) (cond (Nat.blt n 127) (cond (Nat.blt n 126) (cond (Nat.beq n 125) (some .int) none) (cond (Nat.beq n 126) (some .int) none)) (cond (Nat.blt n 128) (cond (Nat.beq n 127) (some .int) none) (cond (Nat.beq n 128) (some .int) none)))) (cond (Nat.blt n 133) (cond (Nat.blt n 131) (cond (Nat.blt n 130) (cond (Nat.beq n 129) (some .int) none) (cond (Nat.beq n 130) (some .int) none)) (cond (Nat.blt n 132) (cond (Nat.beq n 131) (some .int) none) (cond (Nat.beq n 132) (some .int) none))) (cond (Nat.blt n 135) (cond (Nat.blt n 134) (cond (Nat.beq n 133) (some .int) none) (cond (Nat.beq n 134) (some .int) none)) (cond (Nat.blt n 136) (cond (Nat.beq n 135) (some .int) none) (cond (Nat.beq n 136) (some .long) none)))))
def zrt_137_15 : Nat → Option FieldType := fun n => (cond (Nat.blt n 144) (cond (Nat.blt n 140) (cond (Nat.blt n 138) (cond (Nat.beq n 137) (some .int) none) (cond (Nat.blt n 139) (cond (Nat.beq n 138) (some .int) none) (cond (Nat.beq n 139) (some .int) none))) (cond (Nat.blt n 142) (cond (Nat.blt n 141) (cond (Nat.beq n 140) (some .boolean) none) (cond (Nat.beq n 141) (some .boolean) none)) (cond (Nat.blt n 143) (cond (Nat.beq n 142) (some .boolean) none) (cond (Nat.beq n 143) (some .boolean) none)))) (cond (Nat.blt n 148) (cond (Nat.blt n 146) (cond (Nat.blt n 145) (cond (Nat.beq n 144) (some .boolean) none) (cond (Nat.beq n 145) (some .boolean) none)) (cond (Nat.blt n 147) (cond (Nat.beq n 146) (some .int) none) (cond (Nat.beq n 147) (some .boolean) none))) (cond (Nat.blt n 150) (cond (Nat.blt n 149) (cond (Nat.beq n 148) (some .boolean) none) (cond (Nat.beq n 149) (some .boolean) none)) (cond (Nat.blt n 151) (cond (Nat.beq n 150) (some .int) none) (cond (Nat.beq n 151) (some .boolean) none)))))
def zrt_122_30 : Nat → Option FieldType := fun n => (cond (Nat.blt n 137) (zrt_122_15 n) (zrt_137_15 n))
def zrt_152_15 : Nat → Option FieldType := fun n => (cond (Nat.blt n 159) (cond (Nat.blt n 155) (cond (Nat.blt n 153) (cond (Nat.beq n 152) none none) (cond (Nat.blt n 154) (cond (Nat.beq n 153) (some .int) none) (cond (Nat.beq n 154) (some .int) none))) (cond (Nat.blt n 157) (cond (Nat.blt n 156) (cond (Nat.beq n 155) (some .int) none) (cond (Nat.beq n 156) (some .boolean) none)) (cond (Nat.blt n 158) (cond (Nat.beq n 157) (some .int) none) (cond (Nat.beq n 158) (some .boolean) none)))) (cond (Nat.blt n 163) (cond (Nat.blt n 161) (cond (Nat.blt n 160) (cond (Nat.beq n 159) none none) (cond (Nat.beq n 160) (some .int) none)) (cond (Nat.blt n 162) (cond (Nat.beq n 161) (some .int) none) (cond (Nat.beq n 162) (some .int) none))) (cond (Nat.blt n 165) (cond (Nat.blt n 164) (cond (Nat.beq n 163) (some .boolean) none) (cond (Nat.beq n 164) (some .int) none)) (cond (Nat.blt n 166) (cond (Nat.beq n 165) (some .int) none) (cond (Nat.beq n 166) (some .int) none)))))
def zrt_167_16 : Nat → Option FieldType := fun n => (cond (Nat.blt n 175) (cond (Nat.blt n 171) (cond (Nat.blt n 169) (cond (Nat.blt n 168) (cond (Nat.beq n 167) (some .int) none) (cond (Nat.beq n 168) (some .int) none)) (cond (Nat.blt n 170) (cond (Nat.beq n 169) (some .boolean) none) (cond (Nat.beq n 170) (some .int) none))) (cond (Nat.blt n 173) (cond (Nat.blt n 172) (cond (Nat.beq n 171) (some .int) none) (cond (Nat.beq n 172) (some .int) none)) (cond (Nat.blt n 174) (cond (Nat.beq n 173) (some .int) none) (cond (Nat.beq n 174) (some .int) none)))) (cond (Nat.blt n 179) (cond (Nat.blt n 177) (cond (Nat.blt n 176) (cond (Nat.beq n 175) (some .int) none) (cond (Nat.beq n 176) (some .int) none)) (cond (Nat.blt n 178) (cond (Nat.beq n 177) (some .int) none) (cond (Nat.beq n 178) (some .int) none))) (cond (Nat.blt n 181) (cond (Nat.blt n 180) (cond (Nat.beq n 179) (some .int) none) (cond (Nat.beq n 180) (some .boolean) none)) (cond (Nat.blt n 182) (cond (Nat.beq n 181) (some .boolean) none) (cond (Nat.beq n 182) (some .boolean) none)))))
def zrt_152_31 : Nat → Option FieldType := fun n => (cond (Nat.blt n 167) (zrt_152_15 n) (zrt_167_16 n))
def zrt_122_61 : Nat → Option FieldType := fun n => (cond (Nat.blt n 152) (zrt_122_30 n) (zrt_152_31 n))
def zrt_183_15 : Nat → Option FieldType := fun n => (cond (Nat.blt n 190) (cond (Nat.blt n 186) (cond (Nat.blt n 184) (cond (Nat.beq n 183) (some .boolean) none) (cond (Nat.blt n 185) (cond (Nat.beq n 184) (some .int) none) (cond (Nat.beq n 185) (some .int) none))) (cond (Nat.blt n 188) (cond (Nat.blt n 187) (cond (Nat.beq n 186) (some .boolean) none) (cond (Nat.beq n 187) (some .boolean) none)) (cond (Nat.blt n 189) (cond (Nat.beq n 188) (some .int) none) (cond (Nat.beq n 189) none none)))) (cond (Nat.blt n 194) (cond (Nat.blt n 192) (cond (Nat.blt n 191) (cond (Nat.beq n 190) (some .int) none) (cond (Nat.beq n 191) (some .int) none)) (cond (Nat.blt n 193) (cond (Nat.beq n 192) (some .int) none) (cond (Nat.beq n 193) (some .int) none))) (cond (Nat.blt n 196) (cond (Nat.blt n 195) (cond (Nat.beq n 194) (some .int) none) (cond (Nat.beq n 195) (some .int) none)) (cond (Nat.blt n 197) (cond (Nat.beq n 196) (some .int) none) (cond (Nat.beq n 197) (some .boolean) none)))))
def zrt_198_15 : Nat → Option FieldType := fun n => (cond (Nat.blt n 205) (cond (Nat.blt n 201) (cond (Nat.blt n 199) (cond (Nat.beq n 198) (some .int) none) (cond (Nat.blt n 200) (cond (Nat.beq n 199) (some .int) none) (cond (Nat.beq n 200) (some .int) none))) (cond (Nat.blt n 203) (cond (Nat.blt n 202) (cond (Nat.beq n 201) (some .int) none) (cond (Nat.beq n 202) (some .int) none)) (cond (Nat.blt n 204) (cond (Nat.beq n 203) (some .int) none) (cond (Nat.beq n 204) (some .int) none)))) (cond (Nat.blt n 209) (cond (Nat.blt n 207) (cond (Nat.blt n 206) (cond (Nat.beq n 205) (some .int) none) (cond (Nat.beq n 206) (some .int) none)) (cond (Nat.blt n 208) (cond (Nat.beq n 207) (some .int) none) (cond (Nat.beq n 208) (some .int) none))) (cond (Nat.blt n 211) (cond (Nat.blt n 210) (cond (Nat.beq n 209) (some .int) none) (cond (Nat.beq n 210) (some .int) none)) (cond (Nat.blt n 212) (cond (Nat.beq n 211) (some .int) none) (cond (Nat.beq n 212) (some .int) none)))))
def zrt_183_30 : Nat → Option FieldType := fun n => (cond (Nat.blt n 198) (zrt_183_15 n) (zrt_198_15 n))
def zrt_213_15 : Nat → Option FieldType := fun n => (cond (Nat.blt n 220) (cond (Nat.blt n 216) (cond (Nat.blt n 214) (cond (Nat.beq n 213) (some .int) none) (cond (Nat.blt n 215) (cond (Nat.beq n 214) (some .int) none) (cond (Nat.beq n 215) (some .int) none))) (cond (Nat.blt n 218) (cond (Nat.blt n 217) (cond (Nat.beq n 216) (some .int) none) (cond (Nat.beq n 217) (some .int) none)) (cond (Nat.blt n 219) (cond (Nat.beq n 218) (some .int) none) (cond (Nat.beq n 219) (some .boolean) none)))) (cond (Nat.blt n 224) (cond (Nat.blt n 222) (cond (Nat.blt n 221) (cond (Nat.beq n 220) (some .int) none) (cond (Nat.beq n 221) (some .int) none)) (cond (Nat.blt n 223) (cond (Nat.beq n 222) (some .int) none) (cond (Nat.beq n 223) none none))) (cond (Nat.blt n 226) (cond (Nat.blt n 225) (cond (Nat.beq n 224) (some .int) none) (cond (Nat.beq n 225) (some .int) none)) (cond (Nat.blt n 227) (cond (Nat.beq n 226) (some .int) none) (cond (Nat.beq n 227) (some .int) none)))))
def zrt_228_16 : Nat → Option FieldType := fun n => (cond (Nat.blt n 236) (cond (Nat.blt n 232) (cond (Nat.blt n 230) (cond (Nat.blt n 229) (cond (Nat.beq n 228) (some .int) none) (cond (Nat.beq n 229) (some .int) none)) (cond (Nat.blt n 231) (cond (Nat.beq n 230) (some .boolean) none) (cond (Nat.beq n 231) (some .int) none))) (cond (Nat.blt n 234) (cond (Nat.blt n 233) (cond (Nat.beq n 232) (some .int) none) (cond (Nat.beq n 233) (some .int) none)) (cond (Nat.blt n 235) (cond (Nat.beq n 234) (some .long) none) (cond (Nat.beq n 235) (some .int) none)))) (cond (Nat.blt n 240) (cond (Nat.blt n 238) (cond (Nat.blt n 237) (cond (Nat.beq n 236) (some .long) none) (cond (Nat.beq n 237) (some .int) none)) (cond (Nat.blt n 239) (cond (Nat.beq n 238) (some .int) none) (cond (Nat.beq n 239) (some .int) none))) (cond (Nat.blt n 242) (cond (Nat.blt n 241) (cond (Nat.beq n 240) (some .int) none) (cond (Nat.beq n 241) none none)) (cond (Nat.blt n 243) (cond (Nat.beq n 242) none none) (cond (Nat.beq n 243) (some .boolean) none)))))
def zrt_213_31 : Nat → Option FieldType := fun n => (cond (Nat.blt n 228) (zrt_213_15 n) (zrt_228_16 n))
def zrt_183_61 : Nat → Option FieldType := fun n => (cond (Nat.blt n 213) (zrt_183_30 n) (zrt_213_31 n))
def zrt_122_122 : Nat → Option FieldType := fun n => (cond (Nat.blt n 183) (zrt_122_61 n) (zrt_183_61 n))
def zrt : Nat → Option FieldType := fun n => (cond (Nat.blt n 122) (zrt_0_122 n) (zrt_122_122 n))
def zrk_0_15 : Nat → Nat := fun n => (cond (Nat.blt n 7) (cond (Nat.blt n 3) (cond (Nat.blt n 1) (cond (Nat.beq n 0) 0 0) (cond (Nat.blt n 2) (cond (Nat.beq n 1) 0 0) (cond (Nat.beq n 2) 0 0))) (cond (Nat.blt n 5) (cond (Nat.blt n 4) (cond (Nat.beq n 3) 0 0) (cond (Nat.beq n 4) 0 0)) (cond (Nat.blt n 6) (cond (Nat.beq n 5) 0 0) (cond (Nat.beq n 6) 0 0)))) (cond (Nat.blt n 11) (cond (Nat.blt n 9) (cond (Nat.blt n 8) (cond (Nat.beq n 7) 0 0) (cond (Nat.beq n 8) 4 0)) (cond (Nat.blt n 10) (cond (Nat.beq n 9) 1 0) (cond (Nat.beq n 10) 1 0))) (cond (Nat.blt n 13) (cond (Nat.blt n 12) (cond (Nat.beq n 11) 1 0) (cond (Nat.beq n 12) 0 0)) (cond (Nat.blt n 14) (cond (Nat.beq n 13) 0 0) (cond (Nat.beq n 14) 0 0)))))
def zrk_15_15 : Nat → Nat := fun n => (cond (Nat.blt n 22) (cond (Nat.blt n 18) (cond (Nat.blt n 16) (cond (Nat.beq n 15) 1 0) (cond (Nat.blt n 17) (cond (Nat.beq n 16) 1 0) (cond (Nat.beq n 17) 0 0))) (cond (Nat.blt n 20) (cond (Nat.blt n 19) (cond (Nat.beq n 18) 1 0) (cond (Nat.beq n 19) 1 0)) (cond (Nat.blt n 21) (cond (Nat.beq n 20) 0 0) (cond (Nat.beq n 21) 1 0)))) (cond (Nat.blt n 26) (cond (Nat.blt n 24) (cond (Nat.blt n 23) (cond (Nat.beq n 22) 1 0) (cond (Nat.beq n 23) 1 0)) (cond (Nat.blt n 25) (cond (Nat.beq n 24) 0 0) (cond (Nat.beq n 25) 4 0))) (cond (Nat.blt n 28) (cond (Nat.blt n 27) (cond (Nat.beq n 26) 0 0) (cond (Nat.beq n 27) 0 0)) (cond (Nat.blt n 29) (cond (Nat.beq n 28) 1 0) (cond (Nat.beq n 29) 1 0)))))
def zrk_0_30 : Nat → Nat := fun n => (cond (Nat.blt n 15) (zrk_0_15 n) (zrk_15_15 n))
def zrk_30_15 : Nat → Nat := fun n => (cond (Nat.blt n 37) (cond (Nat.blt n 33) (cond (Nat.blt n 31) (cond (Nat.beq n 30) 1 0) (cond (Nat.blt n 32) (cond (Nat.beq n 31) 1 0) (cond (Nat.beq n 32) 1 0))) (cond (Nat.blt n 35) (cond (Nat.blt n 34) (cond (Nat.beq n 33) 1 0) (cond (Nat.beq n 34) 0 0)) (cond (Nat.blt n 36) (cond (Nat.beq n 35) 4 0) (cond (Nat.beq n 36) 1 0)))) (cond (Nat.blt n 41) (cond (Nat.blt n 39) (cond (Nat.blt n 38) (cond (Nat.beq n 37) 4 0) (cond (Nat.beq n 38) 4 0)) (cond (Nat.blt n 40) (cond (Nat.beq n 39) 1 0) (cond (Nat.beq n 40) 0 0))) (cond (Nat.blt n 43) (cond (Nat.blt n 42) (cond (Nat.beq n 41) 1 0) (cond (Nat.beq n 42) 4 0)) (cond (Nat.blt n 44) (cond (Nat.beq n 43) 1 0) (cond (Nat.beq n 44) 0 0)))))
def zrk_45_16 : Nat → Nat := fun n => (cond (Nat.blt n 53) (cond (Nat.blt n 49) (cond (Nat.blt n 47) (cond (Nat.blt n 46) (cond (Nat.beq n 45) 1 0) (cond (Nat.beq n 46) 1 0)) (cond (Nat.blt n 48) (cond (Nat.beq n 47) 1 0) (cond (Nat.beq n 48) 1 0))) (cond (Nat.blt n 51) (cond (Nat.blt n 50) (cond (Nat.beq n 49) 0 0) (cond (Nat.beq n 50) 4 0)) (cond (Nat.blt n 52) (cond (Nat.beq n 51) 4 0) (cond (Nat.beq n 52) 4 0)))) (cond (Nat.blt n 57) (cond (Nat.blt n 55) (cond (Nat.blt n 54) (cond (Nat.beq n 53) 0 0) (cond (Nat.beq n 54) 0 0)) (cond (Nat.blt n 56) (cond (Nat.beq n 55) 4 0) (cond (Nat.beq n 56) 1 0))) (cond (Nat.blt n 59) (cond (Nat.blt n 58) (cond (Nat.beq n 57) 1 0) (cond (Nat.beq n 58) 2 0)) (cond (Nat.blt n 60) (cond (Nat.beq n 59) 0 0) (cond (Nat.beq n 60) 2 0)))))
def zrk_30_31 : Nat → Nat := fun n => (cond (Nat.blt n 45) (zrk_30_15 n) (zrk_45_16 n))
def zrk_0_61 : Nat → Nat := fun n => (cond (Nat.blt n 30) (zrk_0_30 n) (zrk_30_31 n))
def zrk_61_15 : Nat → Nat := fun n => (cond (Nat.blt n 68) (cond (Nat.blt n 64) (cond (Nat.blt n 62) (cond (Nat.beq n 61) 0 0) (cond (Nat.blt n 63) (cond (Nat.beq n 62) 1 0) (cond (Nat.beq n 63) 0 0))) (cond (Nat.blt n 66) (cond (Nat.blt n 65) (cond (Nat.beq n 64) 1 0) (cond (Nat.beq n 65) 1 0)) (cond (Nat.blt n 67) (cond (Nat.beq n 66) 4 0) (cond (Nat.beq n 67) 0 0)))) (cond (Nat.blt n 72) (cond (Nat.blt n 70) (cond (Nat.blt n 69) (cond (Nat.beq n 68) 4 0) (cond (Nat.beq n 69) 1 0)) (cond (Nat.blt n 71) (cond (Nat.beq n 70) 4 0) (cond (Nat.beq n 71) 4 0))) (cond (Nat.blt n 74) (cond (Nat.blt n 73) (cond (Nat.beq n 72) 4 0) (cond (Nat.beq n 73) 0 0)) (cond (Nat.blt n 75) (cond (Nat.beq n 74) 0 0) (cond (Nat.beq n 75) 1 0)))))
def zrk_76_15 : Nat → Nat := fun n => (cond (Nat.blt n 83) (cond (Nat.blt n 79) (cond (Nat.blt n 77) (cond (Nat.beq n 76) 1 0) (cond (Nat.blt n 78) (cond (Nat.beq n 77) 1 0) (cond (Nat.beq n 78) 1 0))) (cond (Nat.blt n 81) (cond (Nat.blt n 80) (cond (Nat.beq n 79) 0 0) (cond (Nat.beq n 80) 0 0)) (cond (Nat.blt n 82) (cond (Nat.beq n 81) 1 0) (cond (Nat.beq n 82) 1 0)))) (cond (Nat.blt n 87) (cond (Nat.blt n 85) (cond (Nat.blt n 84) (cond (Nat.beq n 83) 1 0) (cond (Nat.beq n 84) 1 0)) (cond (Nat.blt n 86) (cond (Nat.beq n 85) 1 0) (cond (Nat.beq n 86) 0 0))) (cond (Nat.blt n 89) (cond (Nat.blt n 88) (cond (Nat.beq n 87) 1 0) (cond (Nat.beq n 88) 0 0)) (cond (Nat.blt n 90) (cond (Nat.beq n 89) 1 0) (cond (Nat.beq n 90) 4 0)))))
def zrk_61_30 : Nat → Nat := fun n => (cond (Nat.blt n 76) (zrk_61_15 n) (zrk_76_15 n))
def zrk_91_15 : Nat → Nat := fun n => (cond (Nat.blt n 98) (cond (Nat.blt n 94) (cond (Nat.blt n 92) (cond (Nat.beq n 91) 1 0) (cond (Nat.blt n 93) (cond (Nat.beq n 92) 4 0) (cond (Nat.beq n 93) 1 0))) (cond (Nat.blt n 96) (cond (Nat.blt n 95) (cond (Nat.beq n 94) 1 0) (cond (Nat.beq n 95) 1 0)) (cond (Nat.blt n 97) (cond (Nat.beq n 96) 0 0) (cond (Nat.beq n 97) 1 0)))) (cond (Nat.blt n 102) (cond (Nat.blt n 100) (cond (Nat.blt n 99) (cond (Nat.beq n 98) 0 0) (cond (Nat.beq n 99) 1 0)) (cond (Nat.blt n 101) (cond (Nat.beq n 100) 1 0) (cond (Nat.beq n 101) 1 0))) (cond (Nat.blt n 104) (cond (Nat.blt n 103) (cond (Nat.beq n 102) 1 0) (cond (Nat.beq n 103) 1 0)) (cond (Nat.blt n 105) (cond (Nat.beq n 104) 1 0) (cond (Nat.beq n 105) 1 0)))))
def zrk_106_16 : Nat → Nat := fun n => (cond (Nat.blt n 114) (cond (Nat.blt n 110) (cond (Nat.blt n 108) (cond (Nat.blt n 107) (cond (Nat.beq n 106) 1 0) (cond (Nat.beq n 107) 1 0)) (cond (Nat.blt n 109) (cond (Nat.beq n 108) 1 0) (cond (Nat.beq n 109) 1 0))) (cond (Nat.blt n 112) (cond (Nat.blt n 111) (cond (Nat.beq n 110) 1 0) (cond (Nat.beq n 111) 1 0)) (cond (Nat.blt n 113) (cond (Nat.beq n 112) 1 0) (cond (Nat.beq n 113) 1 0)))) (cond (Nat.blt n 118) (cond (Nat.blt n 116) (cond (Nat.blt n 115) (cond (Nat.beq n 114) 1 0) (cond (Nat.beq n 115) 1 0)) (cond (Nat.blt n 117) (cond (Nat.beq n 116) 1 0) (cond (Nat.beq n 117) 1 0))) (cond (Nat.blt n 120) (cond (Nat.blt n 119) (cond (Nat.beq n 118) 1 0) (cond (Nat.beq n 119) 1 0)) (cond (Nat.blt n 121) (cond (Nat.beq n 120) 1 0) (cond (Nat.beq n 121) 1 0)))))
def zrk_91_31 : Nat → Nat := fun n => (cond (Nat.blt n 106) (zrk_91_15 n) (zrk_106_16 n))
def zrk_61_61 : Nat → Nat := fun n => (cond (Nat.blt n 91) (zrk_61_30 n) (zrk_91_31 n))
def zrk_0_122 : Nat → Nat := fun n => (cond (Nat.blt n 61) (zrk_0_61 n) (zrk_61_61 n))
def zrk_122_15 : Nat → Nat := fun n => (cond (Nat.blt n 129) (cond (Nat.blt n 125) (cond (Nat.blt n 123) (cond (Nat.beq n 122) 1 0) (cond (Nat.blt n 124) (cond (Nat.beq n 123) 1 0) (cond (Nat.beq n 124) 1 0))) (cond (Nat.blt n 127) (cond (Nat.blt n 126) (cond (Nat.beq n 125) 1 0) (cond (Nat.beq n 126) 1 0)) (cond (Nat.blt n 128) (cond (Nat.beq n 127) 1 0) (cond (Nat.beq n 128) 1 0)))) (cond (Nat.blt n 133) (cond (Nat.blt n 131) (cond (Nat.blt n 130) (cond (Nat.beq n 129) 1 0) (cond (Nat.beq n 130) 1 0)) (cond (Nat.blt n 132) (cond (Nat.beq n 131) 1 0) (cond (Nat.beq n 132) 1 0))) (cond (Nat.blt n 135) (cond (Nat.blt n 134) (cond (Nat.beq n 133) 1 0) (cond (Nat.beq n 134) 1 0)) (cond (Nat.blt n 136) (cond (Nat.beq n 135) 1 0) (cond (Nat.beq n 136) 2 0)))))
def zrk_137_15 : Nat → Nat := fun n => (cond (Nat.blt n 144) (cond (Nat.blt n 140) (cond (Nat.blt n 138) (cond (Nat.beq n 137) 1 0) (cond (Nat.blt n 139) (cond (Nat.beq n 138) 1 0) (cond (Nat.beq n 139) 1 0))) (cond (Nat.blt n 142) (cond (Nat.blt n 141) (cond (Nat.beq n 140) 4 0) (cond (Nat.beq n 141) 4 0)) (cond (Nat.blt n 143) (cond (Nat.beq n 142) 4 0) (cond (Nat.beq n 143) 4 0)))) (cond (Nat.blt n 148) (cond (Nat.blt n 146) (cond (Nat.blt n 145) (cond (Nat.beq n 144) 4 0) (cond (Nat.beq n 145) 4 0)) (cond (Nat.blt n 147) (cond (Nat.beq n 146) 1 0) (cond (Nat.beq n 147) 4 0))) (cond (Nat.blt n 150) (cond (Nat.blt n 149) (cond (Nat.beq n 148) 4 0) (cond (Nat.beq n 149) 4 0)) (cond (Nat.blt n 151) (cond (Nat.beq n 150) 1 0) (cond (Nat.beq n 151) 4 0)))))
def zrk_122_30 : Nat → Nat := fun n => (cond (Nat.blt n 137) (zrk_122_15 n) (zrk_137_15 n))
def zrk_152_15 : Nat → Nat := fun n => (cond (Nat.blt n 159) (cond (Nat.blt n 155) (cond (Nat.blt n 153) (cond (Nat.beq n 152) 0 0) (cond (Nat.blt n 154) (cond (Nat.beq n 153) 1 0) (cond (Nat.beq n 154) 1 0))) (cond (Nat.blt n 157) (cond (Nat.blt n 156) (cond (Nat.beq n 155) 1 0) (cond (Nat.beq n 156) 4 0)) (cond (Nat.blt n 158) (cond (Nat.beq n 157) 1 0) (cond (Nat.beq n 158) 4 0)))) (cond (Nat.blt n 163) (cond (Nat.blt n 161) (cond (Nat.blt n 160) (cond (Nat.beq n 159) 0 0) (cond (Nat.beq n 160) 1 0)) (cond (Nat.blt n 162) (cond (Nat.beq n 161) 1 0) (cond (Nat.beq n 162) 1 0))) (cond (Nat.blt n 165) (cond (Nat.blt n 164) (cond (Nat.beq n 163) 4 0) (cond (Nat.beq n 164) 1 0)) (cond (Nat.blt n 166) (cond (Nat.beq n 165) 1 0) (cond (Nat.beq n 166) 1 0)))))
def zrk_167_16 : Nat → Nat := fun n => (cond (Nat.blt n 175) (cond (Nat.blt n 171) (cond (Nat.blt n 169) (cond (Nat.blt n 168) (cond (Nat.beq n 167) 1 0) (cond (Nat.beq n 168) 1 0)) (cond (Nat.blt n 170) (cond (Nat.beq n 169) 4 0) (cond (Nat.beq n 170) 1 0))) (cond (Nat.blt n 173) (cond (Nat.blt n 172) (cond (Nat.beq n 171) 1 0) (cond (Nat.beq n 172) 1 0)) (cond (Nat.blt n 174) (cond (Nat.beq n 173) 1 0) (cond (Nat.beq n 174) 1 0)))) (cond (Nat.blt n 179) (cond (Nat.blt n 177) (cond (Nat.blt n 176) (cond (Nat.beq n 175) 1 0) (cond (Nat.beq n 176) 1 0)) (cond (Nat.blt n 178) (cond (Nat.beq n 177) 1 0) (cond (Nat.beq n 178) 1 0))) (cond (Nat.blt n 181) (cond (Nat.blt n 180) (cond (Nat.beq n 179) 1 0) (cond (Nat.beq n 180) 4 0)) (cond (Nat.blt n 182) (cond (Nat.beq n 181) 4 0) (cond (Nat.beq n 182) 4 0)))))
def zrk_152_31 : Nat → Nat := fun n => (cond (Nat.blt n 167) (zrk_152_15 n) (zrk_167_16 n))
def zrk_122_61 : Nat → Nat := fun n => (cond (Nat.blt n 152) (zrk_122_30 n) (zrk_152_31 n))
def zrk_183_15 : Nat → Nat := fun n => (cond (Nat.blt n 190) (cond (Nat.blt n 186) (cond (Nat.blt n 184) (cond (Nat.beq n 183) 4 0) (cond (Nat.blt n 185) (cond (Nat.beq n 184) 1 0) (cond (Nat.beq n 185) 1 0))) (cond (Nat.blt n 188) (cond (Nat.blt n 187) (cond (Nat.beq n 186) 4 0) (cond (Nat.beq n 187) 4 0)) (cond (Nat.blt n 189) (cond (Nat.beq n 188) 1 0) (cond (Nat.beq n 189) 0 0)))) (cond (Nat.blt n 194) (cond (Nat.blt n 192) (cond (Nat.blt n 191) (cond (Nat.beq n 190) 1 0) (cond (Nat.beq n 191) 1 0)) (cond (Nat.blt n 193) (cond (Nat.beq n 192) 1 0) (cond (Nat.beq n 193) 1 0))) (cond (Nat.blt n 196) (cond (Nat.blt n 195) (cond (Nat.beq n 194) 1 0) (cond (Nat.beq n 195) 1 0)) (cond (Nat.blt n 197) (cond (Nat.beq n 196) 1 0) (cond (Nat.beq n 197) 4 0)))))
def zrk_198_15 : Nat → Nat := fun n => (cond (Nat.blt n 205) (cond (Nat.blt n 201) (cond (Nat.blt n 199) (cond (Nat.beq n 198) 1 0) (cond (Nat.blt n 200) (cond (Nat.beq n 199) 1 0) (cond (Nat.beq n 200) 1 0))) (cond (Nat.blt n 203) (cond (Nat.blt n 202) (cond (Nat.beq n 201) 1 0) (cond (Nat.beq n 202) 1 0)) (cond (Nat.blt n 204) (cond (Nat.beq n 203) 1 0) (cond (Nat.beq n 204) 1 0)))) (cond (Nat.blt n 209) (cond (Nat.blt n 207) (cond (Nat.blt n 206) (cond (Nat.beq n 205) 1 0) (cond (Nat.beq n 206) 1 0)) (cond (Nat.blt n 208) (cond (Nat.beq n 207) 1 0) (cond (Nat.beq n 208) 1 0))) (cond (Nat.blt n 211) (cond (Nat.blt n 210) (cond (Nat.beq n 209) 1 0) (cond (Nat.beq n 210) 1 0)) (cond (Nat.blt n 212) (cond (Nat.beq n 211) 1 0) (cond (Nat.beq n 212) 1 0)))))
def zrk_183_30 : Nat → Nat := fun n => (cond (Nat.blt n 198) (zrk_183_15 n) (zrk_198_15 n))
def zrk_213_15 : Nat → Nat := fun n => (cond (Nat.blt n 220) (cond (Nat.blt n 216) (cond (Nat.blt n 214) (cond (Nat.beq n 213) 1 0) (cond (Nat.blt n 215) (cond (Nat.beq n 214) 1 0) (cond (Nat.beq n 215) 1 0))) (cond (Nat.blt n 218) (cond (Nat.blt n 217) (cond (Nat.beq n 216) 1 0) (cond (Nat.beq n 217) 1 0)) (cond (Nat.blt n 219) (cond (Nat.beq n 218) 1 0) (cond (Nat.beq n 219) 4 0)))) (cond (Nat.blt n 224) (cond (Nat.blt n 222) (cond (Nat.blt n 221) (cond (Nat.beq n 220) 1 0) (cond (Nat.beq n 221) 1 0)) (cond (Nat.blt n 223) (cond (Nat.beq n 222) 1 0) (cond (Nat.beq n 223) 0 0))) (cond (Nat.blt n 226) (cond (Nat.blt n 225) (cond (Nat.beq n 224) 1 0) (cond (Nat.beq n 225) 1 0)) (cond (Nat.blt n 227) (cond (Nat.beq n 226) 1 0) (cond (Nat.beq n 227) 1 0)))))
def zrk_228_16 : Nat → Nat := fun n => (cond (Nat.blt n 236) (cond (Nat.blt n 232) (cond (Nat.blt n 230) (cond (Nat.blt n 229) (cond (Nat.beq n 228) 1 0) (cond (Nat.beq n 229) 1 0)) (cond (Nat.blt n 231) (cond (Nat.beq n 230) 4 0) (cond (Nat.beq n 231) 1 0))) (cond (Nat.blt n 234) (cond (Nat.blt n 233) (cond (Nat.beq n 232) 1 0) (cond (Nat.beq n 233) 1 0)) (cond (Nat.blt n 235) (cond (Nat.beq n 234) 2 0) (cond (Nat.beq n 235) 1 0)))) (cond (Nat.blt n 240) (cond (Nat.blt n 238) (cond (Nat.blt n 237) (cond (Nat.beq n 236) 2 0) (cond (Nat.beq n 237) 1 0)) (cond (Nat.blt n 239) (cond (Nat.beq n 238) 1 0) (cond (Nat.beq n 239) 1 0))) (cond (Nat.blt n 242) (cond (Nat.blt n 241) (cond (Nat.beq n 240) 1 0) (cond (Nat.beq n 241) 0 0)) (cond (Nat.blt n 243) (cond (Nat.beq n 242) 0 0) (cond (Nat.beq n 243) 4 0)))))
def zrk_213_31 : Nat → Nat := fun n => (cond (Nat.blt n 228) (zrk_213_15 n) (zrk_228_16 n))
def zrk_183_61 : Nat → Nat := fun n => (cond (Nat.blt n 213) (zrk_183_30 n) (zrk_213_31 n))
def zrk_122_122 : Nat → Nat := fun n => (cond (Nat.blt n 183) (zrk_122_61 n) (zrk_183_61 n))
def zrk : Nat → Nat := fun n => (cond (Nat.blt n 122) (zrk_0_122 n) (zrk_122_122 n))
def zna_0_15 : Nat → Nat := fun n => (cond (Nat.blt n 7) (cond (Nat.blt n 3) (cond (Nat.blt n 1) (cond (Nat.beq n 0) 3 0) (cond (Nat.blt n 2) (cond (Nat.beq n 1) 4 0) (cond (Nat.beq n 2) 2 0))) (cond (Nat.blt n 5) (cond (Nat.blt n 4) (cond (Nat.beq n 3) 2 0) (cond (Nat.beq n 4) 2 0)) (cond (Nat.blt n 6) (cond (Nat.beq n 5) 2 0) (cond (Nat.beq n 6) 2 0)))) (cond (Nat.blt n 11) (cond (Nat.blt n 9) (cond (Nat.blt n 8) (cond (Nat.beq n 7) 3 0) (cond (Nat.beq n 8) 3 0)) (cond (Nat.blt n 10) (cond (Nat.beq n 9) 2 0) (cond (Nat.beq n 10) 1 0))) (cond (Nat.blt n 13) (cond (Nat.blt n 12) (cond (Nat.beq n 11) 2 0) (cond (Nat.beq n 12) 2 0)) (cond (Nat.blt n 14) (cond (Nat.beq n 13) 5 0) (cond (Nat.beq n 14) 1 0)))))
def zna_15_15 : Nat → Nat := fun n => (cond (Nat.blt n 22) (cond (Nat.blt n 18) (cond (Nat.blt n 16) (cond (Nat.beq n 15) 1 0) (cond (Nat.blt n 17) (cond (Nat.beq n 16) 1 0) (cond (Nat.beq n 17) 2 0))) (cond (Nat.blt n 20) (cond (Nat.blt n 19) (cond (Nat.beq n 18) 2 0) (cond (Nat.beq n 19) 2 0)) (cond (Nat.blt n 21) (cond (Nat.beq n 20) 2 0) (cond (Nat.beq n 21) 2 0)))) (cond (Nat.blt n 26) (cond (Nat.blt n 24) (cond (Nat.blt n 23) (cond (Nat.beq n 22) 1 0) (cond (Nat.beq n 23) 1 0)) (cond (Nat.blt n 25) (cond (Nat.beq n 24) 2 0) (cond (Nat.beq n 25) 1 0))) (cond (Nat.blt n 28) (cond (Nat.blt n 27) (cond (Nat.beq n 26) 2 0) (cond (Nat.beq n 27) 1 0)) (cond (Nat.blt n 29) (cond (Nat.beq n 28) 6 0) (cond (Nat.beq n 29) 1 0)))))
def zna_0_30 : Nat → Nat := fun n => (cond (Nat.blt n 15) (zna_0_15 n) (zna_15_15 n))
def zna_30_15 : Nat → Nat := fun n => (cond (Nat.blt n 37) (cond (Nat.blt n 33) (cond (Nat.blt n 31) (cond (Nat.beq n 30) 1 0) (cond (Nat.blt n 32) (cond (Nat.beq n 31) 3 0) (cond (Nat.beq n 32) 2 0))) (cond (Nat.blt n 35) (cond (Nat.blt n 34) (cond (Nat.beq n 33) 3 0) (cond (Nat.beq n 34) 1 0)) (cond (Nat.blt n 36) (cond (Nat.beq n 35) 2 0) (cond (Nat.beq n 36) 4 0)))) (cond (Nat.blt n 41) (cond (Nat.blt n 39) (cond (Nat.blt n 38) (cond (Nat.beq n 37) 2 0) (cond (Nat.beq n 38) 3 0)) (cond (Nat.blt n 40) (cond (Nat.beq n 39) 3 0) (cond (Nat.beq n 40) 4 0))) (cond (Nat.blt n 43) (cond (Nat.blt n 42) (cond (Nat.beq n 41) 2 0) (cond (Nat.beq n 42) 3 0)) (cond (Nat.blt n 44) (cond (Nat.beq n 43) 3 0) (cond (Nat.beq n 44) 2 0)))))
def zna_45_16 : Nat → Nat := fun n => (cond (Nat.blt n 53) (cond (Nat.blt n 49) (cond (Nat.blt n 47) (cond (Nat.blt n 46) (cond (Nat.beq n 45) 2 0) (cond (Nat.beq n 46) 3 0)) (cond (Nat.blt n 48) (cond (Nat.beq n 47) 3 0) (cond (Nat.beq n 48) 4 0))) (cond (Nat.blt n 51) (cond (Nat.blt n 50) (cond (Nat.beq n 49) 1 0) (cond (Nat.beq n 50) 1 0)) (cond (Nat.blt n 52) (cond (Nat.beq n 51) 1 0) (cond (Nat.beq n 52) 2 0)))) (cond (Nat.blt n 57) (cond (Nat.blt n 55) (cond (Nat.blt n 54) (cond (Nat.beq n 53) 2 0) (cond (Nat.beq n 54) 3 0)) (cond (Nat.blt n 56) (cond (Nat.beq n 55) 3 0) (cond (Nat.beq n 56) 2 0))) (cond (Nat.blt n 59) (cond (Nat.blt n 58) (cond (Nat.beq n 57) 2 0) (cond (Nat.beq n 58) 2 0)) (cond (Nat.blt n 60) (cond (Nat.beq n 59) 3 0) (cond (Nat.beq n 60) 2 0)))))
def zna_30_31 : Nat → Nat := fun n => (cond (Nat.blt n 45) (zna_30_15 n) (zna_45_16 n))
def zna_0_61 : Nat → Nat := fun n => (cond (Nat.blt n 30) (zna_0_30 n) (zna_30_31 n))
def zna_61_15 : Nat → Nat := fun n => (cond (Nat.blt n 68) (cond (Nat.blt n 64) (cond (Nat.blt n 62) (cond (Nat.beq n 61) 1 0) (cond (Nat.blt n 63) (cond (Nat.beq n 62) 2 0) (cond (Nat.beq n 63) 1 0))) (cond (Nat.blt n 66) (cond (Nat.blt n 65) (cond (Nat.beq n 64) 1 0) (cond (Nat.beq n 65) 1 0)) (cond (Nat.blt n 67) (cond (Nat.beq n 66) 2 0) (cond (Nat.beq n 67) 2 0)))) (cond (Nat.blt n 72) (cond (Nat.blt n 70) (cond (Nat.blt n 69) (cond (Nat.beq n 68) 1 0) (cond (Nat.beq n 69) 1 0)) (cond (Nat.blt n 71) (cond (Nat.beq n 70) 3 0) (cond (Nat.beq n 71) 2 0))) (cond (Nat.blt n 74) (cond (Nat.blt n 73) (cond (Nat.beq n 72) 1 0) (cond (Nat.beq n 73) 1 0)) (cond (Nat.blt n 75) (cond (Nat.beq n 74) 3 0) (cond (Nat.beq n 75) 1 0)))))
def zna_76_15 : Nat → Nat := fun n => (cond (Nat.blt n 83) (cond (Nat.blt n 79) (cond (Nat.blt n 77) (cond (Nat.beq n 76) 3 0) (cond (Nat.blt n 78) (cond (Nat.beq n 77) 4 0) (cond (Nat.beq n 78) 3 0))) (cond (Nat.blt n 81) (cond (Nat.blt n 80) (cond (Nat.beq n 79) 4 0) (cond (Nat.beq n 80) 2 0)) (cond (Nat.blt n 82) (cond (Nat.beq n 81) 1 0) (cond (Nat.beq n 82) 1 0)))) (cond (Nat.blt n 87) (cond (Nat.blt n 85) (cond (Nat.blt n 84) (cond (Nat.beq n 83) 4 0) (cond (Nat.beq n 84) 4 0)) (cond (Nat.blt n 86) (cond (Nat.beq n 85) 3 0) (cond (Nat.beq n 86) 1 0))) (cond (Nat.blt n 89) (cond (Nat.blt n 88) (cond (Nat.beq n 87) 5 0) (cond (Nat.beq n 88) 1 0)) (cond (Nat.blt n 90) (cond (Nat.beq n 89) 2 0) (cond (Nat.beq n 90) 2 0)))))
def zna_61_30 : Nat → Nat := fun n => (cond (Nat.blt n 76) (zna_61_15 n) (zna_76_15 n))
def zna_91_15 : Nat → Nat := fun n => (cond (Nat.blt n 98) (cond (Nat.blt n 94) (cond (Nat.blt n 92) (cond (Nat.beq n 91) 2 0) (cond (Nat.blt n 93) (cond (Nat.beq n 92) 2 0) (cond (Nat.beq n 93) 2 0))) (cond (Nat.blt n 96) (cond (Nat.blt n 95) (cond (Nat.beq n 94) 4 0) (cond (Nat.beq n 95) 2 0)) (cond (Nat.blt n 97) (cond (Nat.beq n 96) 2 0) (cond (Nat.beq n 97) 5 0)))) (cond (Nat.blt n 102) (cond (Nat.blt n 100) (cond (Nat.blt n 99) (cond (Nat.beq n 98) 1 0) (cond (Nat.beq n 99) 3 0)) (cond (Nat.blt n 101) (cond (Nat.beq n 100) 4 0) (cond (Nat.beq n 101) 4 0))) (cond (Nat.blt n 104) (cond (Nat.blt n 103) (cond (Nat.beq n 102) 3 0) (cond (Nat.beq n 103) 2 0)) (cond (Nat.blt n 105) (cond (Nat.beq n 104) 1 0) (cond (Nat.beq n 105) 4 0)))))
def zna_106_16 : Nat → Nat := fun n => (cond (Nat.blt n 114) (cond (Nat.blt n 110) (cond (Nat.blt n 108) (cond (Nat.blt n 107) (cond (Nat.beq n 106) 4 0) (cond (Nat.beq n 107) 3 0)) (cond (Nat.blt n 109) (cond (Nat.beq n 108) 3 0) (cond (Nat.beq n 109) 4 0))) (cond (Nat.blt n 112) (cond (Nat.blt n 111) (cond (Nat.beq n 110) 3 0) (cond (Nat.beq n 111) 4 0)) (cond (Nat.blt n 113) (cond (Nat.beq n 112) 3 0) (cond (Nat.beq n 113) 3 0)))) (cond (Nat.blt n 118) (cond (Nat.blt n 116) (cond (Nat.blt n 115) (cond (Nat.beq n 114) 3 0) (cond (Nat.beq n 115) 4 0)) (cond (Nat.blt n 117) (cond (Nat.beq n 116) 3 0) (cond (Nat.beq n 117) 3 0))) (cond (Nat.blt n 120) (cond (Nat.blt n 119) (cond (Nat.beq n 118) 3 0) (cond (Nat.beq n 119) 4 0)) (cond (Nat.blt n 121) (cond (Nat.beq n 120) 5 0) (cond (Nat.beq n 121) 3 0)))))
def zna_91_31 : Nat → Nat := fun n => (cond (Nat.blt n 106) (zna_91_15 n) (zna_106_16 n))
def zna_61_61 : Nat → Nat := fun n => (cond (Nat.blt n 91) (zna_61_30 n) (zna_91_31 n))
def zna_0_122 : Nat → Nat := fun n => (cond (Nat.blt n 61) (zna_0_61 n) (zna_61_61 n))
def zna_122_15 : Nat → Nat := fun n => (cond (Nat.blt n 129) (cond (Nat.blt n 125) (cond (Nat.blt n 123) (cond (Nat.beq n 122) 5 0) (cond (Nat.blt n 124) (cond (Nat.beq n 123) 3 0) (cond (Nat.beq n 124) 2 0))) (cond (Nat.blt n 127) (cond (Nat.blt n 126) (cond (Nat.beq n 125) 2 0) (cond (Nat.beq n 126) 1 0)) (cond (Nat.blt n 128) (cond (Nat.beq n 127) 1 0) (cond (Nat.beq n 128) 1 0)))) (cond (Nat.blt n 133) (cond (Nat.blt n 131) (cond (Nat.blt n 130) (cond (Nat.beq n 129) 1 0) (cond (Nat.beq n 130) 2 0)) (cond (Nat.blt n 132) (cond (Nat.beq n 131) 4 0) (cond (Nat.beq n 132) 2 0))) (cond (Nat.blt n 135) (cond (Nat.blt n 134) (cond (Nat.beq n 133) 3 0) (cond (Nat.beq n 134) 4 0)) (cond (Nat.blt n 136) (cond (Nat.beq n 135) 4 0) (cond (Nat.beq n 136) 3 0)))))
def zna_137_15 : Nat → Nat := fun n => (cond (Nat.blt n 144) (cond (Nat.blt n 140) (cond (Nat.blt n 138) (cond (Nat.beq n 137) 6 0) (cond (Nat.blt n 139) (cond (Nat.beq n 138) 3 0) (cond (Nat.beq n 139) 2 0))) (cond (Nat.blt n 142) (cond (Nat.blt n 141) (cond (Nat.beq n 140) 3 0) (cond (Nat.beq n 141) 1 0)) (cond (Nat.blt n 143) (cond (Nat.beq n 142) 1 0) (cond (Nat.beq n 143) 1 0)))) (cond (Nat.blt n 148) (cond (Nat.blt n 146) (cond (Nat.blt n 145) (cond (Nat.beq n 144) 1 0) (cond (Nat.beq n 145) 1 0)) (cond (Nat.blt n 147) (cond (Nat.beq n 146) 4 0) (cond (Nat.beq n 147) 2 0))) (cond (Nat.blt n 150) (cond (Nat.blt n 149) (cond (Nat.beq n 148) 3 0) (cond (Nat.beq n 149) 3 0)) (cond (Nat.blt n 151) (cond (Nat.beq n 150) 1 0) (cond (Nat.beq n 151) 2 0)))))
def zna_122_30 : Nat → Nat := fun n => (cond (Nat.blt n 137) (zna_122_15 n) (zna_137_15 n))
def zna_152_15 : Nat → Nat := fun n => (cond (Nat.blt n 159) (cond (Nat.blt n 155) (cond (Nat.blt n 153) (cond (Nat.beq n 152) 1 0) (cond (Nat.blt n 154) (cond (Nat.beq n 153) 3 0) (cond (Nat.beq n 154) 1 0))) (cond (Nat.blt n 157) (cond (Nat.blt n 156) (cond (Nat.beq n 155) 1 0) (cond (Nat.beq n 156) 2 0)) (cond (Nat.blt n 158) (cond (Nat.beq n 157) 3 0) (cond (Nat.beq n 158) 3 0)))) (cond (Nat.blt n 163) (cond (Nat.blt n 161) (cond (Nat.blt n 160) (cond (Nat.beq n 159) 4 0) (cond (Nat.beq n 160) 3 0)) (cond (Nat.blt n 162) (cond (Nat.beq n 161) 4 0) (cond (Nat.beq n 162) 3 0))) (cond (Nat.blt n 165) (cond (Nat.blt n 164) (cond (Nat.beq n 163) 2 0) (cond (Nat.beq n 164) 4 0)) (cond (Nat.blt n 166) (cond (Nat.beq n 165) 3 0) (cond (Nat.beq n 166) 2 0)))))
def zna_167_16 : Nat → Nat := fun n => (cond (Nat.blt n 175) (cond (Nat.blt n 171) (cond (Nat.blt n 169) (cond (Nat.blt n 168) (cond (Nat.beq n 167) 1 0) (cond (Nat.beq n 168) 1 0)) (cond (Nat.blt n 170) (cond (Nat.beq n 169) 2 0) (cond (Nat.beq n 170) 1 0))) (cond (Nat.blt n 173) (cond (Nat.blt n 172) (cond (Nat.beq n 171) 1 0) (cond (Nat.beq n 172) 1 0)) (cond (Nat.blt n 174) (cond (Nat.beq n 173) 1 0) (cond (Nat.beq n 174) 1 0)))) (cond (Nat.blt n 179) (cond (Nat.blt n 177) (cond (Nat.blt n 176) (cond (Nat.beq n 175) 1 0) (cond (Nat.beq n 176) 1 0)) (cond (Nat.blt n 178) (cond (Nat.beq n 177) 3 0) (cond (Nat.beq n 178) 1 0))) (cond (Nat.blt n 181) (cond (Nat.blt n 180) (cond (Nat.beq n 179) 6 0) (cond (Nat.beq n 180) 1 0)) (cond (Nat.blt n 182) (cond (Nat.beq n 181) 1 0) (cond (Nat.beq n 182) 1 0)))))
def zna_152_31 : Nat → Nat := fun n => (cond (Nat.blt n 167) (zna_152_15 n) (zna_167_16 n))
def zna_122_61 : Nat → Nat := fun n => (cond (Nat.blt n 152) (zna_122_30 n) (zna_152_31 n))
def zna_183_15 : Nat → Nat := fun n => (cond (Nat.blt n 190) (cond (Nat.blt n 186) (cond (Nat.blt n 184) (cond (Nat.beq n 183) 1 0) (cond (Nat.blt n 185) (cond (Nat.beq n 184) 3 0) (cond (Nat.beq n 185) 3 0))) (cond (Nat.blt n 188) (cond (Nat.blt n 187) (cond (Nat.beq n 186) 3 0) (cond (Nat.beq n 187) 4 0)) (cond (Nat.blt n 189) (cond (Nat.beq n 188) 3 0) (cond (Nat.beq n 189) 4 0)))) (cond (Nat.blt n 194) (cond (Nat.blt n 192) (cond (Nat.blt n 191) (cond (Nat.beq n 190) 2 0) (cond (Nat.beq n 191) 4 0)) (cond (Nat.blt n 193) (cond (Nat.beq n 192) 4 0) (cond (Nat.beq n 193) 3 0))) (cond (Nat.blt n 196) (cond (Nat.blt n 195) (cond (Nat.beq n 194) 3 0) (cond (Nat.beq n 195) 4 0)) (cond (Nat.blt n 197) (cond (Nat.beq n 196) 3 0) (cond (Nat.beq n 197) 1 0)))))
def zna_198_15 : Nat → Nat := fun n => (cond (Nat.blt n 205) (cond (Nat.blt n 201) (cond (Nat.blt n 199) (cond (Nat.beq n 198) 3 0) (cond (Nat.blt n 200) (cond (Nat.beq n 199) 4 0) (cond (Nat.beq n 200) 3 0))) (cond (Nat.blt n 203) (cond (Nat.blt n 202) (cond (Nat.beq n 201) 3 0) (cond (Nat.beq n 202) 3 0)) (cond (Nat.blt n 204) (cond (Nat.beq n 203) 4 0) (cond (Nat.beq n 204) 3 0)))) (cond (Nat.blt n 209) (cond (Nat.blt n 207) (cond (Nat.blt n 206) (cond (Nat.beq n 205) 2 0) (cond (Nat.beq n 206) 3 0)) (cond (Nat.blt n 208) (cond (Nat.beq n 207) 3 0) (cond (Nat.beq n 208) 3 0))) (cond (Nat.blt n 211) (cond (Nat.blt n 210) (cond (Nat.beq n 209) 4 0) (cond (Nat.beq n 210) 4 0)) (cond (Nat.blt n 212) (cond (Nat.beq n 211) 5 0) (cond (Nat.beq n 212) 3 0)))))
def zna_183_30 : Nat → Nat := fun n => (cond (Nat.blt n 198) (zna_183_15 n) (zna_198_15 n))
def zna_213_15 : Nat → Nat := fun n => (cond (Nat.blt n 220) (cond (Nat.blt n 216) (cond (Nat.blt n 214) (cond (Nat.beq n 213) 5 0) (cond (Nat.blt n 215) (cond (Nat.beq n 214) 3 0) (cond (Nat.beq n 215) 2 0))) (cond (Nat.blt n 218) (cond (Nat.blt n 217) (cond (Nat.beq n 216) 2 0) (cond (Nat.beq n 217) 1 0)) (cond (Nat.blt n 219) (cond (Nat.beq n 218) 1 0) (cond (Nat.beq n 219) 2 0)))) (cond (Nat.blt n 224) (cond (Nat.blt n 222) (cond (Nat.blt n 221) (cond (Nat.beq n 220) 2 0) (cond (Nat.beq n 221) 2 0)) (cond (Nat.blt n 223) (cond (Nat.beq n 222) 1 0) (cond (Nat.beq n 223) 2 0))) (cond (Nat.blt n 226) (cond (Nat.blt n 225) (cond (Nat.beq n 224) 3 0) (cond (Nat.beq n 225) 3 0)) (cond (Nat.blt n 227) (cond (Nat.beq n 226) 3 0) (cond (Nat.beq n 227) 3 0)))))
def zna_228_16 : Nat → Nat := fun n => (cond (Nat.blt n 236) (cond (Nat.blt n 232) (cond (Nat.blt n 230) (cond (Nat.blt n 229) (cond (Nat.beq n 228) 4 0) (cond (Nat.beq n 229) 2 0)) (cond (Nat.blt n 231) (cond (Nat.beq n 230) 1 0) (cond (Nat.beq n 231) 3 0))) (cond (Nat.blt n 234) (cond (Nat.blt n 233) (cond (Nat.beq n 232) 4 0) (cond (Nat.beq n 233) 3 0)) (cond (Nat.blt n 235) (cond (Nat.beq n 234) 2 0) (cond (Nat.beq n 235) 4 0)))) (cond (Nat.blt n 240) (cond (Nat.blt n 238) (cond (Nat.blt n 237) (cond (Nat.beq n 236) 3 0) (cond (Nat.beq n 237) 6 0)) (cond (Nat.blt n 239) (cond (Nat.beq n 238) 3 0) (cond (Nat.beq n 239) 2 0))) (cond (Nat.blt n 242) (cond (Nat.blt n 241) (cond (Nat.beq n 240) 1 0) (cond (Nat.beq n 241) 2 0)) (cond (Nat.blt n 243) (cond (Nat.beq n 242) 2 0) (cond (Nat.beq n 243) 1 0)))))
def zna_213_31 : Nat → Nat := fun n => (cond (Nat.blt n 228) (zna_213_15 n) (zna_228_16 n))
def zna_183_61 : Nat → Nat := fun n => (cond (Nat.blt n 213) (zna_183_30 n) (zna_213_31 n))
def zna_122_122 : Nat → Nat := fun n => (cond (Nat.blt n 183) (zna_122_61 n) (zna_183_61 n))
def zna : Nat → Nat := fun n => (cond (Nat.blt n 122) (zna_0_122 n) (zna_122_122 n))
def zow_0_15 : Nat → Nat := fun n => (cond (Nat.blt n 7) (cond (Nat.blt n 3) (cond (Nat.blt n 1) (cond (Nat.beq n 0) 0 0) (cond (Nat.blt n 2) (cond (Nat.beq n 1) 0 0) (cond (Nat.beq n 2) 0 0))) (cond (Nat.blt n 5) (cond (Nat.blt n 4) (cond (Nat.beq n 3) 0 0) (cond (Nat.beq n 4) 0 0)) (cond (Nat.blt n 6) (cond (Nat.beq n 5) 0 0) (cond (Nat.beq n 6) 0 0)))) (cond (Nat.blt n 11) (cond (Nat.blt n 9) (cond (Nat.blt n 8) (cond (Nat.beq n 7) 0 0) (cond (Nat.beq n 8) 0 0)) (cond (Nat.blt n 10) (cond (Nat.beq n 9) 0 0) (cond (Nat.beq n 10) 0 0))) (cond (Nat.blt n 13) (cond (Nat.blt n 12) (cond (Nat.beq n 11) 0 0) (cond (Nat.beq n 12) 1 0)) (cond (Nat.blt n 14) (cond (Nat.beq n 13) 1 0) (cond (Nat.beq n 14) 1 0)))))
def zow_15_15 : Nat → Nat := fun n => (cond (Nat.blt n 22) (cond (Nat.blt n 18) (cond (Nat.blt n 16) (cond (Nat.beq n 15) 1 0) (cond (Nat.blt n 17) (cond (Nat.beq n 16) 1 0) (cond (Nat.beq n 17) 2 0))) (cond (Nat.blt n 20) (cond (Nat.blt n 19) (cond (Nat.beq n 18) 2 0) (cond (Nat.beq n 19) 2 0)) (cond (Nat.blt n 21) (cond (Nat.beq n 20) 2 0) (cond (Nat.beq n 21) 2 0)))) (cond (Nat.blt n 26) (cond (Nat.blt n 24) (cond (Nat.blt n 23) (cond (Nat.beq n 22) 2 0) (cond (Nat.beq n 23) 2 0)) (cond (Nat.blt n 25) (cond (Nat.beq n 24) 3 0) (cond (Nat.beq n 25) 3 0))) (cond (Nat.blt n 28) (cond (Nat.blt n 27) (cond (Nat.beq n 26) 3 0) (cond (Nat.beq n 27) 3 0)) (cond (Nat.blt n 29) (cond (Nat.beq n 28) 3 0) (cond (Nat.beq n 29) 3 0)))))
def zow_0_30 : Nat → Nat := fun n => (cond (Nat.blt n 15) (zow_0_15 n) (zow_15_15 n))
def zow_30_15 : Nat → Nat := fun n => (cond (Nat.blt n 37) (cond (Nat.blt n 33) (cond (Nat.blt n 31) (cond (Nat.beq n 30) 3 0) (cond (Nat.blt n 32) (cond (Nat.beq n 31) 3 0) (cond (Nat.beq n 32) 3 0))) (cond (Nat.blt n 35) (cond (Nat.blt n 34) (cond (Nat.beq n 33) 3 0) (cond (Nat.beq n 34) 4 0)) (cond (Nat.blt n 36) (cond (Nat.beq n 35) 4 0) (cond (Nat.beq n 36) 4 0)))) (cond (Nat.blt n 41) (cond (Nat.blt n 39) (cond (Nat.blt n 38) (cond (Nat.beq n 37) 4 0) (cond (Nat.beq n 38) 4 0)) (cond (Nat.blt n 40) (cond (Nat.beq n 39) 4 0) (cond (Nat.beq n 40) 4 0))) (cond (Nat.blt n 43) (cond (Nat.blt n 42) (cond (Nat.beq n 41) 4 0) (cond (Nat.beq n 42) 4 0)) (cond (Nat.blt n 44) (cond (Nat.beq n 43) 4 0) (cond (Nat.beq n 44) 5 0)))))
def zow_45_16 : Nat → Nat := fun n => (cond (Nat.blt n 53) (cond (Nat.blt n 49) (cond (Nat.blt n 47) (cond (Nat.blt n 46) (cond (Nat.beq n 45) 5 0) (cond (Nat.beq n 46) 5 0)) (cond (Nat.blt n 48) (cond (Nat.beq n 47) 5 0) (cond (Nat.beq n 48) 5 0))) (cond (Nat.blt n 51) (cond (Nat.blt n 50) (cond (Nat.beq n 49) 6 0) (cond (Nat.beq n 50) 6 0)) (cond (Nat.blt n 52) (cond (Nat.beq n 51) 6 0) (cond (Nat.beq n 52) 6 0)))) (cond (Nat.blt n 57) (cond (Nat.blt n 55) (cond (Nat.blt n 54) (cond (Nat.beq n 53) 6 0) (cond (Nat.beq n 54) 6 0)) (cond (Nat.blt n 56) (cond (Nat.beq n 55) 6 0) (cond (Nat.beq n 56) 6 0))) (cond (Nat.blt n 59) (cond (Nat.blt n 58) (cond (Nat.beq n 57) 6 0) (cond (Nat.beq n 58) 6 0)) (cond (Nat.blt n 60) (cond (Nat.beq n 59) 6 0) (cond (Nat.beq n 60) 6 0)))))
def zow_30_31 : Nat → Nat := fun n => (cond (Nat.blt n 45) (zow_30_15 n) (zow_45_16 n))
def zow_0_61 : Nat → Nat := fun n => (cond (Nat.blt n 30) (zow_0_30 n) (zow_30_31 n))
def zow_61_15 : Nat → Nat := fun n => (cond (Nat.blt n 68) (cond (Nat.blt n 64) (cond (Nat.blt n 62) (cond (Nat.beq n 61) 7 0) (cond (Nat.blt n 63) (cond (Nat.beq n 62) 7 0) (cond (Nat.beq n 63) 7 0))) (cond (Nat.blt n 66) (cond (Nat.blt n 65) (cond (Nat.beq n 64) 7 0) (cond (Nat.beq n 65) 7 0)) (cond (Nat.blt n 67) (cond (Nat.beq n 66) 7 0) (cond (Nat.beq n 67) 7 0)))) (cond (Nat.blt n 72) (cond (Nat.blt n 70) (cond (Nat.blt n 69) (cond (Nat.beq n 68) 7 0) (cond (Nat.beq n 69) 7 0)) (cond (Nat.blt n 71) (cond (Nat.beq n 70) 7 0) (cond (Nat.beq n 71) 7 0))) (cond (Nat.blt n 74) (cond (Nat.blt n 73) (cond (Nat.beq n 72) 7 0) (cond (Nat.beq n 73) 7 0)) (cond (Nat.blt n 75) (cond (Nat.beq n 74) 8 0) (cond (Nat.beq n 75) 8 0)))))
def zow_76_15 : Nat → Nat := fun n => (cond (Nat.blt n 83) (cond (Nat.blt n 79) (cond (Nat.blt n 77) (cond (Nat.beq n 76) 8 0) (cond (Nat.blt n 78) (cond (Nat.beq n 77) 8 0) (cond (Nat.beq n 78) 8 0))) (cond (Nat.blt n 81) (cond (Nat.blt n 80) (cond (Nat.beq n 79) 8 0) (cond (Nat.beq n 80) 8 0)) (cond (Nat.blt n 82) (cond (Nat.beq n 81) 8 0) (cond (Nat.beq n 82) 8 0)))) (cond (Nat.blt n 87) (cond (Nat.blt n 85) (cond (Nat.blt n 84) (cond (Nat.beq n 83) 8 0) (cond (Nat.beq n 84) 8 0)) (cond (Nat.blt n 86) (cond (Nat.beq n 85) 8 0) (cond (Nat.beq n 86) 8 0))) (cond (Nat.blt n 89) (cond (Nat.blt n 88) (cond (Nat.beq n 87) 8 0) (cond (Nat.beq n 88) 9 0)) (cond (Nat.blt n 90) (cond (Nat.beq n 89) 9 0) (cond (Nat.beq n 90) 9 0)))))
def zow_61_30 : Nat → Nat := fun n => (cond (Nat.blt n 76) (zow_61_15 n) (zow_76_15 n))
def zow_91_15 : Nat → Nat := fun n => (cond (Nat.blt n 98) (cond (Nat.blt n 94) (cond (Nat.blt n 92) (cond (Nat.beq n 91) 9 0) (cond (Nat.blt n 93) (cond (Nat.beq n 92) 9 0) (cond (Nat.beq n 93) 9 0))) (cond (Nat.blt n 96) (cond (Nat.blt n 95) (cond (Nat.beq n 94) 9 0) (cond (Nat.beq n 95) 9 0)) (cond (Nat.blt n 97) (cond (Nat.beq n 96) 9 0) (cond (Nat.beq n 97) 9 0)))) (cond (Nat.blt n 102) (cond (Nat.blt n 100) (cond (Nat.blt n 99) (cond (Nat.beq n 98) 10 0) (cond (Nat.beq n 99) 10 0)) (cond (Nat.blt n 101) (cond (Nat.beq n 100) 10 0) (cond (Nat.beq n 101) 10 0))) (cond (Nat.blt n 104) (cond (Nat.blt n 103) (cond (Nat.beq n 102) 10 0) (cond (Nat.beq n 103) 10 0)) (cond (Nat.blt n 105) (cond (Nat.beq n 104) 10 0) (cond (Nat.beq n 105) 10 0)))))
def zow_106_16 : Nat → Nat := fun n => (cond (Nat.blt n 114) (cond (Nat.blt n 110) (cond (Nat.blt n 108) (cond (Nat.blt n 107) (cond (Nat.beq n 106) 10 0) (cond (Nat.beq n 107) 10 0)) (cond (Nat.blt n 109) (cond (Nat.beq n 108) 10 0) (cond (Nat.beq n 109) 10 0))) (cond (Nat.blt n 112) (cond (Nat.blt n 111) (cond (Nat.beq n 110) 10 0) (cond (Nat.beq n 111) 10 0)) (cond (Nat.blt n 113) (cond (Nat.beq n 112) 10 0) (cond (Nat.beq n 113) 10 0)))) (cond (Nat.blt n 118) (cond (Nat.blt n 116) (cond (Nat.blt n 115) (cond (Nat.beq n 114) 10 0) (cond (Nat.beq n 115) 10 0)) (cond (Nat.blt n 117) (cond (Nat.beq n 116) 10 0) (cond (Nat.beq n 117) 10 0))) (cond (Nat.blt n 120) (cond (Nat.blt n 119) (cond (Nat.beq n 118) 10 0) (cond (Nat.beq n 119) 10 0)) (cond (Nat.blt n 121) (cond (Nat.beq n 120) 10 0) (cond (Nat.beq n 121) 10 0)))))
def zow_91_31 : Nat → Nat := fun n => (cond (Nat.blt n 106) (zow_91_15 n) (zow_106_16 n))
def zow_61_61 : Nat → Nat := fun n => (cond (Nat.blt n 91) (zow_61_30 n) (zow_91_31 n))
def zow_0_122 : Nat → Nat := fun n => (cond (Nat.blt n 61) (zow_0_61 n) (zow_61_61 n))
def zow_122_15 : Nat → Nat := fun n => (cond (Nat.blt n 129) (cond (Nat.blt n 125) (cond (Nat.blt n 123) (cond (Nat.beq n 122) 10 0) (cond (Nat.blt n 124) (cond (Nat.beq n 123) 10 0) (cond (Nat.beq n 124) 10 0))) (cond (Nat.blt n 127) (cond (Nat.blt n 126) (cond (Nat.beq n 125) 10 0) (cond (Nat.beq n 126) 10 0)) (cond (Nat.blt n 128) (cond (Nat.beq n 127) 10 0) (cond (Nat.beq n 128) 10 0)))) (cond (Nat.blt n 133) (cond (Nat.blt n 131) (cond (Nat.blt n 130) (cond (Nat.beq n 129) 10 0) (cond (Nat.beq n 130) 10 0)) (cond (Nat.blt n 132) (cond (Nat.beq n 131) 10 0) (cond (Nat.beq n 132) 10 0))) (cond (Nat.blt n 135) (cond (Nat.blt n 134) (cond (Nat.beq n 133) 10 0) (cond (Nat.beq n 134) 10 0)) (cond (Nat.blt n 136) (cond (Nat.beq n 135) 10 0) (cond (Nat.beq n 136) 10 0)))))
def zow_137_15 : Nat → Nat := fun n => (cond (Nat.blt n 144) (cond (Nat.blt n 140) (cond (Nat.blt n 138) (cond (Nat.beq n 137) 10 0) (cond (Nat.blt n 139) (cond (Nat.beq n 138) 10 0) (cond (Nat.beq n 139) 10 0))) (cond (Nat.blt n 142) (cond (Nat.blt n 141) (cond (Nat.beq n 140) 10 0) (cond (Nat.beq n 141) 10 0)) (cond (Nat.blt n 143) (cond (Nat.beq n 142) 10 0) (cond (Nat.beq n 143) 10 0)))) (cond (Nat.blt n 148) (cond (Nat.blt n 146) (cond (Nat.blt n 145) (cond (Nat.beq n 144) 10 0) (cond (Nat.beq n 145) 10 0)) (cond (Nat.blt n 147) (cond (Nat.beq n 146) 10 0) (cond (Nat.beq n 147) 10 0))) (cond (Nat.blt n 150) (cond (Nat.blt n 149) (cond (Nat.beq n 148) 10 0) (cond (Nat.beq n 149) 11 0)) (cond (Nat.blt n 151) (cond (Nat.beq n 150) 11 0) (cond (Nat.beq n 151) 11 0)))))
def zow_122_30 : Nat → Nat := fun n => (cond (Nat.blt n 137) (zow_122_15 n) (zow_137_15 n))
def zow_152_15 : Nat → Nat := fun n => (cond (Nat.blt n 159) (cond (Nat.blt n 155) (cond (Nat.blt n 153) (cond (Nat.beq n 152) 11 0) (cond (Nat.blt n 154) (cond (Nat.beq n 153) 11 0) (cond (Nat.beq n 154) 11 0))) (cond (Nat.blt n 157) (cond (Nat.blt n 156) (cond (Nat.beq n 155) 11 0) (cond (Nat.beq n 156) 11 0)) (cond (Nat.blt n 158) (cond (Nat.beq n 157) 11 0) (cond (Nat.beq n 158) 11 0)))) (cond (Nat.blt n 163) (cond (Nat.blt n 161) (cond (Nat.blt n 160) (cond (Nat.beq n 159) 11 0) (cond (Nat.beq n 160) 11 0)) (cond (Nat.blt n 162) (cond (Nat.beq n 161) 11 0) (cond (Nat.beq n 162) 11 0))) (cond (Nat.blt n 165) (cond (Nat.blt n 164) (cond (Nat.beq n 163) 11 0) (cond (Nat.beq n 164) 11 0)) (cond (Nat.blt n 166) (cond (Nat.beq n 165) 11 0) (cond (Nat.beq n 166) 11 0)))))
def zow_167_16 : Nat → Nat := fun n => (cond (Nat.blt n 175) (cond (Nat.blt n 171) (cond (Nat.blt n 169) (cond (Nat.blt n 168) (cond (Nat.beq n 167) 11 0) (cond (Nat.beq n 168) 11 0)) (cond (Nat.blt n 170) (cond (Nat.beq n 169) 11 0) (cond (Nat.beq n 170) 11 0))) (cond (Nat.blt n 173) (cond (Nat.blt n 172) (cond (Nat.beq n 171) 11 0) (cond (Nat.beq n 172) 11 0)) (cond (Nat.blt n 174) (cond (Nat.beq n 173) 11 0) (cond (Nat.beq n 174) 11 0)))) (cond (Nat.blt n 179) (cond (Nat.blt n 177) (cond (Nat.blt n 176) (cond (Nat.beq n 175) 11 0) (cond (Nat.beq n 176) 11 0)) (cond (Nat.blt n 178) (cond (Nat.beq n 177) 11 0) (cond (Nat.beq n 178) 11 0))) (cond (Nat.blt n 181) (cond (Nat.blt n 180) (cond (Nat.beq n 179) 11 0) (cond (Nat.beq n 180) 11 0)) (cond (Nat.blt n 182) (cond (Nat.beq n 181) 11 0) (cond (Nat.beq n 182) 11 0)))))
def zow_152_31 : Nat → Nat := fun n => (cond (Nat.blt n 167) (zow_152_15 n) (zow_167_16 n))
def zow_122_61 : Nat → Nat := fun n => (cond (Nat.blt n 152) (zow_122_30 n) (zow_152_31 n))
def zow_183_15 : Nat → Nat := fun n => (cond (Nat.blt n 190) (cond (Nat.blt n 186) (cond (Nat.blt n 184) (cond (Nat.beq n 183) 11 0) (cond (Nat.blt n 185) (cond (Nat.beq n 184) 11 0) (cond (Nat.beq n 185) 11 0))) (cond (Nat.blt n 188) (cond (Nat.blt n 187) (cond (Nat.beq n 186) 11 0) (cond (Nat.beq n 187) 11 0)) (cond (Nat.blt n 189) (cond (Nat.beq n 188) 11 0) (cond (Nat.beq n 189) 11 0)))) (cond (Nat.blt n 194) (cond (Nat.blt n 192) (cond (Nat.blt n 191) (cond (Nat.beq n 190) 11 0) (cond (Nat.beq n 191) 11 0)) (cond (Nat.blt n 193) (cond (Nat.beq n 192) 11 0) (cond (Nat.beq n 193) 11 0))) (cond (Nat.blt n 196) (cond (Nat.blt n 195) (cond (Nat.beq n 194) 11 0) (cond (Nat.beq n 195) 11 0)) (cond (Nat.blt n 197) (cond (Nat.beq n 196) 11 0) (cond (Nat.beq n 197) 11 0)))))
def zow_198_15 : Nat → Nat := fun n => (cond (Nat.blt n 205) (cond (Nat.blt n 201) (cond (Nat.blt n 199) (cond (Nat.beq n 198) 11 0) (cond (Nat.blt n 200) (cond (Nat.beq n 199) 11 0) (cond (Nat.beq n 200) 11 0))) (cond (Nat.blt n 203) (cond (Nat.blt n 202) (cond (Nat.beq n 201) 11 0) (cond (Nat.beq n 202) 11 0)) (cond (Nat.blt n 204) (cond (Nat.beq n 203) 11 0) (cond (Nat.beq n 204) 11 0)))) (cond (Nat.blt n 209) (cond (Nat.blt n 207) (cond (Nat.blt n 206) (cond (Nat.beq n 205) 11 0) (cond (Nat.beq n 206) 11 0)) (cond (Nat.blt n 208) (cond (Nat.beq n 207) 11 0) (cond (Nat.beq n 208) 11 0))) (cond (Nat.blt n 211) (cond (Nat.blt n 210) (cond (Nat.beq n 209) 11 0) (cond (Nat.beq n 210) 11 0)) (cond (Nat.blt n 212) (cond (Nat.beq n 211) 11 0) (cond (Nat.beq n 212) 11 0)))))
def zow_183_30 : Nat → Nat := fun n => (cond (Nat.blt n 198) (zow_183_15 n) (zow_198_15 n))
def zow_213_15 : Nat → Nat := fun n => (cond (Nat.blt n 220) (cond (Nat.blt n 216) (cond (Nat.blt n 214) (cond (Nat.beq n 213) 11 0) (cond (Nat.blt n 215) (cond (Nat.beq n 214) 11 0) (cond (Nat.beq n 215) 11 0))) (cond (Nat.blt n 218) (cond (Nat.blt n 217) (cond (Nat.beq n 216) 11 0) (cond (Nat.beq n 217) 11 0)) (cond (Nat.blt n 219) (cond (Nat.beq n 218) 11 0) (cond (Nat.beq n 219) 11 0)))) (cond (Nat.blt n 224) (cond (Nat.blt n 222) (cond (Nat.blt n 221) (cond (Nat.beq n 220) 11 0) (cond (Nat.beq n 221) 11 0)) (cond (Nat.blt n 223) (cond (Nat.beq n 222) 11 0) (cond (Nat.beq n 223) 11 0))) (cond (Nat.blt n 226) (cond (Nat.blt n 225) (cond (Nat.beq n 224) 11 0) (cond (Nat.beq n 225) 11 0)) (cond (Nat.blt n 227) (cond (Nat.beq n 226) 11 0) (cond (Nat.beq n 227) 11 0)))))
def zow_228_16 : Nat → Nat := fun n => (cond (Nat.blt n 236) (cond (Nat.blt n 232) (cond (Nat.blt n 230) (cond (Nat.blt n 229) (cond (Nat.beq n 228) 11 0) (cond (Nat.beq n 229) 11 0)) (cond (Nat.blt n 231) (cond (Nat.beq n 230) 11 0) (cond (Nat.beq n 231) 11 0))) (cond (Nat.blt n 234) (cond (Nat.blt n 233) (cond (Nat.beq n 232) 11 0) (cond (Nat.beq n 233) 11 0)) (cond (Nat.blt n 235) (cond (Nat.beq n 234) 11 0) (cond (Nat.beq n 235) 11 0)))) (cond (Nat.blt n 240) (cond (Nat.blt n 238) (cond (Nat.blt n 237) (cond (Nat.beq n 236) 11 0) (cond (Nat.beq n 237) 11 0)) (cond (Nat.blt n 239) (cond (Nat.beq n 238) 11 0) (cond (Nat.beq n 239) 11 0))) (cond (Nat.blt n 242) (cond (Nat.blt n 241) (cond (Nat.beq n 240) 12 0) (cond (Nat.beq n 241) 13 0)) (cond (Nat.blt n 243) (cond (Nat.beq n 242) 13 0) (cond (Nat.beq n 243) 16 0)))))
def zow_213_31 : Nat → Nat := fun n => (cond (Nat.blt n 228) (zow_213_15 n) (zow_228_16 n))
def zow_183_61 : Nat → Nat := fun n => (cond (Nat.blt n 213) (zow_183_30 n) (zow_213_31 n))
def zow_122_122 : Nat → Nat := fun n => (cond (Nat.blt n 183) (zow_122_61 n) (zow_183_61 n))
def zow : Nat → Nat := fun n => (cond (Nat.blt n 122) (zow_0_122 n) (zow_122_122 n))
def zst_0_15 : Nat → Bool := fun n => (cond (Nat.blt n 7) (cond (Nat.blt n 3) (cond (Nat.blt n 1) (cond (Nat.beq n 0) false false) (cond (Nat.blt n 2) (cond (Nat.beq n 1) false false) (cond (Nat.beq n 2) false false))) (cond (Nat.blt n 5) (cond (Nat.blt n 4) (cond (Nat.beq n 3) false false) (cond (Nat.beq n 4) false false)) (cond (Nat.blt n 6) (cond (Nat.beq n 5) false false) (cond (Nat.beq n 6) false false)))) (cond (Nat.blt n 11) (cond (Nat.blt n 9) (cond (Nat.blt n 8) (cond (Nat.beq n 7) false false) (cond (Nat.beq n 8) false false)) (cond (Nat.blt n 10) (cond (Nat.beq n 9) false false) (cond (Nat.beq n 10) false false))) (cond (Nat.blt n 13) (cond (Nat.blt n 12) (cond (Nat.beq n 11) false false) (cond (Nat.beq n 12) false false)) (cond (Nat.blt n 14) (cond (Nat.beq n 13) false false) (cond (Nat.beq n 14) true false)))))
def zst_15_15 : Nat → Bool := fun n => (cond (Nat.blt n 22) (cond (Nat.blt n 18) (cond (Nat.blt n 16) (cond (Nat.beq n 15) false false) (cond (Nat.blt n 17) (cond (Nat.beq n 16) false false) (cond (Nat.beq n 17) false false))) (cond (Nat.blt n 20) (cond (Nat.blt n 19) (cond (Nat.beq n 18) false false) (cond (Nat.beq n 19) false false)) (cond (Nat.blt n 21) (cond (Nat.beq n 20) false false) (cond (Nat.beq n 21) false false)))) (cond (Nat.blt n 26) (cond (Nat.blt n 24) (cond (Nat.blt n 23) (cond (Nat.beq n 22) false false) (cond (Nat.beq n 23) false false)) (cond (Nat.blt n 25) (cond (Nat.beq n 24) false false) (cond (Nat.beq n 25) true false))) (cond (Nat.blt n 28) (cond (Nat.blt n 27) (cond (Nat.beq n 26) false false) (cond (Nat.beq n 27) false false)) (cond (Nat.blt n 29) (cond (Nat.beq n 28) false false) (cond (Nat.beq n 29) false false)))))
def zst_0_30 : Nat → Bool := fun n => (cond (Nat.blt n 15) (zst_0_15 n) (zst_15_15 n))
def zst_30_15 : Nat → Bool := fun n => (cond (Nat.blt n 37) (cond (Nat.blt n 33) (cond (Nat.blt n 31) (cond (Nat.beq n 30) false false) (cond (Nat.blt n 32) (cond (Nat.beq n 31) false false) (cond (Nat.beq n 32) false false))) (cond (Nat.blt n 35) (cond (Nat.blt n 34) (cond (Nat.beq n 33) true false) (cond (Nat.beq n 34) false false)) (cond (Nat.blt n 36) (cond (Nat.beq n 35) true false) (cond (Nat.beq n 36) false false)))) (cond (Nat.blt n 41) (cond (Nat.blt n 39) (cond (Nat.blt n 38) (cond (Nat.beq n 37) false false) (cond (Nat.beq n 38) false false)) (cond (Nat.blt n 40) (cond (Nat.beq n 39) false false) (cond (Nat.beq n 40) false false))) (cond (Nat.blt n 43) (cond (Nat.blt n 42) (cond (Nat.beq n 41) true false) (cond (Nat.beq n 42) false false)) (cond (Nat.blt n 44) (cond (Nat.beq n 43) false false) (cond (Nat.beq n 44) false false)))))
def zst_45_16 : Nat → Bool := fun n => (cond (Nat.blt n 53) (cond (Nat.blt n 49) (cond (Nat.blt n 47) (cond (Nat.blt n 46) (cond (Nat.beq n 45) false false) (cond (Nat.beq n 46) false false)) (cond (Nat.blt n 48) (cond (Nat.beq n 47) false false) (cond (Nat.beq n 48) false false))) (cond (Nat.blt n 51) (cond (Nat.blt n 50) (cond (Nat.beq n 49) false false) (cond (Nat.beq n 50) false false)) (cond (Nat.blt n 52) (cond (Nat.beq n 51) false false) (cond (Nat.beq n 52) false false)))) (cond (Nat.blt n 57) (cond (Nat.blt n 55) (cond (Nat.blt n 54) (cond (Nat.beq n 53) false false) (cond (Nat.beq n 54) false false)) (cond (Nat.blt n 56) (cond (Nat.beq n 55) false false) (cond (Nat.beq n 56) false false))) (cond (Nat.blt n 59) (cond (Nat.blt n 58) (cond (Nat.beq n 57) false false) (cond (Nat.beq n 58) false false)) (cond (Nat.blt n 60) (cond (Nat.beq n 59) false false) (cond (Nat.beq n 60) false false)))))
def zst_30_31 : Nat → Bool := fun n => (cond (Nat.blt n 45) (zst_30_15 n) (zst_45_16 n))
def zst_0_61 : Nat → Bool := fun n => (cond (Nat.blt n 30) (zst_0_30 n) (zst_30_31 n))
def zst_61_15 : Nat → Bool := fun n => (cond (Nat.blt n 68) (cond (Nat.blt n 64) (cond (Nat.blt n 62) (cond (Nat.beq n 61) false false) (cond (Nat.blt n 63) (cond (Nat.beq n 62) false false) (cond (Nat.beq n 63) false false))) (cond (Nat.blt n 66) (cond (Nat.blt n 65) (cond (Nat.beq n 64) false false) (cond (Nat.beq n 65) false false)) (cond (Nat.blt n 67) (cond (Nat.beq n 66) false false) (cond (Nat.beq n 67) false false)))) (cond (Nat.blt n 72) (cond (Nat.blt n 70) (cond (Nat.blt n 69) (cond (Nat.beq n 68) false false) (cond (Nat.beq n 69) true false)) (cond (Nat.blt n 71) (cond (Nat.beq n 70) false false) (cond (Nat.beq n 71) false false))) (cond (Nat.blt n 74) (cond (Nat.blt n 73) (cond (Nat.beq n 72) true false) (cond (Nat.beq n 73) false false)) (cond (Nat.blt n 75) (cond (Nat.beq n 74) false false) (cond (Nat.beq n 75) false false)))))
def zst_76_15 : Nat → Bool := fun n => (cond (Nat.blt n 83) (cond (Nat.blt n 79) (cond (Nat.blt n 77) (cond (Nat.beq n 76) false false) (cond (Nat.blt n 78) (cond (Nat.beq n 77) false false) (cond (Nat.beq n 78) false false))) (cond (Nat.blt n 81) (cond (Nat.blt n 80) (cond (Nat.beq n 79) false false) (cond (Nat.beq n 80) false false)) (cond (Nat.blt n 82) (cond (Nat.beq n 81) false false) (cond (Nat.beq n 82) false false)))) (cond (Nat.blt n 87) (cond (Nat.blt n 85) (cond (Nat.blt n 84) (cond (Nat.beq n 83) false false) (cond (Nat.beq n 84) false false)) (cond (Nat.blt n 86) (cond (Nat.beq n 85) false false) (cond (Nat.beq n 86) false false))) (cond (Nat.blt n 89) (cond (Nat.blt n 88) (cond (Nat.beq n 87) false false) (cond (Nat.beq n 88) false false)) (cond (Nat.blt n 90) (cond (Nat.beq n 89) false false) (cond (Nat.beq n 90) false false)))))
def zst_61_30 : Nat → Bool := fun n => (cond (Nat.blt n 76) (zst_61_15 n) (zst_76_15 n))
def zst_91_15 : Nat → Bool := fun n => (cond (Nat.blt n 98) (cond (Nat.blt n 94) (cond (Nat.blt n 92) (cond (Nat.beq n 91) false false) (cond (Nat.blt n 93) (cond (Nat.beq n 92) true false) (cond (Nat.beq n 93) false false))) (cond (Nat.blt n 96) (cond (Nat.blt n 95) (cond (Nat.beq n 94) false false) (cond (Nat.beq n 95) true false)) (cond (Nat.blt n 97) (cond (Nat.beq n 96) false false) (cond (Nat.beq n 97) false false)))) (cond (Nat.blt n 102) (cond (Nat.blt n 100) (cond (Nat.blt n 99) (cond (Nat.beq n 98) false false) (cond (Nat.beq n 99) false false)) (cond (Nat.blt n 101) (cond (Nat.beq n 100) false false) (cond (Nat.beq n 101) false false))) (cond (Nat.blt n 104) (cond (Nat.blt n 103) (cond (Nat.beq n 102) false false) (cond (Nat.beq n 103) false false)) (cond (Nat.blt n 105) (cond (Nat.beq n 104) false false) (cond (Nat.beq n 105) false false)))))
def zst_106_16 : Nat → Bool := fun n => (cond (Nat.blt n 114) (cond (Nat.blt n 110) (cond (Nat.blt n 108) (cond (Nat.blt n 107) (cond (Nat.beq n 106) false false) (cond (Nat.beq n 107) false false)) (cond (Nat.blt n 109) (cond (Nat.beq n 108) false false) (cond (Nat.beq n 109) false false))) (cond (Nat.blt n 112) (cond (Nat.blt n 111) (cond (Nat.beq n 110) false false) (cond (Nat.beq n 111) false false)) (cond (Nat.blt n 113) (cond (Nat.beq n 112) false false) (cond (Nat.beq n 113) false false)))) (cond (Nat.blt n 118) (cond (Nat.blt n 116) (cond (Nat.blt n 115) (cond (Nat.beq n 114) false false) (cond (Nat.beq n 115) false false)) (cond (Nat.blt n 117) (cond (Nat.beq n 116) false false) (cond (Nat.beq n 117) false false))) (cond (Nat.blt n 120) (cond (Nat.blt n 119) (cond (Nat.beq n 118) false false) (cond (Nat.beq n 119) false false)) (cond (Nat.blt n 121) (cond (Nat.beq n 120) false false) (cond (Nat.beq n 121) false false)))))
def zst_91_31 : Nat → Bool := fun n => (cond (Nat.blt n 106) (zst_91_15 n) (zst_106_16 n))
def zst_61_61 : Nat → Bool := fun n => (cond (Nat.blt n 91) (zst_61_30 n) (zst_91_31 n))
def zst_0_122 : Nat → Bool := fun n => (cond (Nat.blt n 61) (zst_0_61 n) (zst_61_61 n))
def zst_122_15 : Nat → Bool := fun n => (cond (Nat.blt n 129) (cond (Nat.blt n 125) (cond (Nat.blt n 123) (cond (Nat.beq n 122) false false) (cond (Nat.blt n 124) (cond (Nat.beq n 123) false false) (cond (Nat.beq n 124) false false))) (cond (Nat.blt n 127) (cond (Nat.blt n 126) (cond (Nat.beq n 125) false false) (cond (Nat.beq n 126) false false)) (cond (Nat.blt n 128) (cond (Nat.beq n 127) false false) (cond (Nat.beq n 128) false false)))) (cond (Nat.blt n 133) (cond (Nat.blt n 131) (cond (Nat.blt n 130) (cond (Nat.beq n 129) false false) (cond (Nat.beq n 130) false false)) (cond (Nat.blt n 132) (cond (Nat.beq n 131) false false) (cond (Nat.beq n 132) false false))) (cond (Nat.blt n 135) (cond (Nat.blt n 134) (cond (Nat.beq n 133) false false) (cond (Nat.beq n 134) false false)) (cond (Nat.blt n 136) (cond (Nat.beq n 135) false false) (cond (Nat.beq n 136) false false)))))
def zst_137_15 : Nat → Bool := fun n => (cond (Nat.blt n 144) (cond (Nat.blt n 140) (cond (Nat.blt n 138) (cond (Nat.beq n 137) false false) (cond (Nat.blt n 139) (cond (Nat.beq n 138) false false) (cond (Nat.beq n 139) false false))) (cond (Nat.blt n 142) (cond (Nat.blt n 141) (cond (Nat.beq n 140) true false) (cond (Nat.beq n 141) true false)) (cond (Nat.blt n 143) (cond (Nat.beq n 142) true false) (cond (Nat.beq n 143) true false)))) (cond (Nat.blt n 148) (cond (Nat.blt n 146) (cond (Nat.blt n 145) (cond (Nat.beq n 144) true false) (cond (Nat.beq n 145) true false)) (cond (Nat.blt n 147) (cond (Nat.beq n 146) false false) (cond (Nat.beq n 147) true false))) (cond (Nat.blt n 150) (cond (Nat.blt n 149) (cond (Nat.beq n 148) false false) (cond (Nat.beq n 149) true false)) (cond (Nat.blt n 151) (cond (Nat.beq n 150) true false) (cond (Nat.beq n 151) true false)))))
def zst_122_30 : Nat → Bool := fun n => (cond (Nat.blt n 137) (zst_122_15 n) (zst_137_15 n))
def zst_152_15 : Nat → Bool := fun n => (cond (Nat.blt n 159) (cond (Nat.blt n 155) (cond (Nat.blt n 153) (cond (Nat.beq n 152) false false) (cond (Nat.blt n 154) (cond (Nat.beq n 153) false false) (cond (Nat.beq n 154) false false))) (cond (Nat.blt n 157) (cond (Nat.blt n 156) (cond (Nat.beq n 155) false false) (cond (Nat.beq n 156) false false)) (cond (Nat.blt n 158) (cond (Nat.beq n 157) false false) (cond (Nat.beq n 158) true false)))) (cond (Nat.blt n 163) (cond (Nat.blt n 161) (cond (Nat.blt n 160) (cond (Nat.beq n 159) false false) (cond (Nat.beq n 160) false false)) (cond (Nat.blt n 162) (cond (Nat.beq n 161) false false) (cond (Nat.beq n 162) false false))) (cond (Nat.blt n 165) (cond (Nat.blt n 164) (cond (Nat.beq n 163) true false) (cond (Nat.beq n 164) false false)) (cond (Nat.blt n 166) (cond (Nat.beq n 165) false false) (cond (Nat.beq n 166) false false)))))
def zst_167_16 : Nat → Bool := fun n => (cond (Nat.blt n 175) (cond (Nat.blt n 171) (cond (Nat.blt n 169) (cond (Nat.blt n 168) (cond (Nat.beq n 167) false false) (cond (Nat.beq n 168) false false)) (cond (Nat.blt n 170) (cond (Nat.beq n 169) false false) (cond (Nat.beq n 170) false false))) (cond (Nat.blt n 173) (cond (Nat.blt n 172) (cond (Nat.beq n 171) false false) (cond (Nat.beq n 172) false false)) (cond (Nat.blt n 174) (cond (Nat.beq n 173) false false) (cond (Nat.beq n 174) false false)))) (cond (Nat.blt n 179) (cond (Nat.blt n 177) (cond (Nat.blt n 176) (cond (Nat.beq n 175) true false) (cond (Nat.beq n 176) false false)) (cond (Nat.blt n 178) (cond (Nat.beq n 177) false false) (cond (Nat.beq n 178) false false))) (cond (Nat.blt n 181) (cond (Nat.blt n 180) (cond (Nat.beq n 179) false false) (cond (Nat.beq n 180) true false)) (cond (Nat.blt n 182) (cond (Nat.beq n 181) true false) (cond (Nat.beq n 182) true false)))))
def zst_152_31 : Nat → Bool := fun n => (cond (Nat.blt n 167) (zst_152_15 n) (zst_167_16 n))
def zst_122_61 : Nat → Bool := fun n => (cond (Nat.blt n 152) (zst_122_30 n) (zst_152_31 n))
def zst_183_15 : Nat → Bool := fun n => (cond (Nat.blt n 190) (cond (Nat.blt n 186) (cond (Nat.blt n 184) (cond (Nat.beq n 183) true false) (cond (Nat.blt n 185) (cond (Nat.beq n 184) false false) (cond (Nat.beq n 185) false false))) (cond (Nat.blt n 188) (cond (Nat.blt n 187) (cond (Nat.beq n 186) false false) (cond (Nat.beq n 187) false false)) (cond (Nat.blt n 189) (cond (Nat.beq n 188) false false) (cond (Nat.beq n 189) false false)))) (cond (Nat.blt n 194) (cond (Nat.blt n 192) (cond (Nat.blt n 191) (cond (Nat.beq n 190) false false) (cond (Nat.beq n 191) false false)) (cond (Nat.blt n 193) (cond (Nat.beq n 192) false false) (cond (Nat.beq n 193) false false))) (cond (Nat.blt n 196) (cond (Nat.blt n 195) (cond (Nat.beq n 194) false false) (cond (Nat.beq n 195) false false)) (cond (Nat.blt n 197) (cond (Nat.beq n 196) false false) (cond (Nat.beq n 197) true false)))))
def zst_198_15 : Nat → Bool := fun n => (cond (Nat.blt n 205) (cond (Nat.blt n 201) (cond (Nat.blt n 199) (cond (Nat.beq n 198) false false) (cond (Nat.blt n 200) (cond (Nat.beq n 199) false false) (cond (Nat.beq n 200) false false))) (cond (Nat.blt n 203) (cond (Nat.blt n 202) (cond (Nat.beq n 201) false false) (cond (Nat.beq n 202) false false)) (cond (Nat.blt n 204) (cond (Nat.beq n 203) false false) (cond (Nat.beq n 204) false false)))) (cond (Nat.blt n 209) (cond (Nat.blt n 207) (cond (Nat.blt n 206) (cond (Nat.beq n 205) false false) (cond (Nat.beq n 206) false false)) (cond (Nat.blt n 208) (cond (Nat.beq n 207) false false) (cond (Nat.beq n 208) false false))) (cond (Nat.blt n 211) (cond (Nat.blt n 210) (cond (Nat.beq n 209) false false) (cond (Nat.beq n 210) false false)) (cond (Nat.blt n 212) (cond (Nat.beq n 211) false false) (cond (Nat.beq n 212) false false)))))
def zst_183_30 : Nat → Bool := fun n => (cond (Nat.blt n 198) (zst_183_15 n) (zst_198_15 n))
def zst_213_15 : Nat → Bool := fun n => (cond (Nat.blt n 220) (cond (Nat.blt n 216) (cond (Nat.blt n 214) (cond (Nat.beq n 213) false false) (cond (Nat.blt n 215) (cond (Nat.beq n 214) false false) (cond (Nat.beq n 215) false false))) (cond (Nat.blt n 218) (cond (Nat.blt n 217) (cond (Nat.beq n 216) false false) (cond (Nat.beq n 217) false false)) (cond (Nat.blt n 219) (cond (Nat.beq n 218) false false) (cond (Nat.beq n 219) false false)))) (cond (Nat.blt n 224) (cond (Nat.blt n 222) (cond (Nat.blt n 221) (cond (Nat.beq n 220) false false) (cond (Nat.beq n 221) false false)) (cond (Nat.blt n 223) (cond (Nat.beq n 222) true false) (cond (Nat.beq n 223) false false))) (cond (Nat.blt n 226) (cond (Nat.blt n 225) (cond (Nat.beq n 224) false false) (cond (Nat.beq n 225) false false)) (cond (Nat.blt n 227) (cond (Nat.beq n 226) false false) (cond (Nat.beq n 227) false false)))))
def zst_228_16 : Nat → Bool := fun n => (cond (Nat.blt n 236) (cond (Nat.blt n 232) (cond (Nat.blt n 230) (cond (Nat.blt n 229) (cond (Nat.beq n 228) false false) (cond (Nat.beq n 229) false false)) (cond (Nat.blt n 231) (cond (Nat.beq n 230) true false) (cond (Nat.beq n 231) false false))) (cond (Nat.blt n 234) (cond (Nat.blt n 233) (cond (Nat.beq n 232) false false) (cond (Nat.beq n 233) false false)) (cond (Nat.blt n 235) (cond (Nat.beq n 234) true false) (cond (Nat.beq n 235) false false)))) (cond (Nat.blt n 240) (cond (Nat.blt n 238) (cond (Nat.blt n 237) (cond (Nat.beq n 236) false false) (cond (Nat.beq n 237) false false)) (cond (Nat.blt n 239) (cond (Nat.beq n 238) false false) (cond (Nat.beq n 239) false false))) (cond (Nat.blt n 242) (cond (Nat.blt n 241) (cond (Nat.beq n 240) true false) (cond (Nat.beq n 241) true false)) (cond (Nat.blt n 243) (cond (Nat.beq n 242) true false) (cond (Nat.beq n 243) true false)))))
def zst_213_31 : Nat → Bool := fun n => (cond (Nat.blt n 228) (zst_213_15 n) (zst_228_16 n))
def zst_183_61 : Nat → Bool := fun n => (cond (Nat.blt n 213) (zst_183_30 n) (zst_213_31 n))
def zst_122_122 : Nat → Bool := fun n => (cond (Nat.blt n 183) (zst_122_61 n) (zst_183_61 n))
def zst : Nat → Bool := fun n => (cond (Nat.blt n 122) (zst_0_122 n) (zst_122_122 n))
def zin_0_15 : Nat → Bool := fun n => (cond (Nat.blt n 7) (cond (Nat.blt n 3) (cond (Nat.blt n 1) (cond (Nat.beq n 0) true false) (cond (Nat.blt n 2) (cond (Nat.beq n 1) false false) (cond (Nat.beq n 2) false false))) (cond (Nat.blt n 5) (cond (Nat.blt n 4) (cond (Nat.beq n 3) false false) (cond (Nat.beq n 4) false false)) (cond (Nat.blt n 6) (cond (Nat.beq n 5) false false) (cond (Nat.beq n 6) false false)))) (cond (Nat.blt n 11) (cond (Nat.blt n 9) (cond (Nat.blt n 8) (cond (Nat.beq n 7) false false) (cond (Nat.beq n 8) false false)) (cond (Nat.blt n 10) (cond (Nat.beq n 9) false false) (cond (Nat.beq n 10) false false))) (cond (Nat.blt n 13) (cond (Nat.blt n 12) (cond (Nat.beq n 11) false false) (cond (Nat.beq n 12) true false)) (cond (Nat.blt n 14) (cond (Nat.beq n 13) false false) (cond (Nat.beq n 14) false false)))))
def zin_15_15 : Nat → Bool := fun n => (cond (Nat.blt n 22) (cond (Nat.blt n 18) (cond (Nat.blt n 16) (cond (Nat.beq n 15) false false) (cond (Nat.blt n 17) (cond (Nat.beq n 16) false false) (cond (Nat.beq n 17) true false))) (cond (Nat.blt n 20) (cond (Nat.blt n 19) (cond (Nat.beq n 18) false false) (cond (Nat.beq n 19) false false)) (cond (Nat.blt n 21) (cond (Nat.beq n 20) false false) (cond (Nat.beq n 21) false false)))) (cond (Nat.blt n 26) (cond (Nat.blt n 24) (cond (Nat.blt n 23) (cond (Nat.beq n 22) false false) (cond (Nat.beq n 23) false false)) (cond (Nat.blt n 25) (cond (Nat.beq n 24) true false) (cond (Nat.beq n 25) false false))) (cond (Nat.blt n 28) (cond (Nat.blt n 27) (cond (Nat.beq n 26) false false) (cond (Nat.beq n 27) false false)) (cond (Nat.blt n 29) (cond (Nat.beq n 28) false false) (cond (Nat.beq n 29) false false)))))
def zin_0_30 : Nat → Bool := fun n => (cond (Nat.blt n 15) (zin_0_15 n) (zin_15_15 n))
def zin_30_15 : Nat → Bool := fun n => (cond (Nat.blt n 37) (cond (Nat.blt n 33) (cond (Nat.blt n 31) (cond (Nat.beq n 30) false false) (cond (Nat.blt n 32) (cond (Nat.beq n 31) false false) (cond (Nat.beq n 32) false false))) (cond (Nat.blt n 35) (cond (Nat.blt n 34) (cond (Nat.beq n 33) false false) (cond (Nat.beq n 34) true false)) (cond (Nat.blt n 36) (cond (Nat.beq n 35) false false) (cond (Nat.beq n 36) false false)))) (cond (Nat.blt n 41) (cond (Nat.blt n 39) (cond (Nat.blt n 38) (cond (Nat.beq n 37) false false) (cond (Nat.beq n 38) false false)) (cond (Nat.blt n 40) (cond (Nat.beq n 39) false false) (cond (Nat.beq n 40) false false))) (cond (Nat.blt n 43) (cond (Nat.blt n 42) (cond (Nat.beq n 41) false false) (cond (Nat.beq n 42) false false)) (cond (Nat.blt n 44) (cond (Nat.beq n 43) false false) (cond (Nat.beq n 44) true false)))))
def zin_45_16 : Nat → Bool := fun n => (cond (Nat.blt n 53) (cond (Nat.blt n 49) (cond (Nat.blt n 47) (cond (Nat.blt n 46) (cond (Nat.beq n 45) false false) (cond (Nat.beq n 46) false false)) (cond (Nat.blt n 48) (cond (Nat.beq n 47) false false) (cond (Nat.beq n 48) false false))) (cond (Nat.blt n 51) (cond (Nat.blt n 50) (cond (Nat.beq n 49) true false) (cond (Nat.beq n 50) false false)) (cond (Nat.blt n 52) (cond (Nat.beq n 51) false false) (cond (Nat.beq n 52) false false)))) (cond (Nat.blt n 57) (cond (Nat.blt n 55) (cond (Nat.blt n 54) (cond (Nat.beq n 53) false false) (cond (Nat.beq n 54) false false)) (cond (Nat.blt n 56) (cond (Nat.beq n 55) false false) (cond (Nat.beq n 56) false false))) (cond (Nat.blt n 59) (cond (Nat.blt n 58) (cond (Nat.beq n 57) false false) (cond (Nat.beq n 58) false false)) (cond (Nat.blt n 60) (cond (Nat.beq n 59) false false) (cond (Nat.beq n 60) false false)))))
def zin_30_31 : Nat → Bool := fun n => (cond (Nat.blt n 45) (zin_30_15 n) (zin_45_16 n))
def zin_0_61 : Nat → Bool := fun n => (cond (Nat.blt n 30) (zin_0_30 n) (zin_30_31 n))
def zin_61_15 : Nat → Bool := fun n => (cond (Nat.blt n 68) (cond (Nat.blt n 64) (cond (Nat.blt n 62) (cond (Nat.beq n 61) true false) (cond (Nat.blt n 63) (cond (Nat.beq n 62) false false) (cond (Nat.beq n 63) false false))) (cond (Nat.blt n 66) (cond (Nat.blt n 65) (cond (Nat.beq n 64) false false) (cond (Nat.beq n 65) false false)) (cond (Nat.blt n 67) (cond (Nat.beq n 66) false false) (cond (Nat.beq n 67) false false)))) (cond (Nat.blt n 72) (cond (Nat.blt n 70) (cond (Nat.blt n 69) (cond (Nat.beq n 68) false false) (cond (Nat.beq n 69) false false)) (cond (Nat.blt n 71) (cond (Nat.beq n 70) false false) (cond (Nat.beq n 71) false false))) (cond (Nat.blt n 74) (cond (Nat.blt n 73) (cond (Nat.beq n 72) false false) (cond (Nat.beq n 73) false false)) (cond (Nat.blt n 75) (cond (Nat.beq n 74) true false) (cond (Nat.beq n 75) false false)))))
def zin_76_15 : Nat → Bool := fun n => (cond (Nat.blt n 83) (cond (Nat.blt n 79) (cond (Nat.blt n 77) (cond (Nat.beq n 76) false false) (cond (Nat.blt n 78) (cond (Nat.beq n 77) false false) (cond (Nat.beq n 78) false false))) (cond (Nat.blt n 81) (cond (Nat.blt n 80) (cond (Nat.beq n 79) false false) (cond (Nat.beq n 80) false false)) (cond (Nat.blt n 82) (cond (Nat.beq n 81) false false) (cond (Nat.beq n 82) false false)))) (cond (Nat.blt n 87) (cond (Nat.blt n 85) (cond (Nat.blt n 84) (cond (Nat.beq n 83) false false) (cond (Nat.beq n 84) false false)) (cond (Nat.blt n 86) (cond (Nat.beq n 85) false false) (cond (Nat.beq n 86) false false))) (cond (Nat.blt n 89) (cond (Nat.blt n 88) (cond (Nat.beq n 87) false false) (cond (Nat.beq n 88) true false)) (cond (Nat.blt n 90) (cond (Nat.beq n 89) false false) (cond (Nat.beq n 90) false false)))))
def zin_61_30 : Nat → Bool := fun n => (cond (Nat.blt n 76) (zin_61_15 n) (zin_76_15 n))
def zin_91_15 : Nat → Bool := fun n => (cond (Nat.blt n 98) (cond (Nat.blt n 94) (cond (Nat.blt n 92) (cond (Nat.beq n 91) false false) (cond (Nat.blt n 93) (cond (Nat.beq n 92) false false) (cond (Nat.beq n 93) false false))) (cond (Nat.blt n 96) (cond (Nat.blt n 95) (cond (Nat.beq n 94) false false) (cond (Nat.beq n 95) false false)) (cond (Nat.blt n 97) (cond (Nat.beq n 96) false false) (cond (Nat.beq n 97) false false)))) (cond (Nat.blt n 102) (cond (Nat.blt n 100) (cond (Nat.blt n 99) (cond (Nat.beq n 98) true false) (cond (Nat.beq n 99) false false)) (cond (Nat.blt n 101) (cond (Nat.beq n 100) false false) (cond (Nat.beq n 101) false false))) (cond (Nat.blt n 104) (cond (Nat.blt n 103) (cond (Nat.beq n 102) false false) (cond (Nat.beq n 103) false false)) (cond (Nat.blt n 105) (cond (Nat.beq n 104) false false) (cond (Nat.beq n 105) false false)))))
def zin_106_16 : Nat → Bool := fun n => (cond (Nat.blt n 114) (cond (Nat.blt n 110) (cond (Nat.blt n 108) (cond (Nat.blt n 107) (cond (Nat.beq n 106) false false) (cond (Nat.beq n 107) false false)) (cond (Nat.blt n 109) (cond (Nat.beq n 108) false false) (cond (Nat.beq n 109) false false))) (cond (Nat.blt n 112) (cond (Nat.blt n 111) (cond (Nat.beq n 110) false false) (cond (Nat.beq n 111) false false)) (cond (Nat.blt n 113) (cond (Nat.beq n 112) false false) (cond (Nat.beq n 113) false false)))) (cond (Nat.blt n 118) (cond (Nat.blt n 116) (cond (Nat.blt n 115) (cond (Nat.beq n 114) false false) (cond (Nat.beq n 115) false false)) (cond (Nat.blt n 117) (cond (Nat.beq n 116) false false) (cond (Nat.beq n 117) false false))) (cond (Nat.blt n 120) (cond (Nat.blt n 119) (cond (Nat.beq n 118) false false) (cond (Nat.beq n 119) false false)) (cond (Nat.blt n 121) (cond (Nat.beq n 120) false false) (cond (Nat.beq n 121) false false)))))
def zin_91_31 : Nat → Bool := fun n => (cond (Nat.blt n 106) (zin_91_15 n) (zin_106_16 n))
def zin_61_61 : Nat → Bool := fun n => (cond (Nat.blt n 91) (zin_61_30 n) (zin_91_31 n))
def zin_0_122 : Nat → Bool := fun n => (cond (Nat.blt n 61) (zin_0_61 n) (zin_61_61 n))
def zin_122_15 : Nat → Bool := fun n => (cond (Nat.blt n 129) (cond (Nat.blt n 125) (cond (Nat.blt n 123) (cond (Nat.beq n 122) false false) (cond (Nat.blt n 124) (cond (Nat.beq n 123) false false) (cond (Nat.beq n 124) false false))) (cond (Nat.blt n 127) (cond (Nat.blt n 126) (cond (Nat.beq n 125) false false) (cond (Nat.beq n 126) false false)) (cond (Nat.blt n 128) (cond (Nat.beq n 127) false false) (cond (Nat.beq n 128) false false)))) (cond (Nat.blt n 133) (cond (Nat.blt n 131) (cond (Nat.blt n 130) (cond (Nat.beq n 129) false false) (cond (Nat.beq n 130) false false)) (cond (Nat.blt n 132) (cond (Nat.beq n 131) false false) (cond (Nat.beq n 132) false false))) (cond (Nat.blt n 135) (cond (Nat.blt n 134) (cond (Nat.beq n 133) false false) (cond (Nat.beq n 134) false false)) (cond (Nat.blt n 136) (cond (Nat.beq n 135) false false) (cond (Nat.beq n 136) false false)))))
def zin_137_15 : Nat → Bool := fun n => (cond (Nat.blt n 144) (cond (Nat.blt n 140) (cond (Nat.blt n 138) (cond (Nat.beq n 137) false false) (cond (Nat.blt n 139) (cond (Nat.beq n 138) false false) (cond (Nat.beq n 139) false false))) (cond (Nat.blt n 142) (cond (Nat.blt n 141) (cond (Nat.beq n 140) false false) (cond (Nat.beq n 141) false false)) (cond (Nat.blt n 143) (cond (Nat.beq n 142) false false) (cond (Nat.beq n 143) false false)))) (cond (Nat.blt n 148) (cond (Nat.blt n 146) (cond (Nat.blt n 145) (cond (Nat.beq n 144) false false) (cond (Nat.beq n 145) false false)) (cond (Nat.blt n 147) (cond (Nat.beq n 146) false false) (cond (Nat.beq n 147) false false))) (cond (Nat.blt n 150) (cond (Nat.blt n 149) (cond (Nat.beq n 148) false false) (cond (Nat.beq n 149) false false)) (cond (Nat.blt n 151) (cond (Nat.beq n 150) false false) (cond (Nat.beq n 151) false false)))))
def zin_122_30 : Nat → Bool := fun n => (cond (Nat.blt n 137) (zin_122_15 n) (zin_137_15 n))
def zin_152_15 : Nat → Bool := fun n => (cond (Nat.blt n 159) (cond (Nat.blt n 155) (cond (Nat.blt n 153) (cond (Nat.beq n 152) true false) (cond (Nat.blt n 154) (cond (Nat.beq n 153) false false) (cond (Nat.beq n 154) false false))) (cond (Nat.blt n 157) (cond (Nat.blt n 156) (cond (Nat.beq n 155) false false) (cond (Nat.beq n 156) false false)) (cond (Nat.blt n 158) (cond (Nat.beq n 157) false false) (cond (Nat.beq n 158) false false)))) (cond (Nat.blt n 163) (cond (Nat.blt n 161) (cond (Nat.blt n 160) (cond (Nat.beq n 159) false false) (cond (Nat.beq n 160) false false)) (cond (Nat.blt n 162) (cond (Nat.beq n 161) false false) (cond (Nat.beq n 162) false false))) (cond (Nat.blt n 165) (cond (Nat.blt n 164) (cond (Nat.beq n 163) false false) (cond (Nat.beq n 164) false false)) (cond (Nat.blt n 166) (cond (Nat.beq n 165) false false) (cond (Nat.beq n 166) false false)))))
def zin_167_16 : Nat → Bool := fun n => (cond (Nat.blt n 175) (cond (Nat.blt n 171) (cond (Nat.blt n 169) (cond (Nat.blt n 168) (cond (Nat.beq n 167) false false) (cond (Nat.beq n 168) false false)) (cond (Nat.blt n 170) (cond (Nat.beq n 169) false false) (cond (Nat.beq n 170) false false))) (cond (Nat.blt n 173) (cond (Nat.blt n 172) (cond (Nat.beq n 171) false false) (cond (Nat.beq n 172) false false)) (cond (Nat.blt n 174) (cond (Nat.beq n 173) false false) (cond (Nat.beq n 174) false false)))) (cond (Nat.blt n 179) (cond (Nat.blt n 177) (cond (Nat.blt n 176) (cond (Nat.beq n 175) false false) (cond (Nat.beq n 176) false false)) (cond (Nat.blt n 178) (cond (Nat.beq n 177) false false) (cond (Nat.beq n 178) false false))) (cond (Nat.blt n 181) (cond (Nat.blt n 180) (cond (Nat.beq n 179) false false) (cond (Nat.beq n 180) false false)) (cond (Nat.blt n 182) (cond (Nat.beq n 181) false false) (cond (Nat.beq n 182) false false)))))
def zin_152_31 : Nat → Bool := fun n => (cond (Nat.blt n 167) (zin_152_15 n) (zin_167_16 n))
def zin_122_61 : Nat → Bool := fun n => (cond (Nat.blt n 152) (zin_122_30 n) (zin_152_31 n))
def zin_183_15 : Nat → Bool := fun n => (cond (Nat.blt n 190) (cond (Nat.blt n 186) (cond (Nat.blt n 184) (cond (Nat.beq n 183) false false) (cond (Nat.blt n 185) (cond (Nat.beq n 184) false false) (cond (Nat.beq n 185) false false))) (cond (Nat.blt n 188) (cond (Nat.blt n 187) (cond (Nat.beq n 186) false false) (cond (Nat.beq n 187) false false)) (cond (Nat.blt n 189) (cond (Nat.beq n 188) false false) (cond (Nat.beq n 189) false false)))) (cond (Nat.blt n 194) (cond (Nat.blt n 192) (cond (Nat.blt n 191) (cond (Nat.beq n 190) false false) (cond (Nat.beq n 191) false false)) (cond (Nat.blt n 193) (cond (Nat.beq n 192) false false) (cond (Nat.beq n 193) false false))) (cond (Nat.blt n 196) (cond (Nat.blt n 195) (cond (Nat.beq n 194) false false) (cond (Nat.beq n 195) false false)) (cond (Nat.blt n 197) (cond (Nat.beq n 196) false false) (cond (Nat.beq n 197) false false)))))
def zin_198_15 : Nat → Bool := fun n => (cond (Nat.blt n 205) (cond (Nat.blt n 201) (cond (Nat.blt n 199) (cond (Nat.beq n 198) false false) (cond (Nat.blt n 200) (cond (Nat.beq n 199) false false) (cond (Nat.beq n 200) false false))) (cond (Nat.blt n 203) (cond (Nat.blt n 202) (cond (Nat.beq n 201) false false) (cond (Nat.beq n 202) false false)) (cond (Nat.blt n 204) (cond (Nat.beq n 203) false false) (cond (Nat.beq n 204) false false)))) (cond (Nat.blt n 209) (cond (Nat.blt n 207) (cond (Nat.blt n 206) (cond (Nat.beq n 205) false false) (cond (Nat.beq n 206) false false)) (cond (Nat.blt n 208) (cond (Nat.beq n 207) false false) (cond (Nat.beq n 208) false false))) (cond (Nat.blt n 211) (cond (Nat.blt n 210) (cond (Nat.beq n 209) false false) (cond (Nat.beq n 210) false false)) (cond (Nat.blt n 212) (cond (Nat.beq n 211) false false) (cond (Nat.beq n 212) false false)))))
def zin_183_30 : Nat → Bool := fun n => (cond (Nat.blt n 198) (zin_183_15 n) (zin_198_15 n))
def zin_213_15 : Nat → Bool := fun n => (cond (Nat.blt n 220) (cond (Nat.blt n 216) (cond (Nat.blt n 214) (cond (Nat.beq n 213) false false) (cond (Nat.blt n 215) (cond (Nat.beq n 214) false false) (cond (Nat.beq n 215) false false))) (cond (Nat.blt n 218) (cond (Nat.blt n 217) (cond (Nat.beq n 216) false false) (cond (Nat.beq n 217) false false)) (cond (Nat.blt n 219) (cond (Nat.beq n 218) false false) (cond (Nat.beq n 219) false false)))) (cond (Nat.blt n 224) (cond (Nat.blt n 222) (cond (Nat.blt n 221) (cond (Nat.beq n 220) false false) (cond (Nat.beq n 221) false false)) (cond (Nat.blt n 223) (cond (Nat.beq n 222) false false) (cond (Nat.beq n 223) false false))) (cond (Nat.blt n 226) (cond (Nat.blt n 225) (cond (Nat.beq n 224) false false) (cond (Nat.beq n 225) false false)) (cond (Nat.blt n 227) (cond (Nat.beq n 226) false false) (cond (Nat.beq n 227) false false)))))
def zin_228_16 : Nat → Bool := fun n => (cond (Nat.blt n 236) (cond (Nat.blt n 232) (cond (Nat.blt n 230) (cond (Nat.blt n 229) (cond (Nat.beq n 228) false false) (cond (Nat.beq n 229) false false)) (cond (Nat.blt n 231) (cond (Nat.beq n 230) false false) (cond (Nat.beq n 231) false false))) (cond (Nat.blt n 234) (cond (Nat.blt n 233) (cond (Nat.beq n 232) false false) (cond (Nat.beq n 233) false false)) (cond (Nat.blt n 235) (cond (Nat.beq n 234) false false) (cond (Nat.beq n 235) false false)))) (cond (Nat.blt n 240) (cond (Nat.blt n 238) (cond (Nat.blt n 237) (cond (Nat.beq n 236) false false) (cond (Nat.beq n 237) false false)) (cond (Nat.blt n 239) (cond (Nat.beq n 238) false false) (cond (Nat.beq n 239) false false))) (cond (Nat.blt n 242) (cond (Nat.blt n 241) (cond (Nat.beq n 240) false false) (cond (Nat.beq n 241) false false)) (cond (Nat.blt n 243) (cond (Nat.beq n 242) false false) (cond (Nat.beq n 243) false false)))))
def zin_213_31 : Nat → Bool := fun n => (cond (Nat.blt n 228) (zin_213_15 n) (zin_228_16 n))
def zin_183_61 : Nat → Bool := fun n => (cond (Nat.blt n 213) (zin_183_30 n) (zin_213_31 n))
def zin_122_122 : Nat → Bool := fun n => (cond (Nat.blt n 183) (zin_122_61 n) (zin_183_61 n))
def zin : Nat → Bool := fun n => (cond (Nat.blt n 122) (zin_0_122 n) (zin_122_122 n))
def zpn_0_15 : Nat → Nat := fun n => (cond (Nat.blt n 7) (cond (Nat.blt n 3) (cond (Nat.blt n 1) (cond (Nat.beq n 0) 0 0) (cond (Nat.blt n 2) (cond (Nat.beq n 1) 0 0) (cond (Nat.beq n 2) 0 0))) (cond (Nat.blt n 5) (cond (Nat.blt n 4) (cond (Nat.beq n 3) 0 0) (cond (Nat.beq n 4) 0 0)) (cond (Nat.blt n 6) (cond (Nat.beq n 5) 0 0) (cond (Nat.beq n 6) 0 0)))) (cond (Nat.blt n 11) (cond (Nat.blt n 9) (cond (Nat.blt n 8) (cond (Nat.beq n 7) 0 0) (cond (Nat.beq n 8) 0 0)) (cond (Nat.blt n 10) (cond (Nat.beq n 9) 0 0) (cond (Nat.beq n 10) 0 0))) (cond (Nat.blt n 13) (cond (Nat.blt n 12) (cond (Nat.beq n 11) 0 0) (cond (Nat.beq n 12) 0 0)) (cond (Nat.blt n 14) (cond (Nat.beq n 13) 0 0) (cond (Nat.beq n 14) 0 0)))))
def zpn_15_15 : Nat → Nat := fun n => (cond (Nat.blt n 22) (cond (Nat.blt n 18) (cond (Nat.blt n 16) (cond (Nat.beq n 15) 0 0) (cond (Nat.blt n 17) (cond (Nat.beq n 16) 0 0) (cond (Nat.beq n 17) 0 0))) (cond (Nat.blt n 20) (cond (Nat.blt n 19) (cond (Nat.beq n 18) 0 0) (cond (Nat.beq n 19) 0 0)) (cond (Nat.blt n 21) (cond (Nat.beq n 20) 0 0) (cond (Nat.beq n 21) 0 0)))) (cond (Nat.blt n 26) (cond (Nat.blt n 24) (cond (Nat.blt n 23) (cond (Nat.beq n 22) 0 0) (cond (Nat.beq n 23) 0 0)) (cond (Nat.blt n 25) (cond (Nat.beq n 24) 0 0) (cond (Nat.beq n 25) 0 0))) (cond (Nat.blt n 28) (cond (Nat.blt n 27) (cond (Nat.beq n 26) 0 0) (cond (Nat.beq n 27) 0 0)) (cond (Nat.blt n 29) (cond (Nat.beq n 28) 0 0) (cond (Nat.beq n 29) 0 0)))))
def zpn_0_30 : Nat → Nat := fun n => (cond (Nat.blt n 15) (zpn_0_15 n) (zpn_15_15 n))
def zpn_30_15 : Nat → Nat := fun n => (cond (Nat.blt n 37) (cond (Nat.blt n 33) (cond (Nat.blt n 31) (cond (Nat.beq n 30) 0 0) (cond (Nat.blt n 32) (cond (Nat.beq n 31) 0 0) (cond (Nat.beq n 32) 0 0))) (cond (Nat.blt n 35) (cond (Nat.blt n 34) (cond (Nat.beq n 33) 0 0) (cond (Nat.beq n 34) 0 0)) (cond (Nat.blt n 36) (cond (Nat.beq n 35) 0 0) (cond (Nat.beq n 36) 0 0)))) (cond (Nat.blt n 41) (cond (Nat.blt n 39) (cond (Nat.blt n 38) (cond (Nat.beq n 37) 0 0) (cond (Nat.beq n 38) 0 0)) (cond (Nat.blt n 40) (cond (Nat.beq n 39) 0 0) (cond (Nat.beq n 40) 0 0))) (cond (Nat.blt n 43) (cond (Nat.blt n 42) (cond (Nat.beq n 41) 0 0) (cond (Nat.beq n 42) 0 0)) (cond (Nat.blt n 44) (cond (Nat.beq n 43) 0 0) (cond (Nat.beq n 44) 0 0)))))
def zpn_45_16 : Nat → Nat := fun n => (cond (Nat.blt n 53) (cond (Nat.blt n 49) (cond (Nat.blt n 47) (cond (Nat.blt n 46) (cond (Nat.beq n 45) 0 0) (cond (Nat.beq n 46) 0 0)) (cond (Nat.blt n 48) (cond (Nat.beq n 47) 0 0) (cond (Nat.beq n 48) 0 0))) (cond (Nat.blt n 51) (cond (Nat.blt n 50) (cond (Nat.beq n 49) 0 0) (cond (Nat.beq n 50) 0 0)) (cond (Nat.blt n 52) (cond (Nat.beq n 51) 0 0) (cond (Nat.beq n 52) 0 0)))) (cond (Nat.blt n 57) (cond (Nat.blt n 55) (cond (Nat.blt n 54) (cond (Nat.beq n 53) 0 0) (cond (Nat.beq n 54) 0 0)) (cond (Nat.blt n 56) (cond (Nat.beq n 55) 0 0) (cond (Nat.beq n 56) 0 0))) (cond (Nat.blt n 59) (cond (Nat.blt n 58) (cond (Nat.beq n 57) 0 0) (cond (Nat.beq n 58) 0 0)) (cond (Nat.blt n 60) (cond (Nat.beq n 59) 4 0) (cond (Nat.beq n 60) 3 0)))))
def zpn_30_31 : Nat → Nat := fun n => (cond (Nat.blt n 45) (zpn_30_15 n) (zpn_45_16 n))
def zpn_0_61 : Nat → Nat := fun n => (cond (Nat.blt n 30) (zpn_0_30 n) (zpn_30_31 n))
def zpn_61_15 : Nat → Nat := fun n => (cond (Nat.blt n 68) (cond (Nat.blt n 64) (cond (Nat.blt n 62) (cond (Nat.beq n 61) 0 0) (cond (Nat.blt n 63) (cond (Nat.beq n 62) 0 0) (cond (Nat.beq n 63) 0 0))) (cond (Nat.blt n 66) (cond (Nat.blt n 65) (cond (Nat.beq n 64) 0 0) (cond (Nat.beq n 65) 0 0)) (cond (Nat.blt n 67) (cond (Nat.beq n 66) 0 0) (cond (Nat.beq n 67) 0 0)))) (cond (Nat.blt n 72) (cond (Nat.blt n 70) (cond (Nat.blt n 69) (cond (Nat.beq n 68) 0 0) (cond (Nat.beq n 69) 0 0)) (cond (Nat.blt n 71) (cond (Nat.beq n 70) 0 0) (cond (Nat.beq n 71) 0 0))) (cond (Nat.blt n 74) (cond (Nat.blt n 73) (cond (Nat.beq n 72) 0 0) (cond (Nat.beq n 73) 0 0)) (cond (Nat.blt n 75) (cond (Nat.beq n 74) 0 0) (cond (Nat.beq n 75) 0 0)))))
def zpn_76_15 : Nat → Nat := fun n => (cond (Nat.blt n 83) (cond (Nat.blt n 79) (cond (Nat.blt n 77) (cond (Nat.beq n 76) 0 0) (cond (Nat.blt n 78) (cond (Nat.beq n 77) 0 0) (cond (Nat.beq n 78) 0 0))) (cond (Nat.blt n 81) (cond (Nat.blt n 80) (cond (Nat.beq n 79) 0 0) (cond (Nat.beq n 80) 0 0)) (cond (Nat.blt n 82) (cond (Nat.beq n 81) 0 0) (cond (Nat.beq n 82) 0 0)))) (cond (Nat.blt n 87) (cond (Nat.blt n 85) (cond (Nat.blt n 84) (cond (Nat.beq n 83) 0 0) (cond (Nat.beq n 84) 0 0)) (cond (Nat.blt n 86) (cond (Nat.beq n 85) 0 0) (cond (Nat.beq n 86) 0 0))) (cond (Nat.blt n 89) (cond (Nat.blt n 88) (cond (Nat.beq n 87) 0 0) (cond (Nat.beq n 88) 0 0)) (cond (Nat.blt n 90) (cond (Nat.beq n 89) 0 0) (cond (Nat.beq n 90) 0 0)))))
def zpn_61_30 : Nat → Nat := fun n => (cond (Nat.blt n 76) (zpn_61_15 n) (zpn_76_15 n))
def zpn_91_15 : Nat → Nat := fun n => (cond (Nat.blt n 98) (cond (Nat.blt n 94) (cond (Nat.blt n 92) (cond (Nat.beq n 91) 0 0) (cond (Nat.blt n 93) (cond (Nat.beq n 92) 0 0) (cond (Nat.beq n 93) 0 0))) (cond (Nat.blt n 96) (cond (Nat.blt n 95) (cond (Nat.beq n 94) 0 0) (cond (Nat.beq n 95) 0 0)) (cond (Nat.blt n 97) (cond (Nat.beq n 96) 0 0) (cond (Nat.beq n 97) 0 0)))) (cond (Nat.blt n 102) (cond (Nat.blt n 100) (cond (Nat.blt n 99) (cond (Nat.beq n 98) 0 0) (cond (Nat.beq n 99) 0 0)) (cond (Nat.blt n 101) (cond (Nat.beq n 100) 0 0) (cond (Nat.beq n 101) 0 0))) (cond (Nat.blt n 104) (cond (Nat.blt n 103) (cond (Nat.beq n 102) 0 0) (cond (Nat.beq n 103) 0 0)) (cond (Nat.blt n 105) (cond (Nat.beq n 104) 0 0) (cond (Nat.beq n 105) 0 0)))))
def zpn_106_16 : Nat → Nat := fun n => (cond (Nat.blt n 114) (cond (Nat.blt n 110) (cond (Nat.blt n 108) (cond (Nat.blt n 107) (cond (Nat.beq n 106) 0 0) (cond (Nat.beq n 107) 0 0)) (cond (Nat.blt n 109) (cond (Nat.beq n 108) 0 0) (cond (Nat.beq n 109) 0 0))) (cond (Nat.blt n 112) (cond (Nat.blt n 111) (cond (Nat.beq n 110) 0 0) (cond (Nat.beq n 111) 0 0)) (cond (Nat.blt n 113) (cond (Nat.beq n 112) 0 0) (cond (Nat.beq n 113) 0 0)))) (cond (Nat.blt n 118) (cond (Nat.blt n 116) (cond (Nat.blt n 115) (cond (Nat.beq n 114) 0 0) (cond (Nat.beq n 115) 0 0)) (cond (Nat.blt n 117) (cond (Nat.beq n 116) 0 0) (cond (Nat.beq n 117) 0 0))) (cond (Nat.blt n 120) (cond (Nat.blt n 119) (cond (Nat.beq n 118) 0 0) (cond (Nat.beq n 119) 0 0)) (cond (Nat.blt n 121) (cond (Nat.beq n 120) 0 0) (cond (Nat.beq n 121) 0 0)))))
def zpn_91_31 : Nat → Nat := fun n => (cond (Nat.blt n 106) (zpn_91_15 n) (zpn_106_16 n))
def zpn_61_61 : Nat → Nat := fun n => (cond (Nat.blt n 91) (zpn_61_30 n) (zpn_91_31 n))
def zpn_0_122 : Nat → Nat := fun n => (cond (Nat.blt n 61) (zpn_0_61 n) (zpn_61_61 n))
def zpn_122_15 : Nat → Nat := fun n => (cond (Nat.blt n 129) (cond (Nat.blt n 125) (cond (Nat.blt n 123) (cond (Nat.beq n 122) 0 0) (cond (Nat.blt n 124) (cond (Nat.beq n 123) 0 0) (cond (Nat.beq n 124) 0 0))) (cond (Nat.blt n 127) (cond (Nat.blt n 126) (cond (Nat.beq n 125) 0 0) (cond (Nat.beq n 126) 0 0)) (cond (Nat.blt n 128) (cond (Nat.beq n 127) 0 0) (cond (Nat.beq n 128) 0 0)))) (cond (Nat.blt n 133) (cond (Nat.blt n 131) (cond (Nat.blt n 130) (cond (Nat.beq n 129) 0 0) (cond (Nat.beq n 130) 0 0)) (cond (Nat.blt n 132) (cond (Nat.beq n 131) 0 0) (cond (Nat.beq n 132) 0 0))) (cond (Nat.blt n 135) (cond (Nat.blt n 134) (cond (Nat.beq n 133) 0 0) (cond (Nat.beq n 134) 0 0)) (cond (Nat.blt n 136) (cond (Nat.beq n 135) 5 0) (cond (Nat.beq n 136) 0 0)))))
def zpn_137_15 : Nat → Nat := fun n => (cond (Nat.blt n 144) (cond (Nat.blt n 140) (cond (Nat.blt n 138) (cond (Nat.beq n 137) 0 0) (cond (Nat.blt n 139) (cond (Nat.beq n 138) 0 0) (cond (Nat.beq n 139) 0 0))) (cond (Nat.blt n 142) (cond (Nat.blt n 141) (cond (Nat.beq n 140) 0 0) (cond (Nat.beq n 141) 0 0)) (cond (Nat.blt n 143) (cond (Nat.beq n 142) 0 0) (cond (Nat.beq n 143) 0 0)))) (cond (Nat.blt n 148) (cond (Nat.blt n 146) (cond (Nat.blt n 145) (cond (Nat.beq n 144) 0 0) (cond (Nat.beq n 145) 0 0)) (cond (Nat.blt n 147) (cond (Nat.beq n 146) 0 0) (cond (Nat.beq n 147) 0 0))) (cond (Nat.blt n 150) (cond (Nat.blt n 149) (cond (Nat.beq n 148) 0 0) (cond (Nat.beq n 149) 6 0)) (cond (Nat.blt n 151) (cond (Nat.beq n 150) 0 0) (cond (Nat.beq n 151) 0 0)))))
def zpn_122_30 : Nat → Nat := fun n => (cond (Nat.blt n 137) (zpn_122_15 n) (zpn_137_15 n))
def zpn_152_15 : Nat → Nat := fun n => (cond (Nat.blt n 159) (cond (Nat.blt n 155) (cond (Nat.blt n 153) (cond (Nat.beq n 152) 0 0) (cond (Nat.blt n 154) (cond (Nat.beq n 153) 0 0) (cond (Nat.beq n 154) 0 0))) (cond (Nat.blt n 157) (cond (Nat.blt n 156) (cond (Nat.beq n 155) 0 0) (cond (Nat.beq n 156) 3 0)) (cond (Nat.blt n 158) (cond (Nat.beq n 157) 0 0) (cond (Nat.beq n 158) 6 0)))) (cond (Nat.blt n 163) (cond (Nat.blt n 161) (cond (Nat.blt n 160) (cond (Nat.beq n 159) 0 0) (cond (Nat.beq n 160) 0 0)) (cond (Nat.blt n 162) (cond (Nat.beq n 161) 0 0) (cond (Nat.beq n 162) 0 0))) (cond (Nat.blt n 165) (cond (Nat.blt n 164) (cond (Nat.beq n 163) 0 0) (cond (Nat.beq n 164) 0 0)) (cond (Nat.blt n 166) (cond (Nat.beq n 165) 0 0) (cond (Nat.beq n 166) 0 0)))))
def zpn_167_16 : Nat → Nat := fun n => (cond (Nat.blt n 175) (cond (Nat.blt n 171) (cond (Nat.blt n 169) (cond (Nat.blt n 168) (cond (Nat.beq n 167) 0 0) (cond (Nat.beq n 168) 0 0)) (cond (Nat.blt n 170) (cond (Nat.beq n 169) 0 0) (cond (Nat.beq n 170) 0 0))) (cond (Nat.blt n 173) (cond (Nat.blt n 172) (cond (Nat.beq n 171) 0 0) (cond (Nat.beq n 172) 0 0)) (cond (Nat.blt n 174) (cond (Nat.beq n 173) 0 0) (cond (Nat.beq n 174) 0 0)))) (cond (Nat.blt n 179) (cond (Nat.blt n 177) (cond (Nat.blt n 176) (cond (Nat.beq n 175) 0 0) (cond (Nat.beq n 176) 0 0)) (cond (Nat.blt n 178) (cond (Nat.beq n 177) 0 0) (cond (Nat.beq n 178) 0 0))) (cond (Nat.blt n 181) (cond (Nat.blt n 180) (cond (Nat.beq n 179) 0 0) (cond (Nat.beq n 180) 0 0)) (cond (Nat.blt n 182) (cond (Nat.beq n 181) 2 0) (cond (Nat.beq n 182) 0 0)))))
def zpn_152_31 : Nat → Nat := fun n => (cond (Nat.blt n 167) (zpn_152_15 n) (zpn_167_16 n))
def zpn_122_61 : Nat → Nat := fun n => (cond (Nat.blt n 152) (zpn_122_30 n) (zpn_152_31 n))
def zpn_183_15 : Nat → Nat := fun n => (cond (Nat.blt n 190) (cond (Nat.blt n 186) (cond (Nat.blt n 184) (cond (Nat.beq n 183) 0 0) (cond (Nat.blt n 185) (cond (Nat.beq n 184) 0 0) (cond (Nat.beq n 185) 0 0))) (cond (Nat.blt n 188) (cond (Nat.blt n 187) (cond (Nat.beq n 186) 0 0) (cond (Nat.beq n 187) 0 0)) (cond (Nat.blt n 189) (cond (Nat.beq n 188) 0 0) (cond (Nat.beq n 189) 0 0)))) (cond (Nat.blt n 194) (cond (Nat.blt n 192) (cond (Nat.blt n 191) (cond (Nat.beq n 190) 0 0) (cond (Nat.beq n 191) 0 0)) (cond (Nat.blt n 193) (cond (Nat.beq n 192) 0 0) (cond (Nat.beq n 193) 0 0))) (cond (Nat.blt n 196) (cond (Nat.blt n 195) (cond (Nat.beq n 194) 0 0) (cond (Nat.beq n 195) 0 0)) (cond (Nat.blt n 197) (cond (Nat.beq n 196) 0 0) (cond (Nat.beq n 197) 0 0)))))
def zpn_198_15 : Nat → Nat := fun n => (cond (Nat.blt n 205) (cond (Nat.blt n 201) (cond (Nat.blt n 199) (cond (Nat.beq n 198) 0 0) (cond (Nat.blt n 200) (cond (Nat.beq n 199) 0 0) (cond (Nat.beq n 200) 0 0))) (cond (Nat.blt n 203) (cond (Nat.blt n 202) (cond (Nat.beq n 201) 0 0) (cond (Nat.beq n 202) 0 0)) (cond (Nat.blt n 204) (cond (Nat.beq n 203) 0 0) (cond (Nat.beq n 204) 0 0)))) (cond (Nat.blt n 209) (cond (Nat.blt n 207) (cond (Nat.blt n 206) (cond (Nat.beq n 205) 0 0) (cond (Nat.beq n 206) 0 0)) (cond (Nat.blt n 208) (cond (Nat.beq n 207) 0 0) (cond (Nat.beq n 208) 0 0))) (cond (Nat.blt n 211) (cond (Nat.blt n 210) (cond (Nat.beq n 209) 0 0) (cond (Nat.beq n 210) 0 0)) (cond (Nat.blt n 212) (cond (Nat.beq n 211) 0 0) (cond (Nat.beq n 212) 0 0)))))
def zpn_183_30 : Nat → Nat := fun n => (cond (Nat.blt n 198) (zpn_183_15 n) (zpn_198_15 n))
def zpn_213_15 : Nat → Nat := fun n => (cond (Nat.blt n 220) (cond (Nat.blt n 216) (cond (Nat.blt n 214) (cond (Nat.beq n 213) 0 0) (cond (Nat.blt n 215) (cond (Nat.beq n 214) 0 0) (cond (Nat.beq n 215) 0 0))) (cond (Nat.blt n 218) (cond (Nat.blt n 217) (cond (Nat.beq n 216) 0 0) (cond (Nat.beq n 217) 0 0)) (cond (Nat.blt n 219) (cond (Nat.beq n 218) 0 0) (cond (Nat.beq n 219) 0 0)))) (cond (Nat.blt n 224) (cond (Nat.blt n 222) (cond (Nat.blt n 221) (cond (Nat.beq n 220) 0 0) (cond (Nat.beq n 221) 0 0)) (cond (Nat.blt n 223) (cond (Nat.beq n 222) 0 0) (cond (Nat.beq n 223) 0 0))) (cond (Nat.blt n 226) (cond (Nat.blt n 225) (cond (Nat.beq n 224) 0 0) (cond (Nat.beq n 225) 0 0)) (cond (Nat.blt n 227) (cond (Nat.beq n 226) 0 0) (cond (Nat.beq n 227) 0 0)))))
def zpn_228_16 : Nat → Nat := fun n => (cond (Nat.blt n 236) (cond (Nat.blt n 232) (cond (Nat.blt n 230) (cond (Nat.blt n 229) (cond (Nat.beq n 228) 0 0) (cond (Nat.beq n 229) 0 0)) (cond (Nat.blt n 231) (cond (Nat.beq n 230) 0 0) (cond (Nat.beq n 231) 0 0))) (cond (Nat.blt n 234) (cond (Nat.blt n 233) (cond (Nat.beq n 232) 0 0) (cond (Nat.beq n 233) 0 0)) (cond (Nat.blt n 235) (cond (Nat.beq n 234) 3 0) (cond (Nat.beq n 235) 5 0)))) (cond (Nat.blt n 240) (cond (Nat.blt n 238) (cond (Nat.blt n 237) (cond (Nat.beq n 236) 0 0) (cond (Nat.beq n 237) 0 0)) (cond (Nat.blt n 239) (cond (Nat.beq n 238) 0 0) (cond (Nat.beq n 239) 0 0))) (cond (Nat.blt n 242) (cond (Nat.blt n 241) (cond (Nat.beq n 240) 0 0) (cond (Nat.beq n 241) 3 0)) (cond (Nat.blt n 243) (cond (Nat.beq n 242) 0 0) (cond (Nat.beq n 243) 0 0)))))
def zpn_213_31 : Nat → Nat := fun n => (cond (Nat.blt n 228) (zpn_213_15 n) (zpn_228_16 n))
def zpn_183_61 : Nat → Nat := fun n => (cond (Nat.blt n 213) (zpn_183_30 n) (zpn_213_31 n))
def zpn_122_122 : Nat → Nat := fun n => (cond (Nat.blt n 183) (zpn_122_61 n) (zpn_183_61 n))
def zpn : Nat → Nat := fun n => (cond (Nat.blt n 122) (zpn_0_122 n) (zpn_122_122 n))
def zhl_0_15 : Nat → Bool := fun n => (cond (Nat.blt n 7) (cond (Nat.blt n 3) (cond (Nat.blt n 1) (cond (Nat.beq n 0) false false) (cond (Nat.blt n 2) (cond (Nat.beq n 1) false false) (cond (Nat.beq n 2) false false))) (cond (Nat.blt n 5) (cond (Nat.blt n 4) (cond (Nat.beq n 3) false false) (cond (Nat.beq n 4) false false)) (cond (Nat.blt n 6) (cond (Nat.beq n 5) false false) (cond (Nat.beq n 6) false false)))) (cond (Nat.blt n 11) (cond (Nat.blt n 9) (cond (Nat.blt n 8) (cond (Nat.beq n 7) false false) (cond (Nat.beq n 8) false false)) (cond (Nat.blt n 10) (cond (Nat.beq n 9) false false) (cond (Nat.beq n 10) false false))) (cond (Nat.blt n 13) (cond (Nat.blt n 12) (cond (Nat.beq n 11) false false) (cond (Nat.beq n 12) false false)) (cond (Nat.blt n 14) (cond (Nat.beq n 13) false false) (cond (Nat.beq n 14) false false)))))
def zhl_15_15 : Nat → Bool := fun n => (cond (Nat.blt n 22) (cond (Nat.blt n 18) (cond (Nat.blt n 16) (cond (Nat.beq n 15) false false) (cond (Nat.blt n 17) (cond (Nat.beq n 16) false false) (cond (Nat.beq n 17) false false))) (cond (Nat.blt n 20) (cond (Nat.blt n 19) (cond (Nat.beq n 18) false false) (cond (Nat.beq n 19) false false)) (cond (Nat.blt n 21) (cond (Nat.beq n 20) false false) (cond (Nat.beq n 21) false false)))) (cond (Nat.blt n 26) (cond (Nat.blt n 24) (cond (Nat.blt n 23) (cond (Nat.beq n 22) false false) (cond (Nat.beq n 23) false false)) (cond (Nat.blt n 25) (cond (Nat.beq n 24) false false) (cond (Nat.beq n 25) false false))) (cond (Nat.blt n 28) (cond (Nat.blt n 27) (cond (Nat.beq n 26) false false) (cond (Nat.beq n 27) false false)) (cond (Nat.blt n 29) (cond (Nat.beq n 28) false false) (cond (Nat.beq n 29) false false)))))
def zhl_0_30 : Nat → Bool := fun n => (cond (Nat.blt n 15) (zhl_0_15 n) (zhl_15_15 n))
def zhl_30_15 : Nat → Bool := fun n => (cond (Nat.blt n 37) (cond (Nat.blt n 33) (cond (Nat.blt n 31) (cond (Nat.beq n 30) false false) (cond (Nat.blt n 32) (cond (Nat.beq n 31) false false) (cond (Nat.beq n 32) false false))) (cond (Nat.blt n 35) (cond (Nat.blt n 34) (cond (Nat.beq n 33) false false) (cond (Nat.beq n 34) false false)) (cond (Nat.blt n 36) (cond (Nat.beq n 35) false false) (cond (Nat.beq n 36) false false)))) (cond (Nat.blt n 41) (cond (Nat.blt n 39) (cond (Nat.blt n 38) (cond (Nat.beq n 37) false false) (cond (Nat.beq n 38) false false)) (cond (Nat.blt n 40) (cond (Nat.beq n 39) false false) (cond (Nat.beq n 40) false false))) (cond (Nat.blt n 43) (cond (Nat.blt n 42) (cond (Nat.beq n 41) false false) (cond (Nat.beq n 42) false false)) (cond (Nat.blt n 44) (cond (Nat.beq n 43) false false) (cond (Nat.beq n 44) false false)))))
def zhl_45_16 : Nat → Bool := fun n => (cond (Nat.blt n 53) (cond (Nat.blt n 49) (cond (Nat.blt n 47) (cond (Nat.blt n 46) (cond (Nat.beq n 45) false false) (cond (Nat.beq n 46) false false)) (cond (Nat.blt n 48) (cond (Nat.beq n 47) false false) (cond (Nat.beq n 48) false false))) (cond (Nat.blt n 51) (cond (Nat.blt n 50) (cond (Nat.beq n 49) false false) (cond (Nat.beq n 50) false false)) (cond (Nat.blt n 52) (cond (Nat.beq n 51) false false) (cond (Nat.beq n 52) false false)))) (cond (Nat.blt n 57) (cond (Nat.blt n 55) (cond (Nat.blt n 54) (cond (Nat.beq n 53) false false) (cond (Nat.beq n 54) false false)) (cond (Nat.blt n 56) (cond (Nat.beq n 55) false false) (cond (Nat.beq n 56) false false))) (cond (Nat.blt n 59) (cond (Nat.blt n 58) (cond (Nat.beq n 57) false false) (cond (Nat.beq n 58) false false)) (cond (Nat.blt n 60) (cond (Nat.beq n 59) true false) (cond (Nat.beq n 60) true false)))))
def zhl_30_31 : Nat → Bool := fun n => (cond (Nat.blt n 45) (zhl_30_15 n) (zhl_45_16 n))
def zhl_0_61 : Nat → Bool := fun n => (cond (Nat.blt n 30) (zhl_0_30 n) (zhl_30_31 n))
def zhl_61_15 : Nat → Bool := fun n => (cond (Nat.blt n 68) (cond (Nat.blt n 64) (cond (Nat.blt n 62) (cond (Nat.beq n 61) false false) (cond (Nat.blt n 63) (cond (Nat.beq n 62) false false) (cond (Nat.beq n 63) false false))) (cond (Nat.blt n 66) (cond (Nat.blt n 65) (cond (Nat.beq n 64) false false) (cond (Nat.beq n 65) false false)) (cond (Nat.blt n 67) (cond (Nat.beq n 66) false false) (cond (Nat.beq n 67) false false)))) (cond (Nat.blt n 72) (cond (Nat.blt n 70) (cond (Nat.blt n 69) (cond (Nat.beq n 68) false false) (cond (Nat.beq n 69) false false)) (cond (Nat.blt n 71) (cond (Nat.beq n 70) false false) (cond (Nat.beq n 71) false false))) (cond (Nat.blt n 74) (cond (Nat.blt n 73) (cond (Nat.beq n 72) false false) (cond (Nat.beq n 73) false false)) (cond (Nat.blt n 75) (cond (Nat.beq n 74) false false) (cond (Nat.beq n 75) false false)))))
def zhl_76_15 : Nat → Bool := fun n => (cond (Nat.blt n 83) (cond (Nat.blt n 79) (cond (Nat.blt n 77) (cond (Nat.beq n 76) false false) (cond (Nat.blt n 78) (cond (Nat.beq n 77) false false) (cond (Nat.beq n 78) false false))) (cond (Nat.blt n 81) (cond (Nat.blt n 80) (cond (Nat.beq n 79) false false) (cond (Nat.beq n 80) false false)) (cond (Nat.blt n 82) (cond (Nat.beq n 81) false false) (cond (Nat.beq n 82) false false)))) (cond (Nat.blt n 87) (cond (Nat.blt n 85) (cond (Nat.blt n 84) (cond (Nat.beq n 83) false false) (cond (Nat.beq n 84) false false)) (cond (Nat.blt n 86) (cond (Nat.beq n 85) false false) (cond (Nat.beq n 86) false false))) (cond (Nat.blt n 89) (cond (Nat.blt n 88) (cond (Nat.beq n 87) false false) (cond (Nat.beq n 88) false false)) (cond (Nat.blt n 90) (cond (Nat.beq n 89) false false) (cond (Nat.beq n 90) false false)))))
def zhl_61_30 : Nat → Bool := fun n => (cond (Nat.blt n 76) (zhl_61_15 n) (zhl_76_15 n))
def zhl_91_15 : Nat → Bool := fun n => (cond (Nat.blt n 98) (cond (Nat.blt n 94) (cond (Nat.blt n 92) (cond (Nat.beq n 91) false false) (cond (Nat.blt n 93) (cond (Nat.beq n 92) false false) (cond (Nat.beq n 93) false false))) (cond (Nat.blt n 96) (cond (Nat.blt n 95) (cond (Nat.beq n 94) false false) (cond (Nat.beq n 95) false false)) (cond (Nat.blt n 97) (cond (Nat.beq n 96) false false) (cond (Nat.beq n 97) false false)))) (cond (Nat.blt n 102) (cond (Nat.blt n 100) (cond (Nat.blt n 99) (cond (Nat.beq n 98) false false) (cond (Nat.beq n 99) false false)) (cond (Nat.blt n 101) (cond (Nat.beq n 100) false false) (cond (Nat.beq n 101) false false))) (cond (Nat.blt n 104) (cond (Nat.blt n 103) (cond (Nat.beq n 102) false false) (cond (Nat.beq n 103) false false)) (cond (Nat.blt n 105) (cond (Nat.beq n 104) false false) (cond (Nat.beq n 105) false false)))))
def zhl_106_16 : Nat → Bool := fun n => (cond (Nat.blt n 114) (cond (Nat.blt n 110) (cond (Nat.blt n 108) (cond (Nat.blt n 107) (cond (Nat.beq n 106) false false) (cond (Nat.beq n 107) false false)) (cond (Nat.blt n 109) (cond (Nat.beq n 108) false false) (cond (Nat.beq n 109) false false))) (cond (Nat.blt n 112) (cond (Nat.blt n 111) (cond (Nat.beq n 110) false false) (cond (Nat.beq n 111) false false)) (cond (Nat.blt n 113) (cond (Nat.beq n 112) false false) (cond (Nat.beq n 113) false false)))) (cond (Nat.blt n 118) (cond (Nat.blt n 116) (cond (Nat.blt n 115) (cond (Nat.beq n 114) false false) (cond (Nat.beq n 115) false false)) (cond (Nat.blt n 117) (cond (Nat.beq n 116) false false) (cond (Nat.beq n 117) false false))) (cond (Nat.blt n 120) (cond (Nat.blt n 119) (cond (Nat.beq n 118) false false) (cond (Nat.beq n 119) false false)) (cond (Nat.blt n 121) (cond (Nat.beq n 120) false false) (cond (Nat.beq n 121) false false)))))
def zhl_91_31 : Nat → Bool := fun n => (cond (Nat.blt n 106) (zhl_91_15 n) (zhl_106_16 n))
def zhl_61_61 : Nat → Bool := fun n => (cond (Nat.blt n 91) (zhl_61_30 n) (zhl_91_31 n))
def zhl_0_122 : Nat → Bool := fun n => (cond (Nat.blt n 61) (zhl_0_61 n) (zhl_61_61 n))
def zhl_122_15 : Nat → Bool := fun n => (cond (Nat.blt n 129) (cond (Nat.blt n 125) (cond (Nat.blt n 123) (cond (Nat.beq n 122) false false) (cond (Nat.blt n 124) (cond (Nat.beq n 123) false false) (cond (Nat.beq n 124) false false))) (cond (Nat.blt n 127) (cond (Nat.blt n 126) (cond (Nat.beq n 125) false false) (cond (Nat.beq n 126) false false)) (cond (Nat.blt n 128) (cond (Nat.beq n 127) false false) (cond (Nat.beq n 128) false false)))) (cond (Nat.blt n 133) (cond (Nat.blt n 131) (cond (Nat.blt n 130) (cond (Nat.beq n 129) false false) (cond (Nat.beq n 130) false false)) (cond (Nat.blt n 132) (cond (Nat.beq n 131) false false) (cond (Nat.beq n 132) false false))) (cond (Nat.blt n 135) (cond (Nat.blt n 134) (cond (Nat.beq n 133) false false) (cond (Nat.beq n 134) false false)) (cond (Nat.blt n 136) (cond (Nat.beq n 135) true false) (cond (Nat.beq n 136) false false)))))
def zhl_137_15 : Nat → Bool := fun n => (cond (Nat.blt n 144) (cond (Nat.blt n 140) (cond (Nat.blt n 138) (cond (Nat.beq n 137) false false) (cond (Nat.blt n 139) (cond (Nat.beq n 138) false false) (cond (Nat.beq n 139) false false))) (cond (Nat.blt n 142) (cond (Nat.blt n 141) (cond (Nat.beq n 140) false false) (cond (Nat.beq n 141) false false)) (cond (Nat.blt n 143) (cond (Nat.beq n 142) false false) (cond (Nat.beq n 143) false false)))) (cond (Nat.blt n 148) (cond (Nat.blt n 146) (cond (Nat.blt n 145) (cond (Nat.beq n 144) false false) (cond (Nat.beq n 145) false false)) (cond (Nat.blt n 147) (cond (Nat.beq n 146) false false) (cond (Nat.beq n 147) false false))) (cond (Nat.blt n 150) (cond (Nat.blt n 149) (cond (Nat.beq n 148) false false) (cond (Nat.beq n 149) true false)) (cond (Nat.blt n 151) (cond (Nat.beq n 150) false false) (cond (Nat.beq n 151) false false)))))
def zhl_122_30 : Nat → Bool := fun n => (cond (Nat.blt n 137) (zhl_122_15 n) (zhl_137_15 n))
def zhl_152_15 : Nat → Bool := fun n => (cond (Nat.blt n 159) (cond (Nat.blt n 155) (cond (Nat.blt n 153) (cond (Nat.beq n 152) false false) (cond (Nat.blt n 154) (cond (Nat.beq n 153) false false) (cond (Nat.beq n 154) false false))) (cond (Nat.blt n 157) (cond (Nat.blt n 156) (cond (Nat.beq n 155) false false) (cond (Nat.beq n 156) true false)) (cond (Nat.blt n 158) (cond (Nat.beq n 157) false false) (cond (Nat.beq n 158) true false)))) (cond (Nat.blt n 163) (cond (Nat.blt n 161) (cond (Nat.blt n 160) (cond (Nat.beq n 159) false false) (cond (Nat.beq n 160) false false)) (cond (Nat.blt n 162) (cond (Nat.beq n 161) false false) (cond (Nat.beq n 162) false false))) (cond (Nat.blt n 165) (cond (Nat.blt n 164) (cond (Nat.beq n 163) false false) (cond (Nat.beq n 164) false false)) (cond (Nat.blt n 166) (cond (Nat.beq n 165) false false) (cond (Nat.beq n 166) false false)))))
def zhl_167_16 : Nat → Bool := fun n => (cond (Nat.blt n 175) (cond (Nat.blt n 171) (cond (Nat.blt n 169) (cond (Nat.blt n 168) (cond (Nat.beq n 167) false false) (cond (Nat.beq n 168) false false)) (cond (Nat.blt n 170) (cond (Nat.beq n 169) false false) (cond (Nat.beq n 170) false false))) (cond (Nat.blt n 173) (cond (Nat.blt n 172) (cond (Nat.beq n 171) false false) (cond (Nat.beq n 172) false false)) (cond (Nat.blt n 174) (cond (Nat.beq n 173) false false) (cond (Nat.beq n 174) false false)))) (cond (Nat.blt n 179) (cond (Nat.blt n 177) (cond (Nat.blt n 176) (cond (Nat.beq n 175) false false) (cond (Nat.beq n 176) false false)) (cond (Nat.blt n 178) (cond (Nat.beq n 177) false false) (cond (Nat.beq n 178) false false))) (cond (Nat.blt n 181) (cond (Nat.blt n 180) (cond (Nat.beq n 179) false false) (cond (Nat.beq n 180) false false)) (cond (Nat.blt n 182) (cond (Nat.beq n 181) true false) (cond (Nat.beq n 182) false false)))))
def zhl_152_31 : Nat → Bool := fun n => (cond (Nat.blt n 167) (zhl_152_15 n) (zhl_167_16 n))
def zhl_122_61 : Nat → Bool := fun n => (cond (Nat.blt n 152) (zhl_122_30 n) (zhl_152_31 n))
def zhl_183_15 : Nat → Bool := fun n => (cond (Nat.blt n 190) (cond (Nat.blt n 186) (cond (Nat.blt n 184) (cond (Nat.beq n 183) false false) (cond (Nat.blt n 185) (cond (Nat.beq n 184) false false) (cond (Nat.beq n 185) false false))) (cond (Nat.blt n 188) (cond (Nat.blt n 187) (cond (Nat.beq n 186) false false) (cond (Nat.beq n 187) false false)) (cond (Nat.blt n 189) (cond (Nat.beq n 188) false false) (cond (Nat.beq n 189) false false)))) (cond (Nat.blt n 194) (cond (Nat.blt n 192) (cond (Nat.blt n 191) (cond (Nat.beq n 190) false false) (cond (Nat.beq n 191) false false)) (cond (Nat.blt n 193) (cond (Nat.beq n 192) false false) (cond (Nat.beq n 193) false false))) (cond (Nat.blt n 196) (cond (Nat.blt n 195) (cond (Nat.beq n 194) false false) (cond (Nat.beq n 195) false false)) (cond (Nat.blt n 197) (cond (Nat.beq n 196) false false) (cond (Nat.beq n 197) false false)))))
def zhl_198_15 : Nat → Bool := fun n => (cond (Nat.blt n 205) (cond (Nat.blt n 201) (cond (Nat.blt n 199) (cond (Nat.beq n 198) false false) (cond (Nat.blt n 200) (cond (Nat.beq n 199) false false) (cond (Nat.beq n 200) false false))) (cond (Nat.blt n 203) (cond (Nat.blt n 202) (cond (Nat.beq n 201) false false) (cond (Nat.beq n 202) false false)) (cond (Nat.blt n 204) (cond (Nat.beq n 203) false false) (cond (Nat.beq n 204) false false)))) (cond (Nat.blt n 209) (cond (Nat.blt n 207) (cond (Nat.blt n 206) (cond (Nat.beq n 205) false false) (cond (Nat.beq n 206) false false)) (cond (Nat.blt n 208) (cond (Nat.beq n 207) false false) (cond (Nat.beq n 208) false false))) (cond (Nat.blt n 211) (cond (Nat.blt n 210) (cond (Nat.beq n 209) false false) (cond (Nat.beq n 210) false false)) (cond (Nat.blt n 212) (cond (Nat.beq n 211) false false) (cond (Nat.beq n 212) false false)))))
def zhl_183_30 : Nat → Bool := fun n => (cond (Nat.blt n 198) (zhl_183_15 n) (zhl_198_15 n))
def zhl_213_15 : Nat → Bool := fun n => (cond (Nat.blt n 220) (cond (Nat.blt n 216) (cond (Nat.blt n 214) (cond (Nat.beq n 213) false false) (cond (Nat.blt n 215) (cond (Nat.beq n 214) false false) (cond (Nat.beq n 215) false false))) (cond (Nat.blt n 218) (cond (Nat.blt n 217) (cond (Nat.beq n 216) false false) (cond (Nat.beq n 217) false false)) (cond (Nat.blt n 219) (cond (Nat.beq n 218) false false) (cond (Nat.beq n 219) false false)))) (cond (Nat.blt n 224) (cond (Nat.blt n 222) (cond (Nat.blt n 221) (cond (Nat.beq n 220) false false) (cond (Nat.beq n 221) false false)) (cond (Nat.blt n 223) (cond (Nat.beq n 222) false false) (cond (Nat.beq n 223) false false))) (cond (Nat.blt n 226) (cond (Nat.blt n 225) (cond (Nat.beq n 224) false false) (cond (Nat.beq n 225) false false)) (cond (Nat.blt n 227) (cond (Nat.beq n 226) false false) (cond (Nat.beq n 227) false false)))))
def zhl_228_16 : Nat → Bool := fun n => (cond (Nat.blt n 236) (cond (Nat.blt n 232) (cond (Nat.blt n 230) (cond (Nat.blt n 229) (cond (Nat.beq n 228) false false) (cond (Nat.beq n 229) false false)) (cond (Nat.blt n 231) (cond (Nat.beq n 230) false false) (cond (Nat.beq n 231) false false))) (cond (Nat.blt n 234) (cond (Nat.blt n 233) (cond (Nat.beq n 232) false false) (cond (Nat.beq n 233) false false)) (cond (Nat.blt n 235) (cond (Nat.beq n 234) true false) (cond (Nat.beq n 235) true false)))) (cond (Nat.blt n 240) (cond (Nat.blt n 238) (cond (Nat.blt n 237) (cond (Nat.beq n 236) false false) (cond (Nat.beq n 237) false false)) (cond (Nat.blt n 239) (cond (Nat.beq n 238) false false) (cond (Nat.beq n 239) false false))) (cond (Nat.blt n 242) (cond (Nat.blt n 241) (cond (Nat.beq n 240) false false) (cond (Nat.beq n 241) true false)) (cond (Nat.blt n 243) (cond (Nat.beq n 242) false false) (cond (Nat.beq n 243) false false)))))
def zhl_213_31 : Nat → Bool := fun n => (cond (Nat.blt n 228) (zhl_213_15 n) (zhl_228_16 n))
def zhl_183_61 : Nat → Bool := fun n => (cond (Nat.blt n 213) (zhl_183_30 n) (zhl_213_31 n))
def zhl_122_122 : Nat → Bool := fun n => (cond (Nat.blt n 183) (zhl_122_61 n) (zhl_183_61 n))
def zhl : Nat → Bool := fun n => (cond (Nat.blt n 122) (zhl_0_122 n) (zhl_122_122 n))
def zNLs : List (Nat × Nat × Nat) := [(10, 18, 61), (10, 75, 88), (10, 86, 49), (4, 15, 140), (2, 31, 140), (7, 66, 140), (0, 109, 147), (3, 64, 140), (8, 64, 147), (5, 29, 141), (2, 58, 147), (9, 22, 140)]
def zl0_0_15 : Nat → Nat := fun n => (cond (Nat.blt n 7) (cond (Nat.blt n 3) (cond (Nat.blt n 1) (cond (Nat.beq n 0) 1 0) (cond (Nat.blt n 2) (cond (Nat.beq n 1) 7 0) (cond (Nat.beq n 2) 6 0))) (cond (Nat.blt n 5) (cond (Nat.blt n 4) (cond (Nat.beq n 3) 5 0) (cond (Nat.beq n 4) 5 0)) (cond (Nat.blt n 6) (cond (Nat.beq n 5) 2 0) (cond (Nat.beq n 6) 5 0)))) (cond (Nat.blt n 11) (cond (Nat.blt n 9) (cond (Nat.blt n 8) (cond (Nat.beq n 7) 4 0) (cond (Nat.beq n 8) 2 0)) (cond (Nat.blt n 10) (cond (Nat.beq n 9) 3 0) (cond (Nat.beq n 10) 1 0))) (cond (Nat.blt n 13) (cond (Nat.blt n 12) (cond (Nat.beq n 11) 3 0) (cond (Nat.beq n 12) 1 0)) (cond (Nat.blt n 14) (cond (Nat.beq n 13) 2 0) (cond (Nat.beq n 14) 1 0)))))
def zl0_15_15 : Nat → Nat := fun n => (cond (Nat.blt n 22) (cond (Nat.blt n 18) (cond (Nat.blt n 16) (cond (Nat.beq n 15) 4 0) (cond (Nat.blt n 17) (cond (Nat.beq n 16) 4 0) (cond (Nat.beq n 17) 1 0))) (cond (Nat.blt n 20) (cond (Nat.blt n 19) (cond (Nat.beq n 18) 2 0) (cond (Nat.beq n 19) 2 0)) (cond (Nat.blt n 21) (cond (Nat.beq n 20) 2 0) (cond (Nat.beq n 21) 4 0)))) (cond (Nat.blt n 26) (cond (Nat.blt n 24) (cond (Nat.blt n 23) (cond (Nat.beq n 22) 4 0) (cond (Nat.beq n 23) 4 0)) (cond (Nat.blt n 25) (cond (Nat.beq n 24) 1 0) (cond (Nat.beq n 25) 1 0))) (cond (Nat.blt n 28) (cond (Nat.blt n 27) (cond (Nat.beq n 26) 1 0) (cond (Nat.beq n 27) 4 0)) (cond (Nat.blt n 29) (cond (Nat.beq n 28) 3 0) (cond (Nat.beq n 29) 1 0)))))
def zl0_0_30 : Nat → Nat := fun n => (cond (Nat.blt n 15) (zl0_0_15 n) (zl0_15_15 n))
def zl0_30_15 : Nat → Nat := fun n => (cond (Nat.blt n 37) (cond (Nat.blt n 33) (cond (Nat.blt n 31) (cond (Nat.beq n 30) 2 0) (cond (Nat.blt n 32) (cond (Nat.beq n 31) 1 0) (cond (Nat.beq n 32) 1 0))) (cond (Nat.blt n 35) (cond (Nat.blt n 34) (cond (Nat.beq n 33) 1 0) (cond (Nat.beq n 34) 1 0)) (cond (Nat.blt n 36) (cond (Nat.beq n 35) 2 0) (cond (Nat.beq n 36) 4 0)))) (cond (Nat.blt n 41) (cond (Nat.blt n 39) (cond (Nat.blt n 38) (cond (Nat.beq n 37) 2 0) (cond (Nat.beq n 38) 2 0)) (cond (Nat.blt n 40) (cond (Nat.beq n 39) 3 0) (cond (Nat.beq n 40) 3 0))) (cond (Nat.blt n 43) (cond (Nat.blt n 42) (cond (Nat.beq n 41) 1 0) (cond (Nat.beq n 42) 4 0)) (cond (Nat.blt n 44) (cond (Nat.beq n 43) 4 0) (cond (Nat.beq n 44) 1 0)))))
def zl0_45_16 : Nat → Nat := fun n => (cond (Nat.blt n 53) (cond (Nat.blt n 49) (cond (Nat.blt n 47) (cond (Nat.blt n 46) (cond (Nat.beq n 45) 6 0) (cond (Nat.beq n 46) 7 0)) (cond (Nat.blt n 48) (cond (Nat.beq n 47) 7 0) (cond (Nat.beq n 48) 7 0))) (cond (Nat.blt n 51) (cond (Nat.blt n 50) (cond (Nat.beq n 49) 1 0) (cond (Nat.beq n 50) 1 0)) (cond (Nat.blt n 52) (cond (Nat.beq n 51) 1 0) (cond (Nat.beq n 52) 2 0)))) (cond (Nat.blt n 57) (cond (Nat.blt n 55) (cond (Nat.blt n 54) (cond (Nat.beq n 53) 1 0) (cond (Nat.beq n 54) 2 0)) (cond (Nat.blt n 56) (cond (Nat.beq n 55) 1 0) (cond (Nat.beq n 56) 3 0))) (cond (Nat.blt n 59) (cond (Nat.blt n 58) (cond (Nat.beq n 57) 2 0) (cond (Nat.beq n 58) 2 0)) (cond (Nat.blt n 60) (cond (Nat.beq n 59) 2 0) (cond (Nat.beq n 60) 1 0)))))
def zl0_30_31 : Nat → Nat := fun n => (cond (Nat.blt n 45) (zl0_30_15 n) (zl0_45_16 n))
def zl0_0_61 : Nat → Nat := fun n => (cond (Nat.blt n 30) (zl0_0_30 n) (zl0_30_31 n))
def zl0_61_15 : Nat → Nat := fun n => (cond (Nat.blt n 68) (cond (Nat.blt n 64) (cond (Nat.blt n 62) (cond (Nat.beq n 61) 1 0) (cond (Nat.blt n 63) (cond (Nat.beq n 62) 1 0) (cond (Nat.beq n 63) 1 0))) (cond (Nat.blt n 66) (cond (Nat.blt n 65) (cond (Nat.beq n 64) 65 0) (cond (Nat.beq n 65) 1 0)) (cond (Nat.blt n 67) (cond (Nat.beq n 66) 2 0) (cond (Nat.beq n 67) 1 0)))) (cond (Nat.blt n 72) (cond (Nat.blt n 70) (cond (Nat.blt n 69) (cond (Nat.beq n 68) 64 0) (cond (Nat.beq n 69) 1 0)) (cond (Nat.blt n 71) (cond (Nat.beq n 70) 63 0) (cond (Nat.beq n 71) 63 0))) (cond (Nat.blt n 74) (cond (Nat.blt n 73) (cond (Nat.beq n 72) 2 0) (cond (Nat.beq n 73) 3 0)) (cond (Nat.blt n 75) (cond (Nat.beq n 74) 1 0) (cond (Nat.beq n 75) 1 0)))))
def zl0_76_15 : Nat → Nat := fun n => (cond (Nat.blt n 83) (cond (Nat.blt n 79) (cond (Nat.blt n 77) (cond (Nat.beq n 76) 7 0) (cond (Nat.blt n 78) (cond (Nat.beq n 77) 7 0) (cond (Nat.beq n 78) 6 0))) (cond (Nat.blt n 81) (cond (Nat.blt n 80) (cond (Nat.beq n 79) 7 0) (cond (Nat.beq n 80) 2 0)) (cond (Nat.blt n 82) (cond (Nat.beq n 81) 2 0) (cond (Nat.beq n 82) 1 0)))) (cond (Nat.blt n 87) (cond (Nat.blt n 85) (cond (Nat.blt n 84) (cond (Nat.beq n 83) 7 0) (cond (Nat.beq n 84) 7 0)) (cond (Nat.blt n 86) (cond (Nat.beq n 85) 7 0) (cond (Nat.beq n 86) 1 0))) (cond (Nat.blt n 89) (cond (Nat.blt n 88) (cond (Nat.beq n 87) 6 0) (cond (Nat.beq n 88) 1 0)) (cond (Nat.blt n 90) (cond (Nat.beq n 89) 1 0) (cond (Nat.beq n 90) 2 0)))))
def zl0_61_30 : Nat → Nat := fun n => (cond (Nat.blt n 76) (zl0_61_15 n) (zl0_76_15 n))
def zl0_91_15 : Nat → Nat := fun n => (cond (Nat.blt n 98) (cond (Nat.blt n 94) (cond (Nat.blt n 92) (cond (Nat.beq n 91) 3 0) (cond (Nat.blt n 93) (cond (Nat.beq n 92) 2 0) (cond (Nat.beq n 93) 2 0))) (cond (Nat.blt n 96) (cond (Nat.blt n 95) (cond (Nat.beq n 94) 51 0) (cond (Nat.beq n 95) 2 0)) (cond (Nat.blt n 97) (cond (Nat.beq n 96) 1 0) (cond (Nat.beq n 97) 50 0)))) (cond (Nat.blt n 102) (cond (Nat.blt n 100) (cond (Nat.blt n 99) (cond (Nat.beq n 98) 2 0) (cond (Nat.beq n 99) 5 0)) (cond (Nat.blt n 101) (cond (Nat.beq n 100) 6 0) (cond (Nat.beq n 101) 4 0))) (cond (Nat.blt n 104) (cond (Nat.blt n 103) (cond (Nat.beq n 102) 4 0) (cond (Nat.beq n 103) 2 0)) (cond (Nat.blt n 105) (cond (Nat.beq n 104) 66 0) (cond (Nat.beq n 105) 8 0)))))
def zl0_106_16 : Nat → Nat := fun n => (cond (Nat.blt n 114) (cond (Nat.blt n 110) (cond (Nat.blt n 108) (cond (Nat.blt n 107) (cond (Nat.beq n 106) 8 0) (cond (Nat.beq n 107) 8 0)) (cond (Nat.blt n 109) (cond (Nat.beq n 108) 8 0) (cond (Nat.beq n 109) 7 0))) (cond (Nat.blt n 112) (cond (Nat.blt n 111) (cond (Nat.beq n 110) 6 0) (cond (Nat.beq n 111) 8 0)) (cond (Nat.blt n 113) (cond (Nat.beq n 112) 8 0) (cond (Nat.beq n 113) 8 0)))) (cond (Nat.blt n 118) (cond (Nat.blt n 116) (cond (Nat.blt n 115) (cond (Nat.beq n 114) 8 0) (cond (Nat.beq n 115) 8 0)) (cond (Nat.blt n 117) (cond (Nat.beq n 116) 7 0) (cond (Nat.beq n 117) 7 0))) (cond (Nat.blt n 120) (cond (Nat.blt n 119) (cond (Nat.beq n 118) 8 0) (cond (Nat.beq n 119) 8 0)) (cond (Nat.blt n 121) (cond (Nat.beq n 120) 8 0) (cond (Nat.beq n 121) 8 0)))))
def zl0_91_31 : Nat → Nat := fun n => (cond (Nat.blt n 106) (zl0_91_15 n) (zl0_106_16 n))
def zl0_61_61 : Nat → Nat := fun n => (cond (Nat.blt n 91) (zl0_61_30 n) (zl0_91_31 n))
def zl0_0_122 : Nat → Nat := fun n => (cond (Nat.blt n 61) (zl0_0_61 n) (zl0_61_61 n))
def zl0_122_15 : Nat → Nat := fun n => (cond (Nat.blt n 129) (cond (Nat.blt n 125) (cond (Nat.blt n 123) (cond (Nat.beq n 122) 7 0) (cond (Nat.blt n 124) (cond (Nat.beq n 123) 8 0) (cond (Nat.beq n 124) 5 0))) (cond (Nat.blt n 127) (cond (Nat.blt n 126) (cond (Nat.beq n 125) 3 0) (cond (Nat.beq n 126) 5 0)) (cond (Nat.blt n 128) (cond (Nat.beq n 127) 5 0) (cond (Nat.beq n 128) 5 0)))) (cond (Nat.blt n 133) (cond (Nat.blt n 131) (cond (Nat.blt n 130) (cond (Nat.beq n 129) 5 0) (cond (Nat.beq n 130) 2 0)) (cond (Nat.blt n 132) (cond (Nat.beq n 131) 52 0) (cond (Nat.beq n 132) 3 0))) (cond (Nat.blt n 135) (cond (Nat.blt n 134) (cond (Nat.beq n 133) 3 0) (cond (Nat.beq n 134) 3 0)) (cond (Nat.blt n 136) (cond (Nat.beq n 135) 3 0) (cond (Nat.beq n 136) 3 0)))))
def zl0_137_15 : Nat → Nat := fun n => (cond (Nat.blt n 144) (cond (Nat.blt n 140) (cond (Nat.blt n 138) (cond (Nat.beq n 137) 3 0) (cond (Nat.blt n 139) (cond (Nat.beq n 138) 4 0) (cond (Nat.beq n 139) 1 0))) (cond (Nat.blt n 142) (cond (Nat.blt n 141) (cond (Nat.beq n 140) 1 0) (cond (Nat.beq n 141) 2 0)) (cond (Nat.blt n 143) (cond (Nat.beq n 142) 2 0) (cond (Nat.beq n 143) 3 0)))) (cond (Nat.blt n 148) (cond (Nat.blt n 146) (cond (Nat.blt n 145) (cond (Nat.beq n 144) 2 0) (cond (Nat.beq n 145) 2 0)) (cond (Nat.blt n 147) (cond (Nat.beq n 146) 4 0) (cond (Nat.beq n 147) 1 0))) (cond (Nat.blt n 150) (cond (Nat.blt n 149) (cond (Nat.beq n 148) 5 0) (cond (Nat.beq n 149) 1 0)) (cond (Nat.blt n 151) (cond (Nat.beq n 150) 1 0) (cond (Nat.beq n 151) 1 0)))))
def zl0_122_30 : Nat → Nat := fun n => (cond (Nat.blt n 137) (zl0_122_15 n) (zl0_137_15 n))
def zl0_152_15 : Nat → Nat := fun n => (cond (Nat.blt n 159) (cond (Nat.blt n 155) (cond (Nat.blt n 153) (cond (Nat.beq n 152) 1 0) (cond (Nat.blt n 154) (cond (Nat.beq n 153) 1 0) (cond (Nat.beq n 154) 1 0))) (cond (Nat.blt n 157) (cond (Nat.blt n 156) (cond (Nat.beq n 155) 1 0) (cond (Nat.beq n 156) 2 0)) (cond (Nat.blt n 158) (cond (Nat.beq n 157) 1 0) (cond (Nat.beq n 158) 2 0)))) (cond (Nat.blt n 163) (cond (Nat.blt n 161) (cond (Nat.blt n 160) (cond (Nat.beq n 159) 1 0) (cond (Nat.beq n 160) 3 0)) (cond (Nat.blt n 162) (cond (Nat.beq n 161) 3 0) (cond (Nat.beq n 162) 3 0))) (cond (Nat.blt n 165) (cond (Nat.blt n 164) (cond (Nat.beq n 163) 2 0) (cond (Nat.beq n 164) 4 0)) (cond (Nat.blt n 166) (cond (Nat.beq n 165) 4 0) (cond (Nat.beq n 166) 2 0)))))
def zl0_167_16 : Nat → Nat := fun n => (cond (Nat.blt n 175) (cond (Nat.blt n 171) (cond (Nat.blt n 169) (cond (Nat.blt n 168) (cond (Nat.beq n 167) 1 0) (cond (Nat.beq n 168) 1 0)) (cond (Nat.blt n 170) (cond (Nat.beq n 169) 2 0) (cond (Nat.beq n 170) 62 0))) (cond (Nat.blt n 173) (cond (Nat.blt n 172) (cond (Nat.beq n 171) 62 0) (cond (Nat.beq n 172) 62 0)) (cond (Nat.blt n 174) (cond (Nat.beq n 173) 62 0) (cond (Nat.beq n 174) 62 0)))) (cond (Nat.blt n 179) (cond (Nat.blt n 177) (cond (Nat.blt n 176) (cond (Nat.beq n 175) 1 0) (cond (Nat.beq n 176) 62 0)) (cond (Nat.blt n 178) (cond (Nat.beq n 177) 63 0) (cond (Nat.beq n 178) 64 0))) (cond (Nat.blt n 181) (cond (Nat.blt n 180) (cond (Nat.beq n 179) 64 0) (cond (Nat.beq n 180) 2 0)) (cond (Nat.blt n 182) (cond (Nat.beq n 181) 2 0) (cond (Nat.beq n 182) 3 0)))))
def zl0_152_31 : Nat → Nat := fun n => (cond (Nat.blt n 167) (zl0_152_15 n) (zl0_167_16 n))
def zl0_122_61 : Nat → Nat := fun n => (cond (Nat.blt n 152) (zl0_122_30 n) (zl0_152_31 n))
def zl0_183_15 : Nat → Nat := fun n => (cond (Nat.blt n 190) (cond (Nat.blt n 186) (cond (Nat.blt n 184) (cond (Nat.beq n 183) 2 0) (cond (Nat.blt n 185) (cond (Nat.beq n 184) 2 0) (cond (Nat.beq n 185) 3 0))) (cond (Nat.blt n 188) (cond (Nat.blt n 187) (cond (Nat.beq n 186) 2 0) (cond (Nat.beq n 187) 3 0)) (cond (Nat.blt n 189) (cond (Nat.beq n 188) 4 0) (cond (Nat.beq n 189) 65 0)))) (cond (Nat.blt n 194) (cond (Nat.blt n 192) (cond (Nat.blt n 191) (cond (Nat.beq n 190) 3 0) (cond (Nat.beq n 191) 66 0)) (cond (Nat.blt n 193) (cond (Nat.beq n 192) 66 0) (cond (Nat.beq n 193) 66 0))) (cond (Nat.blt n 196) (cond (Nat.blt n 195) (cond (Nat.beq n 194) 66 0) (cond (Nat.beq n 195) 66 0)) (cond (Nat.blt n 197) (cond (Nat.beq n 196) 4 0) (cond (Nat.beq n 197) 3 0)))))
def zl0_198_15 : Nat → Nat := fun n => (cond (Nat.blt n 205) (cond (Nat.blt n 201) (cond (Nat.blt n 199) (cond (Nat.beq n 198) 66 0) (cond (Nat.blt n 200) (cond (Nat.beq n 199) 67 0) (cond (Nat.beq n 200) 67 0))) (cond (Nat.blt n 203) (cond (Nat.blt n 202) (cond (Nat.beq n 201) 66 0) (cond (Nat.beq n 202) 66 0)) (cond (Nat.blt n 204) (cond (Nat.beq n 203) 66 0) (cond (Nat.beq n 204) 4 0)))) (cond (Nat.blt n 209) (cond (Nat.blt n 207) (cond (Nat.blt n 206) (cond (Nat.beq n 205) 3 0) (cond (Nat.beq n 206) 66 0)) (cond (Nat.blt n 208) (cond (Nat.beq n 207) 67 0) (cond (Nat.beq n 208) 67 0))) (cond (Nat.blt n 211) (cond (Nat.blt n 210) (cond (Nat.beq n 209) 4 0) (cond (Nat.beq n 210) 67 0)) (cond (Nat.blt n 212) (cond (Nat.beq n 211) 67 0) (cond (Nat.beq n 212) 66 0)))))
def zl0_183_30 : Nat → Nat := fun n => (cond (Nat.blt n 198) (zl0_183_15 n) (zl0_198_15 n))
def zl0_213_15 : Nat → Nat := fun n => (cond (Nat.blt n 220) (cond (Nat.blt n 216) (cond (Nat.blt n 214) (cond (Nat.beq n 213) 66 0) (cond (Nat.blt n 215) (cond (Nat.beq n 214) 66 0) (cond (Nat.beq n 215) 3 0))) (cond (Nat.blt n 218) (cond (Nat.blt n 217) (cond (Nat.beq n 216) 2 0) (cond (Nat.beq n 217) 2 0)) (cond (Nat.blt n 219) (cond (Nat.beq n 218) 1 0) (cond (Nat.beq n 219) 2 0)))) (cond (Nat.blt n 224) (cond (Nat.blt n 222) (cond (Nat.blt n 221) (cond (Nat.beq n 220) 1 0) (cond (Nat.beq n 221) 2 0)) (cond (Nat.blt n 223) (cond (Nat.beq n 222) 1 0) (cond (Nat.beq n 223) 1 0))) (cond (Nat.blt n 226) (cond (Nat.blt n 225) (cond (Nat.beq n 224) 40 0) (cond (Nat.beq n 225) 40 0)) (cond (Nat.blt n 227) (cond (Nat.beq n 226) 40 0) (cond (Nat.beq n 227) 40 0)))))
def zl0_228_16 : Nat → Nat := fun n => (cond (Nat.blt n 236) (cond (Nat.blt n 232) (cond (Nat.blt n 230) (cond (Nat.blt n 229) (cond (Nat.beq n 228) 41 0) (cond (Nat.beq n 229) 1 0)) (cond (Nat.blt n 231) (cond (Nat.beq n 230) 2 0) (cond (Nat.beq n 231) 3 0))) (cond (Nat.blt n 234) (cond (Nat.blt n 233) (cond (Nat.beq n 232) 3 0) (cond (Nat.beq n 233) 3 0)) (cond (Nat.blt n 235) (cond (Nat.beq n 234) 1 0) (cond (Nat.beq n 235) 4 0)))) (cond (Nat.blt n 240) (cond (Nat.blt n 238) (cond (Nat.blt n 237) (cond (Nat.beq n 236) 4 0) (cond (Nat.beq n 237) 3 0)) (cond (Nat.blt n 239) (cond (Nat.beq n 238) 3 0) (cond (Nat.beq n 239) 1 0))) (cond (Nat.blt n 242) (cond (Nat.blt n 241) (cond (Nat.beq n 240) 1 0) (cond (Nat.beq n 241) 1 0)) (cond (Nat.blt n 243) (cond (Nat.beq n 242) 1 0) (cond (Nat.beq n 243) 200 0)))))
def zl0_213_31 : Nat → Nat := fun n => (cond (Nat.blt n 228) (zl0_213_15 n) (zl0_228_16 n))
def zl0_183_61 : Nat → Nat := fun n => (cond (Nat.blt n 213) (zl0_183_30 n) (zl0_213_31 n))
def zl0_122_122 : Nat → Nat := fun n => (cond (Nat.blt n 183) (zl0_122_61 n) (zl0_183_61 n))
def zl0 : Nat → Nat := fun n => (cond (Nat.blt n 122) (zl0_0_122 n) (zl0_122_122 n))
def zag (a : List Value) (k : Nat) : Nat := match a[k]? with | some (.int x) => x.toNatClampNeg | _ => 0
/-- how many calls may stand above a method, from these arguments on -/
def zsp (M : Nat) : Bool := (cond (Nat.blt M 173) (cond (Nat.blt M 170) (cond (Nat.blt M 71) (cond (Nat.beq M 70) true false) (cond (Nat.blt M 97) (cond (Nat.beq M 71) true false) (cond (Nat.beq M 97) true false))) (cond (Nat.blt M 171) (cond (Nat.beq M 170) true false) (cond (Nat.blt M 172) (cond (Nat.beq M 171) true false) (cond (Nat.beq M 172) true false)))) (cond (Nat.blt M 224) (cond (Nat.blt M 174) (cond (Nat.beq M 173) true false) (cond (Nat.blt M 176) (cond (Nat.beq M 174) true false) (cond (Nat.beq M 176) true false))) (cond (Nat.blt M 226) (cond (Nat.blt M 225) (cond (Nat.beq M 224) true false) (cond (Nat.beq M 225) true false)) (cond (Nat.blt M 227) (cond (Nat.beq M 226) true false) (cond (Nat.beq M 227) true false)))))
def zlvs (M : Nat) (a : List Value) (S : (Nat → Nat → Int32) × (Nat → Nat → Int64)) : Nat := (cond (Nat.blt M 173) (cond (Nat.blt M 170) (cond (Nat.blt M 71) (cond (Nat.beq M 70) (8 + (6 - (zag a 2)) * 8 + (6 - (zag a 1))) 0) (cond (Nat.blt M 97) (cond (Nat.beq M 71) (8 + (6 - (zag a 1)) * 8) 0) (cond (Nat.beq M 97) (8 + (42 - (zag a 4))) 0))) (cond (Nat.blt M 171) (cond (Nat.beq M 170) (8 + (6 - (S.1 51 16).toNatClampNeg) * 8 + 6) 0) (cond (Nat.blt M 172) (cond (Nat.beq M 171) (8 + (6 - (S.1 51 16).toNatClampNeg) * 8 + 5) 0) (cond (Nat.beq M 172) (8 + (6 - (S.1 51 16).toNatClampNeg) * 8 + 4) 0)))) (cond (Nat.blt M 224) (cond (Nat.blt M 174) (cond (Nat.beq M 173) (8 + (6 - (S.1 51 16).toNatClampNeg) * 8 + 3) 0) (cond (Nat.blt M 176) (cond (Nat.beq M 174) (8 + (6 - (S.1 51 16).toNatClampNeg) * 8 + 2) 0) (cond (Nat.beq M 176) (8 + (6 - (S.1 51 16).toNatClampNeg) * 8 + 1) 0))) (cond (Nat.blt M 226) (cond (Nat.blt M 225) (cond (Nat.beq M 224) (8 + (zag a 1)) 0) (cond (Nat.beq M 225) (24 + (zag a 1)) 0)) (cond (Nat.blt M 227) (cond (Nat.beq M 226) (16 + (zag a 1)) 0) (cond (Nat.beq M 227) (32 + (zag a 1)) 0)))))
def zlv (M : Nat) (a : List Value) (S : (Nat → Nat → Int32) × (Nat → Nat → Int64)) : Nat := cond (zsp M) (zlvs M a S) (zl0 M)
def zlc : Nat → Int64 := fun k => match k with
  | 0 => (-9223372036854775808 : Int64)
  | 1 => (-1 : Int64)
  | 2 => (2 : Int64)
  | 3 => (4 : Int64)
  | 4 => (5 : Int64)
  | 5 => (7 : Int64)
  | 6 => (8 : Int64)
  | 7 => (9 : Int64)
  | 8 => (10 : Int64)
  | 9 => (12 : Int64)
  | 10 => (15 : Int64)
  | 11 => (50 : Int64)
  | 12 => (99 : Int64)
  | 13 => (255 : Int64)
  | 14 => (999 : Int64)
  | 15 => (9999 : Int64)
  | _ => (4294967295 : Int64)
