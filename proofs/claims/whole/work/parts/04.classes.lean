/-! class tables and word lists, printed by wip/whole/gen04.py out of the Statement -/
def px_cn (k : Nat) : String := (cond (Nat.ble k 10) (cond (Nat.ble k 4) (cond (Nat.ble k 1) (cond (Nat.ble k 0) "AtTheDoor$Caller" "AtTheDoor$Child") (cond (Nat.ble k 2) "AtTheDoor$Parcel" (cond (Nat.ble k 3) "AtTheDoor$Post" "AtTheDoor$Pressing"))) (cond (Nat.ble k 7) (cond (Nat.ble k 5) "AtTheDoor$Quiet" (cond (Nat.ble k 6) "AtTheDoor$Reader" "AtTheDoor$Scene")) (cond (Nat.ble k 8) "AtTheDoor$Sheet" (cond (Nat.ble k 9) "AtTheDoor$Tape" "AtTheDoor$Text")))) (cond (Nat.ble k 15) (cond (Nat.ble k 12) (cond (Nat.ble k 11) "AtTheDoor" "AtTheDoorModel") (cond (Nat.ble k 13) "AtTheDoorLaw" (cond (Nat.ble k 14) "java/lang/String" "java/lang/StringLatin1"))) (cond (Nat.ble k 18) (cond (Nat.ble k 16) "java/lang/StringUTF16" (cond (Nat.ble k 17) "jdk/internal/util/Preconditions" "java/util/Arrays")) (cond (Nat.ble k 19) "java/lang/Math" (cond (Nat.ble k 20) "java/lang/Object" "java/lang/System")))))
def px_F0 : u_T := fun k => match k with
  | 0 => ("AtTheDoor$Caller", "kind", "I", true)
  | _ => ("AtTheDoor$Caller", "number", "I", false)
def px_y0 : Nat → FieldType := fun k => match k with
  | 0 => .int
  | _ => .int
def px_F1 : u_T := fun k => match k with
  | 0 => ("AtTheDoor$Caller", "kind", "I", true)
  | _ => ("AtTheDoor$Caller", "number", "I", false)
def px_y1 : Nat → FieldType := fun k => match k with
  | 0 => .int
  | _ => .int
def px_F2 : u_T := fun k => match k with
  | 0 => ("AtTheDoor$Caller", "kind", "I", true)
  | _ => ("AtTheDoor$Caller", "number", "I", false)
def px_y2 : Nat → FieldType := fun k => match k with
  | 0 => .int
  | _ => .int
def px_F3 : u_T := fun k => match k with
  | 0 => ("AtTheDoor$Caller", "kind", "I", true)
  | _ => ("AtTheDoor$Caller", "number", "I", false)
def px_y3 : Nat → FieldType := fun k => match k with
  | 0 => .int
  | _ => .int
def px_F4 : u_T := fun k => match k with
  | 0 => ("AtTheDoor$Caller", "kind", "I", true)
  | _ => ("AtTheDoor$Caller", "number", "I", false)
def px_y4 : Nat → FieldType := fun k => match k with
  | 0 => .int
  | _ => .int
def px_F5 : u_T := fun k => match k with
  | 0 => ("AtTheDoor$Caller", "kind", "I", true)
  | _ => ("AtTheDoor$Caller", "number", "I", false)
def px_y5 : Nat → FieldType := fun k => match k with
  | 0 => .int
  | _ => .int
def px_F6 : u_T := fun k => match k with
  | 0 => ("AtTheDoor$Reader", "tape", "LAtTheDoor$Tape;", true)
  | 1 => ("AtTheDoor$Reader", "fault", "I", false)
  | 2 => ("AtTheDoor$Reader", "at", "I", false)
  | 3 => ("AtTheDoor$Reader", "steps", "[I", true)
  | _ => ("AtTheDoor$Reader", "stepCount", "I", false)
def px_y6 : Nat → FieldType := fun k => match k with
  | 0 => (.object "AtTheDoor$Tape")
  | 1 => .int
  | 2 => .int
  | 3 => (.array .int)
  | _ => .int
def px_F7 : u_T := fun k => match k with
  | 0 => ("AtTheDoor$Scene", "hour", "I", false)
  | 1 => ("AtTheDoor$Scene", "day", "I", false)
  | 2 => ("AtTheDoor$Scene", "atHome", "I", false)
  | 3 => ("AtTheDoor$Scene", "dog", "I", false)
  | 4 => ("AtTheDoor$Scene", "notice", "I", false)
  | 5 => ("AtTheDoor$Scene", "rule", "I", false)
  | 6 => ("AtTheDoor$Scene", "signs", "I", false)
  | _ => ("AtTheDoor$Scene", "heard", "[I", true)
def px_y7 : Nat → FieldType := fun k => match k with
  | 0 => .int
  | 1 => .int
  | 2 => .int
  | 3 => .int
  | 4 => .int
  | 5 => .int
  | 6 => .int
  | _ => (.array .int)
def px_F8 : u_T := fun k => match k with
  | 0 => ("AtTheDoor$Sheet", "cells", "[I", true)
  | 1 => ("AtTheDoor$Sheet", "sort", "I", false)
  | _ => ("AtTheDoor$Sheet", "size", "I", false)
def px_y8 : Nat → FieldType := fun k => match k with
  | 0 => (.array .int)
  | 1 => .int
  | _ => .int
def px_F9 : u_T := fun k => match k with
  | 0 => ("AtTheDoor$Tape", "bytes", "[I", true)
  | 1 => ("AtTheDoor$Tape", "size", "I", false)
  | 2 => ("AtTheDoor$Tape", "tokens", "[I", true)
  | 3 => ("AtTheDoor$Tape", "places", "[I", true)
  | _ => ("AtTheDoor$Tape", "tokenCount", "I", false)
def px_y9 : Nat → FieldType := fun k => match k with
  | 0 => (.array .int)
  | 1 => .int
  | 2 => (.array .int)
  | 3 => (.array .int)
  | _ => .int
def px_F10 : u_T := fun k => match k with
  | 0 => ("AtTheDoor$Text", "steps", "[I", true)
  | 1 => ("AtTheDoor$Text", "worthAt", "I", true)
  | 2 => ("AtTheDoor$Text", "costsAt", "I", true)
  | _ => ("AtTheDoor$Text", "stack", "[I", true)
def px_y10 : Nat → FieldType := fun k => match k with
  | 0 => (.array .int)
  | 1 => .int
  | 2 => .int
  | _ => (.array .int)
def px_F11 : u_T := fun k => match k with
  | 0 => ("AtTheDoor", "callers", "[LAtTheDoor$Caller;", true)
  | 1 => ("AtTheDoor", "callerCount", "I", false)
  | 2 => ("AtTheDoor", "now", "LAtTheDoor$Scene;", true)
  | 3 => ("AtTheDoor", "thought", "LAtTheDoor$Scene;", true)
  | 4 => ("AtTheDoor", "kept", "LAtTheDoor$Scene;", true)
  | 5 => ("AtTheDoor", "keptNumbers", "[I", true)
  | 6 => ("AtTheDoor", "keptCallers", "I", false)
  | 7 => ("AtTheDoor", "reader", "LAtTheDoor$Reader;", true)
  | 8 => ("AtTheDoor", "texts", "[LAtTheDoor$Text;", true)
  | 9 => ("AtTheDoor", "textCount", "I", false)
  | 10 => ("AtTheDoor", "sheets", "[LAtTheDoor$Sheet;", true)
  | 11 => ("AtTheDoor", "weights", "[J", true)
  | 12 => ("AtTheDoor", "worths", "[I", true)
  | 13 => ("AtTheDoor", "all", "J", false)
  | 14 => ("AtTheDoor", "costs", "I", false)
  | _ => ("AtTheDoor", "hourly", "[J", true)
def px_y11 : Nat → FieldType := fun k => match k with
  | 0 => (.array (.object "AtTheDoor$Caller"))
  | 1 => .int
  | 2 => (.object "AtTheDoor$Scene")
  | 3 => (.object "AtTheDoor$Scene")
  | 4 => (.object "AtTheDoor$Scene")
  | 5 => (.array .int)
  | 6 => .int
  | 7 => (.object "AtTheDoor$Reader")
  | 8 => (.array (.object "AtTheDoor$Text"))
  | 9 => .int
  | 10 => (.array (.object "AtTheDoor$Sheet"))
  | 11 => (.array .long)
  | 12 => (.array .int)
  | 13 => .long
  | 14 => .int
  | _ => (.array .long)
def px_F12 : u_T := fun k => match k with
  | 0 => ("AtTheDoorModel", "thrown", "I", false)
  | 1 => ("AtTheDoorModel", "texts", "[I", true)
  | 2 => ("AtTheDoorModel", "textSize", "[I", true)
  | 3 => ("AtTheDoorModel", "textCount", "I", false)
  | 4 => ("AtTheDoorModel", "rule", "I", false)
  | 5 => ("AtTheDoorModel", "tape", "[I", true)
  | 6 => ("AtTheDoorModel", "taped", "I", false)
  | 7 => ("AtTheDoorModel", "hour", "I", false)
  | 8 => ("AtTheDoorModel", "day", "I", false)
  | 9 => ("AtTheDoorModel", "home", "I", false)
  | 10 => ("AtTheDoorModel", "dog", "I", false)
  | 11 => ("AtTheDoorModel", "notice", "I", false)
  | 12 => ("AtTheDoorModel", "kinds", "[I", true)
  | 13 => ("AtTheDoorModel", "numbers", "[I", true)
  | 14 => ("AtTheDoorModel", "callers", "I", false)
  | 15 => ("AtTheDoorModel", "heard", "[I", true)
  | 16 => ("AtTheDoorModel", "heardCount", "I", false)
  | 17 => ("AtTheDoorModel", "ofHour", "I", false)
  | 18 => ("AtTheDoorModel", "ofDay", "I", false)
  | 19 => ("AtTheDoorModel", "ofSort", "I", false)
  | 20 => ("AtTheDoorModel", "ofHome", "I", false)
  | 21 => ("AtTheDoorModel", "ofSigns", "I", false)
  | 22 => ("AtTheDoorModel", "ofWho", "I", false)
  | 23 => ("AtTheDoorModel", "from", "I", false)
  | 24 => ("AtTheDoorModel", "size", "I", false)
  | 25 => ("AtTheDoorModel", "here", "I", false)
  | 26 => ("AtTheDoorModel", "token", "I", false)
  | 27 => ("AtTheDoorModel", "tokenAt", "I", false)
  | 28 => ("AtTheDoorModel", "tokenWorth", "J", false)
  | 29 => ("AtTheDoorModel", "open", "I", false)
  | 30 => ("AtTheDoorModel", "bad", "Z", false)
  | 31 => ("AtTheDoorModel", "fault", "I", false)
  | 32 => ("AtTheDoorModel", "weights", "[J", true)
  | 33 => ("AtTheDoorModel", "worths", "[J", true)
  | 34 => ("AtTheDoorModel", "all", "J", false)
  | 35 => ("AtTheDoorModel", "hourWorth", "[J", true)
  | 36 => ("AtTheDoorModel", "heardWas", "[I", true)
  | 37 => ("AtTheDoorModel", "heardCountWas", "I", false)
  | 38 => ("AtTheDoorModel", "drawnWorth", "J", false)
  | 39 => ("AtTheDoorModel", "drawnOften", "I", false)
  | 40 => ("AtTheDoorModel", "numbersKept", "[I", true)
  | 41 => ("AtTheDoorModel", "heardKept", "[I", true)
  | 42 => ("AtTheDoorModel", "houseKept", "[I", true)
  | 43 => ("AtTheDoorModel", "callersKept", "I", false)
  | 44 => ("AtTheDoorModel", "ruleKept", "I", false)
  | 45 => ("AtTheDoorModel", "isThere", "[Z", true)
  | 46 => ("AtTheDoorModel", "sorts", "[I", true)
  | 47 => ("AtTheDoorModel", "sheetSize", "[I", true)
  | _ => ("AtTheDoorModel", "items", "[I", true)
def px_y12 : Nat → FieldType := fun k => match k with
  | 0 => .int
  | 1 => (.array .int)
  | 2 => (.array .int)
  | 3 => .int
  | 4 => .int
  | 5 => (.array .int)
  | 6 => .int
  | 7 => .int
  | 8 => .int
  | 9 => .int
  | 10 => .int
  | 11 => .int
  | 12 => (.array .int)
  | 13 => (.array .int)
  | 14 => .int
  | 15 => (.array .int)
  | 16 => .int
  | 17 => .int
  | 18 => .int
  | 19 => .int
  | 20 => .int
  | 21 => .int
  | 22 => .int
  | 23 => .int
  | 24 => .int
  | 25 => .int
  | 26 => .int
  | 27 => .int
  | 28 => .long
  | 29 => .int
  | 30 => .boolean
  | 31 => .int
  | 32 => (.array .long)
  | 33 => (.array .long)
  | 34 => .long
  | 35 => (.array .long)
  | 36 => (.array .int)
  | 37 => .int
  | 38 => .long
  | 39 => .int
  | 40 => (.array .int)
  | 41 => (.array .int)
  | 42 => (.array .int)
  | 43 => .int
  | 44 => .int
  | 45 => (.array .boolean)
  | 46 => (.array .int)
  | 47 => (.array .int)
  | _ => (.array .int)
def px_cl : List vw_C := [("AtTheDoor$Caller", px_F0, 2), ("AtTheDoor$Child", px_F1, 2), ("AtTheDoor$Parcel", px_F2, 2), ("AtTheDoor$Post", px_F3, 2), ("AtTheDoor$Pressing", px_F4, 2), ("AtTheDoor$Quiet", px_F5, 2), ("AtTheDoor$Reader", px_F6, 5), ("AtTheDoor$Scene", px_F7, 8), ("AtTheDoor$Sheet", px_F8, 3), ("AtTheDoor$Tape", px_F9, 5), ("AtTheDoor$Text", px_F10, 4), ("AtTheDoor", px_F11, 16), ("AtTheDoorModel", px_F12, 49)]
def px_ty (ci : Nat) : Nat → FieldType := (cond (Nat.ble ci 5) (cond (Nat.ble ci 2) (cond (Nat.ble ci 0) px_y0 (cond (Nat.ble ci 1) px_y1 px_y2)) (cond (Nat.ble ci 3) px_y3 (cond (Nat.ble ci 4) px_y4 px_y5))) (cond (Nat.ble ci 8) (cond (Nat.ble ci 6) px_y6 (cond (Nat.ble ci 7) px_y7 px_y8)) (cond (Nat.ble ci 10) (cond (Nat.ble ci 9) px_y9 px_y10) (cond (Nat.ble ci 11) px_y11 px_y12))))
def px_y (m : Nat) : MethodName := (cond (Nat.ble m 118) (cond (Nat.ble m 58) (cond (Nat.ble m 28) (cond (Nat.ble m 13) (cond (Nat.ble m 6) (cond (Nat.ble m 2) (cond (Nat.ble m 0) ⟨"AtTheDoorLaw", "law", "([I)Z"⟩ (cond (Nat.ble m 1) ⟨"AtTheDoor", "<init>", "()V"⟩ ⟨"AtTheDoor$Scene", "<init>", "()V"⟩)) (cond (Nat.ble m 4) (cond (Nat.ble m 3) ⟨"AtTheDoor$Reader", "<init>", "()V"⟩ ⟨"AtTheDoor$Tape", "<init>", "()V"⟩) (cond (Nat.ble m 5) ⟨"AtTheDoor$Sheet", "<init>", "()V"⟩ ⟨"java/lang/String", "length", "()I"⟩))) (cond (Nat.ble m 9) (cond (Nat.ble m 7) ⟨"java/lang/String", "coder", "()B"⟩ (cond (Nat.ble m 8) ⟨"java/lang/String", "charAt", "(I)C"⟩ ⟨"java/lang/String", "isLatin1", "()Z"⟩)) (cond (Nat.ble m 11) (cond (Nat.ble m 10) ⟨"java/lang/StringLatin1", "charAt", "([BI)C"⟩ ⟨"java/lang/String", "checkIndex", "(II)V"⟩) (cond (Nat.ble m 12) ⟨"jdk/internal/util/Preconditions", "checkIndex", "(IILjava/util/function/BiFunction;)I"⟩ ⟨"AtTheDoor$Tape", "put", "(I)V"⟩)))) (cond (Nat.ble m 20) (cond (Nat.ble m 16) (cond (Nat.ble m 14) ⟨"AtTheDoor$Reader", "read", "()LAtTheDoor$Text;"⟩ (cond (Nat.ble m 15) ⟨"AtTheDoor$Tape", "cut", "()V"⟩ ⟨"AtTheDoor$Tape", "isBlank", "(I)Z"⟩)) (cond (Nat.ble m 18) (cond (Nat.ble m 17) ⟨"AtTheDoor$Tape", "cutOne", "(II)I"⟩ ⟨"AtTheDoor$Tape", "isLetter", "(I)Z"⟩) (cond (Nat.ble m 19) ⟨"AtTheDoor$Tape", "endOfWord", "(I)I"⟩ ⟨"AtTheDoor$Tape", "wordToken", "(II)I"⟩))) (cond (Nat.ble m 24) (cond (Nat.ble m 22) (cond (Nat.ble m 21) ⟨"AtTheDoor$Tape", "isWord", "(Ljava/lang/String;II)Z"⟩ ⟨"AtTheDoor$Tape", "addToken", "(II)V"⟩) (cond (Nat.ble m 23) ⟨"AtTheDoor$Tape", "isDigit", "(I)Z"⟩ ⟨"AtTheDoor$Tape", "endOfNumber", "(I)I"⟩)) (cond (Nat.ble m 26) (cond (Nat.ble m 25) ⟨"AtTheDoor$Tape", "numberToken", "(II)I"⟩ ⟨"AtTheDoor$Tape", "markToken", "(I)I"⟩) (cond (Nat.ble m 27) ⟨"AtTheDoor$Reader", "readPart", "(I)V"⟩ ⟨"AtTheDoor$Reader", "expect", "(I)V"⟩))))) (cond (Nat.ble m 43) (cond (Nat.ble m 35) (cond (Nat.ble m 31) (cond (Nat.ble m 29) ⟨"AtTheDoor$Reader", "token", "()I"⟩ (cond (Nat.ble m 30) ⟨"AtTheDoor$Tape", "tokenAt", "(I)I"⟩ ⟨"AtTheDoor$Reader", "failHere", "()V"⟩)) (cond (Nat.ble m 33) (cond (Nat.ble m 32) ⟨"AtTheDoor$Tape", "placeAt", "(I)I"⟩ ⟨"AtTheDoor$Reader", "readLevel", "(II)V"⟩) (cond (Nat.ble m 34) ⟨"AtTheDoor$Reader", "readOne", "(I)V"⟩ ⟨"AtTheDoor$Reader", "isName", "(I)Z"⟩))) (cond (Nat.ble m 39) (cond (Nat.ble m 37) (cond (Nat.ble m 36) ⟨"AtTheDoor$Reader", "emit", "(I)V"⟩ ⟨"AtTheDoor$Reader", "readPrefixed", "(III)V"⟩) (cond (Nat.ble m 38) ⟨"AtTheDoor$Reader", "readChain", "(II)V"⟩ ⟨"AtTheDoor$Reader", "levelOf", "(I)I"⟩)) (cond (Nat.ble m 41) (cond (Nat.ble m 40) ⟨"AtTheDoor$Tape", "clear", "()V"⟩ ⟨"java/util/Arrays", "copyOf", "([II)[I"⟩) (cond (Nat.ble m 42) ⟨"AtTheDoor$Text", "<init>", "([III)V"⟩ ⟨"AtTheDoor", "set", "(III)I"⟩)))) (cond (Nat.ble m 50) (cond (Nat.ble m 46) (cond (Nat.ble m 44) ⟨"AtTheDoor", "setNumber", "(II)I"⟩ (cond (Nat.ble m 45) ⟨"AtTheDoor", "callerAt", "(I)LAtTheDoor$Caller;"⟩ ⟨"AtTheDoor", "isBelow", "(II)Z"⟩)) (cond (Nat.ble m 48) (cond (Nat.ble m 47) ⟨"AtTheDoor$Scene", "part", "(I)I"⟩ ⟨"AtTheDoor$Scene", "putPart", "(II)V"⟩) (cond (Nat.ble m 49) ⟨"AtTheDoor", "caller", "(II)I"⟩ ⟨"AtTheDoor", "callerOf", "(II)LAtTheDoor$Caller;"⟩))) (cond (Nat.ble m 54) (cond (Nat.ble m 52) (cond (Nat.ble m 51) ⟨"AtTheDoor$Post", "<init>", "(II)V"⟩ ⟨"AtTheDoor$Caller", "<init>", "(II)V"⟩) (cond (Nat.ble m 53) ⟨"AtTheDoor$Quiet", "<init>", "(II)V"⟩ ⟨"AtTheDoor$Parcel", "<init>", "(II)V"⟩)) (cond (Nat.ble m 56) (cond (Nat.ble m 55) ⟨"AtTheDoor$Child", "<init>", "(II)V"⟩ ⟨"AtTheDoor$Pressing", "<init>", "(II)V"⟩) (cond (Nat.ble m 57) ⟨"AtTheDoor", "hear", "(I)I"⟩ ⟨"AtTheDoor$Scene", "add", "(I)V"⟩)))))) (cond (Nat.ble m 88) (cond (Nat.ble m 73) (cond (Nat.ble m 65) (cond (Nat.ble m 61) (cond (Nat.ble m 59) ⟨"AtTheDoor", "hush", "()I"⟩ (cond (Nat.ble m 60) ⟨"AtTheDoor", "told", "(II)I"⟩ ⟨"AtTheDoor$Child", "waits", "(I)I"⟩)) (cond (Nat.ble m 63) (cond (Nat.ble m 62) ⟨"AtTheDoor$Parcel", "waits", "(I)I"⟩ ⟨"AtTheDoor$Post", "waits", "(I)I"⟩) (cond (Nat.ble m 64) ⟨"AtTheDoor$Pressing", "waits", "(I)I"⟩ ⟨"AtTheDoor$Quiet", "waits", "(I)I"⟩))) (cond (Nat.ble m 69) (cond (Nat.ble m 67) (cond (Nat.ble m 66) ⟨"AtTheDoor$Caller", "waits", "(I)I"⟩ ⟨"AtTheDoor", "staysIn", "(LAtTheDoor$Scene;LAtTheDoor$Caller;)Z"⟩) (cond (Nat.ble m 68) ⟨"AtTheDoor$Child", "stays", "(ZZ)Z"⟩ ⟨"AtTheDoor$Quiet", "stays", "(ZZ)Z"⟩)) (cond (Nat.ble m 71) (cond (Nat.ble m 70) ⟨"AtTheDoor$Pressing", "stays", "(ZZ)Z"⟩ ⟨"AtTheDoor$Caller", "stays", "(ZZ)Z"⟩) (cond (Nat.ble m 72) ⟨"AtTheDoor", "soundsOf", "(LAtTheDoor$Caller;II)I"⟩ ⟨"AtTheDoor$Child", "sounds", "(II)I"⟩)))) (cond (Nat.ble m 80) (cond (Nat.ble m 76) (cond (Nat.ble m 74) ⟨"AtTheDoor$Quiet", "sounds", "(II)I"⟩ (cond (Nat.ble m 75) ⟨"AtTheDoor$Parcel", "sounds", "(II)I"⟩ ⟨"AtTheDoor$Post", "sounds", "(II)I"⟩)) (cond (Nat.ble m 78) (cond (Nat.ble m 77) ⟨"AtTheDoor$Pressing", "sounds", "(II)I"⟩ ⟨"AtTheDoor$Caller", "sounds", "(II)I"⟩) (cond (Nat.ble m 79) ⟨"AtTheDoor", "feed", "(I)I"⟩ ⟨"AtTheDoor", "text", "()I"⟩))) (cond (Nat.ble m 84) (cond (Nat.ble m 82) (cond (Nat.ble m 81) ⟨"AtTheDoor", "force", "(I)I"⟩ ⟨"AtTheDoor", "weight", "(I)J"⟩) (cond (Nat.ble m 83) ⟨"AtTheDoor", "reckon", "(LAtTheDoor$Scene;)V"⟩ ⟨"AtTheDoor", "weightOf", "(LAtTheDoor$Scene;LAtTheDoor$Caller;I)J"⟩)) (cond (Nat.ble m 86) (cond (Nat.ble m 85) ⟨"AtTheDoor", "comesOf", "(LAtTheDoor$Scene;LAtTheDoor$Caller;I)I"⟩ ⟨"AtTheDoor", "valueOf", "(ILAtTheDoor$Scene;II)I"⟩) (cond (Nat.ble m 87) ⟨"AtTheDoor$Text", "value", "(ILAtTheDoor$Scene;II)I"⟩ ⟨"AtTheDoor$Text", "nameValue", "(ILAtTheDoor$Scene;II)I"⟩))))) (cond (Nat.ble m 103) (cond (Nat.ble m 95) (cond (Nat.ble m 91) (cond (Nat.ble m 89) ⟨"AtTheDoor$Text", "lay", "(II)V"⟩ (cond (Nat.ble m 90) ⟨"AtTheDoor$Text", "at", "(I)I"⟩ ⟨"AtTheDoor$Text", "joined", "(III)I"⟩)) (cond (Nat.ble m 93) (cond (Nat.ble m 92) ⟨"AtTheDoor", "within", "(III)I"⟩ ⟨"AtTheDoor$Scene", "signAt", "(I)I"⟩) (cond (Nat.ble m 94) ⟨"AtTheDoor", "worthOf", "(LAtTheDoor$Scene;LAtTheDoor$Caller;I)I"⟩ ⟨"AtTheDoor", "who", "()I"⟩))) (cond (Nat.ble m 99) (cond (Nat.ble m 97) (cond (Nat.ble m 96) ⟨"AtTheDoor", "heaviest", "()I"⟩ ⟨"AtTheDoor", "odds", "(II)J"⟩) (cond (Nat.ble m 98) ⟨"AtTheDoor", "lowest", "(JJI)J"⟩ ⟨"AtTheDoor", "commonDivisor", "(JJ)J"⟩)) (cond (Nat.ble m 101) (cond (Nat.ble m 100) ⟨"AtTheDoor", "gain", "(I)J"⟩ ⟨"AtTheDoor", "gainAt", "(I)J"⟩) (cond (Nat.ble m 102) ⟨"AtTheDoor", "open", "()I"⟩ ⟨"AtTheDoor", "peep", "(II)J"⟩)))) (cond (Nat.ble m 110) (cond (Nat.ble m 106) (cond (Nat.ble m 104) ⟨"AtTheDoor", "peeping", "(I)J"⟩ (cond (Nat.ble m 105) ⟨"AtTheDoor", "listening", "(I)J"⟩ ⟨"AtTheDoor", "tells", "()I"⟩)) (cond (Nat.ble m 108) (cond (Nat.ble m 107) ⟨"AtTheDoor$Scene", "become", "(LAtTheDoor$Scene;)V"⟩ ⟨"AtTheDoor", "guard", "(I)J"⟩) (cond (Nat.ble m 109) ⟨"AtTheDoor", "home", "(II)J"⟩ ⟨"AtTheDoor", "fillHourly", "()V"⟩))) (cond (Nat.ble m 114) (cond (Nat.ble m 112) (cond (Nat.ble m 111) ⟨"AtTheDoor", "hoursFrom", "(II)J"⟩ ⟨"AtTheDoor", "cards", "(I)I"⟩) (cond (Nat.ble m 113) ⟨"AtTheDoor", "sheetAt", "(I)LAtTheDoor$Sheet;"⟩ ⟨"AtTheDoor$Sheet", "isMissing", "()Z"⟩)) (cond (Nat.ble m 116) (cond (Nat.ble m 115) ⟨"AtTheDoor", "tellsCallers", "(LAtTheDoor$Sheet;)Z"⟩ ⟨"AtTheDoor$Sheet", "at", "(I)I"⟩) (cond (Nat.ble m 117) ⟨"AtTheDoor", "hourBehind", "(II)I"⟩ ⟨"AtTheDoor", "runs", "()I"⟩))))))) (cond (Nat.ble m 177) (cond (Nat.ble m 147) (cond (Nat.ble m 132) (cond (Nat.ble m 125) (cond (Nat.ble m 121) (cond (Nat.ble m 119) ⟨"AtTheDoor", "judge", "(I)I"⟩ (cond (Nat.ble m 120) ⟨"AtTheDoor", "refusalOfSigns", "(LAtTheDoor$Sheet;)I"⟩ ⟨"AtTheDoor$Scene", "becomeUnheard", "(LAtTheDoor$Scene;)V"⟩)) (cond (Nat.ble m 123) (cond (Nat.ble m 122) ⟨"AtTheDoor", "fits", "(I)I"⟩ ⟨"AtTheDoor", "laws", "(I)I"⟩) (cond (Nat.ble m 124) ⟨"AtTheDoor", "drawn", "(II)J"⟩ ⟨"AtTheDoor", "nextDraw", "(I)I"⟩))) (cond (Nat.ble m 128) (cond (Nat.ble m 126) ⟨"AtTheDoor", "drawnBy", "(I)I"⟩ (cond (Nat.ble m 127) ⟨"AtTheDoor", "often", "(IIII)J"⟩ ⟨"AtTheDoor", "image", "()I"⟩)) (cond (Nat.ble m 130) (cond (Nat.ble m 129) ⟨"AtTheDoor", "back", "()I"⟩ ⟨"AtTheDoor", "count", "(I)I"⟩) (cond (Nat.ble m 131) ⟨"AtTheDoor", "sheet", "(III)I"⟩ ⟨"AtTheDoor$Sheet", "become", "(II)V"⟩)))) (cond (Nat.ble m 139) (cond (Nat.ble m 135) (cond (Nat.ble m 133) ⟨"java/util/Arrays", "fill", "([II)V"⟩ (cond (Nat.ble m 134) ⟨"AtTheDoor", "cell", "(III)I"⟩ ⟨"AtTheDoor$Sheet", "put", "(II)V"⟩)) (cond (Nat.ble m 137) (cond (Nat.ble m 136) ⟨"AtTheDoor", "copy", "(IIIII)I"⟩ ⟨"AtTheDoor$Sheet", "holds", "(II)Z"⟩) (cond (Nat.ble m 138) ⟨"AtTheDoor", "hears", "(IIII)I"⟩ ⟨"AtTheDoor", "taken", "(II)I"⟩))) (cond (Nat.ble m 143) (cond (Nat.ble m 141) (cond (Nat.ble m 140) ⟨"AtTheDoor", "isUnder", "(LAtTheDoor$Caller;I)Z"⟩ ⟨"AtTheDoorModel", "<init>", "()V"⟩) (cond (Nat.ble m 142) ⟨"AtTheDoorModel", "spell", "(IIIIIIIII)V"⟩ ⟨"AtTheDoorModel", "set", "(III)I"⟩)) (cond (Nat.ble m 145) (cond (Nat.ble m 144) ⟨"AtTheDoorModel", "in", "(JJJ)Z"⟩ ⟨"AtTheDoorModel", "isOne", "(I)Z"⟩) (cond (Nat.ble m 146) ⟨"AtTheDoorModel", "caller", "(II)I"⟩ ⟨"AtTheDoorModel", "hear", "(I)I"⟩))))) (cond (Nat.ble m 162) (cond (Nat.ble m 154) (cond (Nat.ble m 150) (cond (Nat.ble m 148) ⟨"AtTheDoorModel", "hush", "()I"⟩ (cond (Nat.ble m 149) ⟨"AtTheDoorModel", "told", "(II)I"⟩ ⟨"AtTheDoorModel", "sounds", "(III)I"⟩)) (cond (Nat.ble m 152) (cond (Nat.ble m 151) ⟨"AtTheDoorModel", "waits", "(I)I"⟩ ⟨"AtTheDoorModel", "stays", "(I)I"⟩) (cond (Nat.ble m 153) ⟨"AtTheDoorModel", "feed", "(I)I"⟩ ⟨"AtTheDoorModel", "text", "()I"⟩))) (cond (Nat.ble m 158) (cond (Nat.ble m 156) (cond (Nat.ble m 155) ⟨"AtTheDoorModel", "read", "(II)I"⟩ ⟨"AtTheDoorModel", "next", "()V"⟩) (cond (Nat.ble m 157) ⟨"AtTheDoorModel", "byteAt", "(I)I"⟩ ⟨"AtTheDoorModel", "isWord", "(IIIIIIII)Z"⟩)) (cond (Nat.ble m 160) (cond (Nat.ble m 159) ⟨"AtTheDoorModel", "isLetter", "(II)Z"⟩ ⟨"AtTheDoorModel", "part", "(Z)I"⟩) (cond (Nat.ble m 161) ⟨"AtTheDoorModel", "fail", "()V"⟩ ⟨"AtTheDoorModel", "either0", "()I"⟩)))) (cond (Nat.ble m 169) (cond (Nat.ble m 165) (cond (Nat.ble m 163) ⟨"AtTheDoorModel", "both0", "()I"⟩ (cond (Nat.ble m 164) ⟨"AtTheDoorModel", "not0", "()I"⟩ ⟨"AtTheDoorModel", "opens", "()Z"⟩)) (cond (Nat.ble m 167) (cond (Nat.ble m 166) ⟨"AtTheDoorModel", "not1", "()I"⟩ ⟨"AtTheDoorModel", "not2", "()I"⟩) (cond (Nat.ble m 168) ⟨"AtTheDoorModel", "not3", "()I"⟩ ⟨"AtTheDoorModel", "not4", "()I"⟩))) (cond (Nat.ble m 173) (cond (Nat.ble m 171) (cond (Nat.ble m 170) ⟨"AtTheDoorModel", "not5", "()I"⟩ ⟨"AtTheDoorModel", "added5", "()I"⟩) (cond (Nat.ble m 172) ⟨"AtTheDoorModel", "term5", "()I"⟩ ⟨"AtTheDoorModel", "atom5", "()I"⟩)) (cond (Nat.ble m 175) (cond (Nat.ble m 174) ⟨"AtTheDoorModel", "isSign", "(I)Z"⟩ ⟨"AtTheDoorModel", "name", "()I"⟩) (cond (Nat.ble m 176) ⟨"AtTheDoorModel", "added4", "()I"⟩ ⟨"AtTheDoorModel", "term4", "()I"⟩)))))) (cond (Nat.ble m 207) (cond (Nat.ble m 192) (cond (Nat.ble m 184) (cond (Nat.ble m 180) (cond (Nat.ble m 178) ⟨"AtTheDoorModel", "atom4", "()I"⟩ (cond (Nat.ble m 179) ⟨"AtTheDoorModel", "either5", "()I"⟩ ⟨"AtTheDoorModel", "both5", "()I"⟩)) (cond (Nat.ble m 182) (cond (Nat.ble m 181) ⟨"AtTheDoorModel", "added3", "()I"⟩ ⟨"AtTheDoorModel", "term3", "()I"⟩) (cond (Nat.ble m 183) ⟨"AtTheDoorModel", "atom3", "()I"⟩ ⟨"AtTheDoorModel", "either4", "()I"⟩))) (cond (Nat.ble m 188) (cond (Nat.ble m 186) (cond (Nat.ble m 185) ⟨"AtTheDoorModel", "both4", "()I"⟩ ⟨"AtTheDoorModel", "added2", "()I"⟩) (cond (Nat.ble m 187) ⟨"AtTheDoorModel", "term2", "()I"⟩ ⟨"AtTheDoorModel", "atom2", "()I"⟩)) (cond (Nat.ble m 190) (cond (Nat.ble m 189) ⟨"AtTheDoorModel", "either3", "()I"⟩ ⟨"AtTheDoorModel", "both3", "()I"⟩) (cond (Nat.ble m 191) ⟨"AtTheDoorModel", "added1", "()I"⟩ ⟨"AtTheDoorModel", "term1", "()I"⟩)))) (cond (Nat.ble m 199) (cond (Nat.ble m 195) (cond (Nat.ble m 193) ⟨"AtTheDoorModel", "atom1", "()I"⟩ (cond (Nat.ble m 194) ⟨"AtTheDoorModel", "either2", "()I"⟩ ⟨"AtTheDoorModel", "both2", "()I"⟩)) (cond (Nat.ble m 197) (cond (Nat.ble m 196) ⟨"AtTheDoorModel", "added0", "()I"⟩ ⟨"AtTheDoorModel", "term0", "()I"⟩) (cond (Nat.ble m 198) ⟨"AtTheDoorModel", "atom0", "()I"⟩ ⟨"AtTheDoorModel", "either1", "()I"⟩))) (cond (Nat.ble m 203) (cond (Nat.ble m 201) (cond (Nat.ble m 200) ⟨"AtTheDoorModel", "both1", "()I"⟩ ⟨"AtTheDoorModel", "force", "(I)I"⟩) (cond (Nat.ble m 202) ⟨"AtTheDoorModel", "weight", "(I)J"⟩ ⟨"AtTheDoorModel", "gathers", "()V"⟩)) (cond (Nat.ble m 205) (cond (Nat.ble m 204) ⟨"AtTheDoorModel", "says", "(III)I"⟩ ⟨"AtTheDoorModel", "within", "(III)I"⟩) (cond (Nat.ble m 206) ⟨"AtTheDoorModel", "who", "()I"⟩ ⟨"AtTheDoorModel", "likeliest", "()I"⟩))))) (cond (Nat.ble m 222) (cond (Nat.ble m 214) (cond (Nat.ble m 210) (cond (Nat.ble m 208) ⟨"AtTheDoorModel", "odds", "(II)J"⟩ (cond (Nat.ble m 209) ⟨"AtTheDoorModel", "lowest", "(JJI)J"⟩ ⟨"AtTheDoorModel", "gain", "(I)J"⟩)) (cond (Nat.ble m 212) (cond (Nat.ble m 211) ⟨"AtTheDoorModel", "gainAt", "(I)J"⟩ ⟨"AtTheDoorModel", "open", "()I"⟩) (cond (Nat.ble m 213) ⟨"AtTheDoorModel", "peep", "(II)J"⟩ ⟨"AtTheDoorModel", "tells", "()I"⟩))) (cond (Nat.ble m 218) (cond (Nat.ble m 216) (cond (Nat.ble m 215) ⟨"AtTheDoorModel", "guard", "(I)J"⟩ ⟨"AtTheDoorModel", "gainWith", "(II)J"⟩) (cond (Nat.ble m 217) ⟨"AtTheDoorModel", "home", "(II)J"⟩ ⟨"AtTheDoorModel", "cards", "(I)I"⟩)) (cond (Nat.ble m 220) (cond (Nat.ble m 219) ⟨"AtTheDoorModel", "isSheet", "(I)Z"⟩ ⟨"AtTheDoorModel", "runs", "()I"⟩) (cond (Nat.ble m 221) ⟨"AtTheDoorModel", "judge", "(I)I"⟩ ⟨"AtTheDoorModel", "signsBad", "(I)I"⟩)))) (cond (Nat.ble m 229) (cond (Nat.ble m 225) (cond (Nat.ble m 223) ⟨"AtTheDoorModel", "hearsAlone", "(II)V"⟩ (cond (Nat.ble m 224) ⟨"AtTheDoorModel", "fits", "(I)I"⟩ ⟨"AtTheDoorModel", "laws", "(I)I"⟩)) (cond (Nat.ble m 227) (cond (Nat.ble m 226) ⟨"AtTheDoorModel", "drawn", "(II)J"⟩ ⟨"AtTheDoorModel", "draws", "(III)V"⟩) (cond (Nat.ble m 228) ⟨"AtTheDoorModel", "often", "(IIII)J"⟩ ⟨"AtTheDoorModel", "image", "()I"⟩))) (cond (Nat.ble m 233) (cond (Nat.ble m 231) (cond (Nat.ble m 230) ⟨"AtTheDoorModel", "back", "()I"⟩ ⟨"AtTheDoorModel", "count", "(I)I"⟩) (cond (Nat.ble m 232) ⟨"AtTheDoorModel", "sheet", "(III)I"⟩ ⟨"AtTheDoorModel", "cell", "(III)I"⟩)) (cond (Nat.ble m 235) (cond (Nat.ble m 234) ⟨"AtTheDoorModel", "copy", "(IIIII)I"⟩ ⟨"AtTheDoorModel", "hears", "(IIII)I"⟩) (cond (Nat.ble m 236) ⟨"AtTheDoorModel", "taken", "(II)I"⟩ ⟨"AtTheDoorModel", "over", "(I)I"⟩))))))))
def px_bc (m : Nat) : ByteArray := (cond (Nat.ble m 118) (cond (Nat.ble m 58) (cond (Nat.ble m 28) (cond (Nat.ble m 13) (cond (Nat.ble m 6) (cond (Nat.ble m 2) (cond (Nat.ble m 0) code (cond (Nat.ble m 1) prog_1_method_1_code prog_9_method_1_code)) (cond (Nat.ble m 4) (cond (Nat.ble m 3) prog_8_method_1_code prog_11_method_1_code) (cond (Nat.ble m 5) prog_10_method_1_code prog_17_method_54_code))) (cond (Nat.ble m 9) (cond (Nat.ble m 7) prog_17_method_152_code (cond (Nat.ble m 8) prog_17_method_56_code prog_17_method_154_code)) (cond (Nat.ble m 11) (cond (Nat.ble m 10) prog_18_method_2_code prog_17_method_155_code) (cond (Nat.ble m 12) prog_22_method_11_code prog_11_method_2_code)))) (cond (Nat.ble m 20) (cond (Nat.ble m 16) (cond (Nat.ble m 14) prog_8_method_2_code (cond (Nat.ble m 15) prog_11_method_6_code prog_11_method_9_code)) (cond (Nat.ble m 18) (cond (Nat.ble m 17) prog_11_method_7_code prog_11_method_10_code) (cond (Nat.ble m 19) prog_11_method_12_code prog_11_method_15_code))) (cond (Nat.ble m 24) (cond (Nat.ble m 22) (cond (Nat.ble m 21) prog_11_method_16_code prog_11_method_8_code) (cond (Nat.ble m 23) prog_11_method_11_code prog_11_method_13_code)) (cond (Nat.ble m 26) (cond (Nat.ble m 25) prog_11_method_14_code prog_11_method_17_code) (cond (Nat.ble m 27) prog_8_method_3_code prog_8_method_6_code))))) (cond (Nat.ble m 43) (cond (Nat.ble m 35) (cond (Nat.ble m 31) (cond (Nat.ble m 29) prog_8_method_4_code (cond (Nat.ble m 30) prog_11_method_4_code prog_8_method_5_code)) (cond (Nat.ble m 33) (cond (Nat.ble m 32) prog_11_method_5_code prog_8_method_8_code) (cond (Nat.ble m 34) prog_8_method_12_code prog_8_method_13_code))) (cond (Nat.ble m 39) (cond (Nat.ble m 37) (cond (Nat.ble m 36) prog_8_method_7_code prog_8_method_11_code) (cond (Nat.ble m 38) prog_8_method_9_code prog_8_method_10_code)) (cond (Nat.ble m 41) (cond (Nat.ble m 40) prog_11_method_3_code prog_21_method_123_code) (cond (Nat.ble m 42) prog_12_method_1_code prog_1_method_2_code)))) (cond (Nat.ble m 50) (cond (Nat.ble m 46) (cond (Nat.ble m 44) prog_1_method_37_code (cond (Nat.ble m 45) prog_1_method_35_code prog_1_method_34_code)) (cond (Nat.ble m 48) (cond (Nat.ble m 47) prog_9_method_6_code prog_9_method_7_code) (cond (Nat.ble m 49) prog_1_method_3_code prog_1_method_38_code))) (cond (Nat.ble m 54) (cond (Nat.ble m 52) (cond (Nat.ble m 51) prog_5_method_1_code prog_2_method_1_code) (cond (Nat.ble m 53) prog_7_method_1_code prog_4_method_1_code)) (cond (Nat.ble m 56) (cond (Nat.ble m 55) prog_3_method_1_code prog_6_method_1_code) (cond (Nat.ble m 57) prog_1_method_4_code prog_9_method_4_code)))))) (cond (Nat.ble m 88) (cond (Nat.ble m 73) (cond (Nat.ble m 65) (cond (Nat.ble m 61) (cond (Nat.ble m 59) prog_1_method_5_code (cond (Nat.ble m 60) prog_1_method_6_code prog_3_method_3_code)) (cond (Nat.ble m 63) (cond (Nat.ble m 62) prog_4_method_3_code prog_5_method_3_code) (cond (Nat.ble m 64) prog_6_method_3_code prog_7_method_3_code))) (cond (Nat.ble m 69) (cond (Nat.ble m 67) (cond (Nat.ble m 66) prog_2_method_3_code prog_1_method_45_code) (cond (Nat.ble m 68) prog_3_method_4_code prog_7_method_4_code)) (cond (Nat.ble m 71) (cond (Nat.ble m 70) prog_6_method_4_code prog_2_method_4_code) (cond (Nat.ble m 72) prog_1_method_40_code prog_3_method_2_code)))) (cond (Nat.ble m 80) (cond (Nat.ble m 76) (cond (Nat.ble m 74) prog_7_method_2_code (cond (Nat.ble m 75) prog_4_method_2_code prog_5_method_2_code)) (cond (Nat.ble m 78) (cond (Nat.ble m 77) prog_6_method_2_code prog_2_method_2_code) (cond (Nat.ble m 79) prog_1_method_7_code prog_1_method_8_code))) (cond (Nat.ble m 84) (cond (Nat.ble m 82) (cond (Nat.ble m 81) prog_1_method_9_code prog_1_method_10_code) (cond (Nat.ble m 83) prog_1_method_47_code prog_1_method_46_code)) (cond (Nat.ble m 86) (cond (Nat.ble m 85) prog_1_method_43_code prog_1_method_41_code) (cond (Nat.ble m 87) prog_12_method_2_code prog_12_method_5_code))))) (cond (Nat.ble m 103) (cond (Nat.ble m 95) (cond (Nat.ble m 91) (cond (Nat.ble m 89) prog_12_method_4_code (cond (Nat.ble m 90) prog_12_method_3_code prog_12_method_6_code)) (cond (Nat.ble m 93) (cond (Nat.ble m 92) prog_1_method_42_code prog_9_method_5_code) (cond (Nat.ble m 94) prog_1_method_44_code prog_1_method_11_code))) (cond (Nat.ble m 99) (cond (Nat.ble m 97) (cond (Nat.ble m 96) prog_1_method_48_code prog_1_method_12_code) (cond (Nat.ble m 98) prog_1_method_52_code prog_1_method_53_code)) (cond (Nat.ble m 101) (cond (Nat.ble m 100) prog_1_method_13_code prog_1_method_49_code) (cond (Nat.ble m 102) prog_1_method_14_code prog_1_method_15_code)))) (cond (Nat.ble m 110) (cond (Nat.ble m 106) (cond (Nat.ble m 104) prog_1_method_50_code (cond (Nat.ble m 105) prog_1_method_51_code prog_1_method_16_code)) (cond (Nat.ble m 108) (cond (Nat.ble m 107) prog_9_method_2_code prog_1_method_17_code) (cond (Nat.ble m 109) prog_1_method_18_code prog_1_method_54_code))) (cond (Nat.ble m 114) (cond (Nat.ble m 112) (cond (Nat.ble m 111) prog_1_method_55_code prog_1_method_19_code) (cond (Nat.ble m 113) prog_1_method_36_code prog_10_method_2_code)) (cond (Nat.ble m 116) (cond (Nat.ble m 115) prog_1_method_56_code prog_10_method_4_code) (cond (Nat.ble m 117) prog_1_method_57_code prog_1_method_20_code))))))) (cond (Nat.ble m 177) (cond (Nat.ble m 147) (cond (Nat.ble m 132) (cond (Nat.ble m 125) (cond (Nat.ble m 121) (cond (Nat.ble m 119) prog_1_method_21_code (cond (Nat.ble m 120) prog_1_method_58_code prog_9_method_3_code)) (cond (Nat.ble m 123) (cond (Nat.ble m 122) prog_1_method_22_code prog_1_method_23_code) (cond (Nat.ble m 124) prog_1_method_24_code prog_1_method_59_code))) (cond (Nat.ble m 128) (cond (Nat.ble m 126) prog_1_method_60_code (cond (Nat.ble m 127) prog_1_method_25_code prog_1_method_26_code)) (cond (Nat.ble m 130) (cond (Nat.ble m 129) prog_1_method_27_code prog_1_method_28_code) (cond (Nat.ble m 131) prog_1_method_29_code prog_10_method_3_code)))) (cond (Nat.ble m 139) (cond (Nat.ble m 135) (cond (Nat.ble m 133) prog_21_method_103_code (cond (Nat.ble m 134) prog_1_method_30_code prog_10_method_5_code)) (cond (Nat.ble m 137) (cond (Nat.ble m 136) prog_1_method_31_code prog_10_method_6_code) (cond (Nat.ble m 138) prog_1_method_32_code prog_1_method_33_code))) (cond (Nat.ble m 143) (cond (Nat.ble m 141) (cond (Nat.ble m 140) prog_1_method_39_code prog_14_method_4_code) (cond (Nat.ble m 142) prog_14_method_5_code prog_14_method_7_code)) (cond (Nat.ble m 145) (cond (Nat.ble m 144) prog_14_method_2_code prog_14_method_6_code) (cond (Nat.ble m 146) prog_14_method_8_code prog_14_method_9_code))))) (cond (Nat.ble m 162) (cond (Nat.ble m 154) (cond (Nat.ble m 150) (cond (Nat.ble m 148) prog_14_method_10_code (cond (Nat.ble m 149) prog_14_method_14_code prog_14_method_11_code)) (cond (Nat.ble m 152) (cond (Nat.ble m 151) prog_14_method_12_code prog_14_method_13_code) (cond (Nat.ble m 153) prog_14_method_15_code prog_14_method_62_code))) (cond (Nat.ble m 158) (cond (Nat.ble m 156) (cond (Nat.ble m 155) prog_14_method_61_code prog_14_method_17_code) (cond (Nat.ble m 157) prog_14_method_16_code prog_14_method_20_code)) (cond (Nat.ble m 160) (cond (Nat.ble m 159) prog_14_method_19_code prog_14_method_60_code) (cond (Nat.ble m 161) prog_14_method_18_code prog_14_method_59_code)))) (cond (Nat.ble m 169) (cond (Nat.ble m 165) (cond (Nat.ble m 163) prog_14_method_58_code (cond (Nat.ble m 164) prog_14_method_57_code prog_14_method_22_code)) (cond (Nat.ble m 167) (cond (Nat.ble m 166) prog_14_method_51_code prog_14_method_45_code) (cond (Nat.ble m 168) prog_14_method_39_code prog_14_method_33_code))) (cond (Nat.ble m 173) (cond (Nat.ble m 171) (cond (Nat.ble m 170) prog_14_method_27_code prog_14_method_26_code) (cond (Nat.ble m 172) prog_14_method_25_code prog_14_method_24_code)) (cond (Nat.ble m 175) (cond (Nat.ble m 174) prog_14_method_21_code prog_14_method_23_code) (cond (Nat.ble m 176) prog_14_method_32_code prog_14_method_31_code)))))) (cond (Nat.ble m 207) (cond (Nat.ble m 192) (cond (Nat.ble m 184) (cond (Nat.ble m 180) (cond (Nat.ble m 178) prog_14_method_30_code (cond (Nat.ble m 179) prog_14_method_29_code prog_14_method_28_code)) (cond (Nat.ble m 182) (cond (Nat.ble m 181) prog_14_method_38_code prog_14_method_37_code) (cond (Nat.ble m 183) prog_14_method_36_code prog_14_method_35_code))) (cond (Nat.ble m 188) (cond (Nat.ble m 186) (cond (Nat.ble m 185) prog_14_method_34_code prog_14_method_44_code) (cond (Nat.ble m 187) prog_14_method_43_code prog_14_method_42_code)) (cond (Nat.ble m 190) (cond (Nat.ble m 189) prog_14_method_41_code prog_14_method_40_code) (cond (Nat.ble m 191) prog_14_method_50_code prog_14_method_49_code)))) (cond (Nat.ble m 199) (cond (Nat.ble m 195) (cond (Nat.ble m 193) prog_14_method_48_code (cond (Nat.ble m 194) prog_14_method_47_code prog_14_method_46_code)) (cond (Nat.ble m 197) (cond (Nat.ble m 196) prog_14_method_56_code prog_14_method_55_code) (cond (Nat.ble m 198) prog_14_method_54_code prog_14_method_53_code))) (cond (Nat.ble m 203) (cond (Nat.ble m 201) (cond (Nat.ble m 200) prog_14_method_52_code prog_14_method_63_code) (cond (Nat.ble m 202) prog_14_method_68_code prog_14_method_65_code)) (cond (Nat.ble m 205) (cond (Nat.ble m 204) prog_14_method_64_code prog_14_method_3_code) (cond (Nat.ble m 206) prog_14_method_69_code prog_14_method_66_code))))) (cond (Nat.ble m 222) (cond (Nat.ble m 214) (cond (Nat.ble m 210) (cond (Nat.ble m 208) prog_14_method_70_code (cond (Nat.ble m 209) prog_14_method_67_code prog_14_method_72_code)) (cond (Nat.ble m 212) (cond (Nat.ble m 211) prog_14_method_71_code prog_14_method_73_code) (cond (Nat.ble m 213) prog_14_method_74_code prog_14_method_75_code))) (cond (Nat.ble m 218) (cond (Nat.ble m 216) (cond (Nat.ble m 215) prog_14_method_77_code prog_14_method_76_code) (cond (Nat.ble m 217) prog_14_method_78_code prog_14_method_79_code)) (cond (Nat.ble m 220) (cond (Nat.ble m 219) prog_14_method_92_code prog_14_method_80_code) (cond (Nat.ble m 221) prog_14_method_83_code prog_14_method_81_code)))) (cond (Nat.ble m 229) (cond (Nat.ble m 225) (cond (Nat.ble m 223) prog_14_method_82_code (cond (Nat.ble m 224) prog_14_method_84_code prog_14_method_85_code)) (cond (Nat.ble m 227) (cond (Nat.ble m 226) prog_14_method_87_code prog_14_method_86_code) (cond (Nat.ble m 228) prog_14_method_88_code prog_14_method_89_code))) (cond (Nat.ble m 233) (cond (Nat.ble m 231) (cond (Nat.ble m 230) prog_14_method_90_code prog_14_method_91_code) (cond (Nat.ble m 232) prog_14_method_93_code prog_14_method_94_code)) (cond (Nat.ble m 235) (cond (Nat.ble m 234) prog_14_method_95_code prog_14_method_96_code) (cond (Nat.ble m 236) prog_14_method_98_code prog_14_method_97_code))))))))
def px_rt (m : Nat) : Option FieldType := (cond (Nat.ble m 118) (cond (Nat.ble m 58) (cond (Nat.ble m 28) (cond (Nat.ble m 13) (cond (Nat.ble m 6) (cond (Nat.ble m 2) (cond (Nat.ble m 0) (some Jvm.ClassFile.FieldType.boolean) (cond (Nat.ble m 1) none none)) (cond (Nat.ble m 4) (cond (Nat.ble m 3) none none) (cond (Nat.ble m 5) none (some Jvm.ClassFile.FieldType.int)))) (cond (Nat.ble m 9) (cond (Nat.ble m 7) (some Jvm.ClassFile.FieldType.byte) (cond (Nat.ble m 8) (some Jvm.ClassFile.FieldType.char) (some Jvm.ClassFile.FieldType.boolean))) (cond (Nat.ble m 11) (cond (Nat.ble m 10) (some Jvm.ClassFile.FieldType.char) none) (cond (Nat.ble m 12) (some Jvm.ClassFile.FieldType.int) none)))) (cond (Nat.ble m 20) (cond (Nat.ble m 16) (cond (Nat.ble m 14) (some (Jvm.ClassFile.FieldType.object "AtTheDoor$Text")) (cond (Nat.ble m 15) none (some Jvm.ClassFile.FieldType.boolean))) (cond (Nat.ble m 18) (cond (Nat.ble m 17) (some Jvm.ClassFile.FieldType.int) (some Jvm.ClassFile.FieldType.boolean)) (cond (Nat.ble m 19) (some Jvm.ClassFile.FieldType.int) (some Jvm.ClassFile.FieldType.int)))) (cond (Nat.ble m 24) (cond (Nat.ble m 22) (cond (Nat.ble m 21) (some Jvm.ClassFile.FieldType.boolean) none) (cond (Nat.ble m 23) (some Jvm.ClassFile.FieldType.boolean) (some Jvm.ClassFile.FieldType.int))) (cond (Nat.ble m 26) (cond (Nat.ble m 25) (some Jvm.ClassFile.FieldType.int) (some Jvm.ClassFile.FieldType.int)) (cond (Nat.ble m 27) none none))))) (cond (Nat.ble m 43) (cond (Nat.ble m 35) (cond (Nat.ble m 31) (cond (Nat.ble m 29) (some Jvm.ClassFile.FieldType.int) (cond (Nat.ble m 30) (some Jvm.ClassFile.FieldType.int) none)) (cond (Nat.ble m 33) (cond (Nat.ble m 32) (some Jvm.ClassFile.FieldType.int) none) (cond (Nat.ble m 34) none (some Jvm.ClassFile.FieldType.boolean)))) (cond (Nat.ble m 39) (cond (Nat.ble m 37) (cond (Nat.ble m 36) none none) (cond (Nat.ble m 38) none (some Jvm.ClassFile.FieldType.int))) (cond (Nat.ble m 41) (cond (Nat.ble m 40) none (some (Jvm.ClassFile.FieldType.array Jvm.ClassFile.FieldType.int))) (cond (Nat.ble m 42) none (some Jvm.ClassFile.FieldType.int))))) (cond (Nat.ble m 50) (cond (Nat.ble m 46) (cond (Nat.ble m 44) (some Jvm.ClassFile.FieldType.int) (cond (Nat.ble m 45) (some (Jvm.ClassFile.FieldType.object "AtTheDoor$Caller")) (some Jvm.ClassFile.FieldType.boolean))) (cond (Nat.ble m 48) (cond (Nat.ble m 47) (some Jvm.ClassFile.FieldType.int) none) (cond (Nat.ble m 49) (some Jvm.ClassFile.FieldType.int) (some (Jvm.ClassFile.FieldType.object "AtTheDoor$Caller"))))) (cond (Nat.ble m 54) (cond (Nat.ble m 52) (cond (Nat.ble m 51) none none) (cond (Nat.ble m 53) none none)) (cond (Nat.ble m 56) (cond (Nat.ble m 55) none none) (cond (Nat.ble m 57) (some Jvm.ClassFile.FieldType.int) none)))))) (cond (Nat.ble m 88) (cond (Nat.ble m 73) (cond (Nat.ble m 65) (cond (Nat.ble m 61) (cond (Nat.ble m 59) (some Jvm.ClassFile.FieldType.int) (cond (Nat.ble m 60) (some Jvm.ClassFile.FieldType.int) (some Jvm.ClassFile.FieldType.int))) (cond (Nat.ble m 63) (cond (Nat.ble m 62) (some Jvm.ClassFile.FieldType.int) (some Jvm.ClassFile.FieldType.int)) (cond (Nat.ble m 64) (some Jvm.ClassFile.FieldType.int) (some Jvm.ClassFile.FieldType.int)))) (cond (Nat.ble m 69) (cond (Nat.ble m 67) (cond (Nat.ble m 66) (some Jvm.ClassFile.FieldType.int) (some Jvm.ClassFile.FieldType.boolean)) (cond (Nat.ble m 68) (some Jvm.ClassFile.FieldType.boolean) (some Jvm.ClassFile.FieldType.boolean))) (cond (Nat.ble m 71) (cond (Nat.ble m 70) (some Jvm.ClassFile.FieldType.boolean) (some Jvm.ClassFile.FieldType.boolean)) (cond (Nat.ble m 72) (some Jvm.ClassFile.FieldType.int) (some Jvm.ClassFile.FieldType.int))))) (cond (Nat.ble m 80) (cond (Nat.ble m 76) (cond (Nat.ble m 74) (some Jvm.ClassFile.FieldType.int) (cond (Nat.ble m 75) (some Jvm.ClassFile.FieldType.int) (some Jvm.ClassFile.FieldType.int))) (cond (Nat.ble m 78) (cond (Nat.ble m 77) (some Jvm.ClassFile.FieldType.int) (some Jvm.ClassFile.FieldType.int)) (cond (Nat.ble m 79) (some Jvm.ClassFile.FieldType.int) (some Jvm.ClassFile.FieldType.int)))) (cond (Nat.ble m 84) (cond (Nat.ble m 82) (cond (Nat.ble m 81) (some Jvm.ClassFile.FieldType.int) (some Jvm.ClassFile.FieldType.long)) (cond (Nat.ble m 83) none (some Jvm.ClassFile.FieldType.long))) (cond (Nat.ble m 86) (cond (Nat.ble m 85) (some Jvm.ClassFile.FieldType.int) (some Jvm.ClassFile.FieldType.int)) (cond (Nat.ble m 87) (some Jvm.ClassFile.FieldType.int) (some Jvm.ClassFile.FieldType.int)))))) (cond (Nat.ble m 103) (cond (Nat.ble m 95) (cond (Nat.ble m 91) (cond (Nat.ble m 89) none (cond (Nat.ble m 90) (some Jvm.ClassFile.FieldType.int) (some Jvm.ClassFile.FieldType.int))) (cond (Nat.ble m 93) (cond (Nat.ble m 92) (some Jvm.ClassFile.FieldType.int) (some Jvm.ClassFile.FieldType.int)) (cond (Nat.ble m 94) (some Jvm.ClassFile.FieldType.int) (some Jvm.ClassFile.FieldType.int)))) (cond (Nat.ble m 99) (cond (Nat.ble m 97) (cond (Nat.ble m 96) (some Jvm.ClassFile.FieldType.int) (some Jvm.ClassFile.FieldType.long)) (cond (Nat.ble m 98) (some Jvm.ClassFile.FieldType.long) (some Jvm.ClassFile.FieldType.long))) (cond (Nat.ble m 101) (cond (Nat.ble m 100) (some Jvm.ClassFile.FieldType.long) (some Jvm.ClassFile.FieldType.long)) (cond (Nat.ble m 102) (some Jvm.ClassFile.FieldType.int) (some Jvm.ClassFile.FieldType.long))))) (cond (Nat.ble m 110) (cond (Nat.ble m 106) (cond (Nat.ble m 104) (some Jvm.ClassFile.FieldType.long) (cond (Nat.ble m 105) (some Jvm.ClassFile.FieldType.long) (some Jvm.ClassFile.FieldType.int))) (cond (Nat.ble m 108) (cond (Nat.ble m 107) none (some Jvm.ClassFile.FieldType.long)) (cond (Nat.ble m 109) (some Jvm.ClassFile.FieldType.long) none))) (cond (Nat.ble m 114) (cond (Nat.ble m 112) (cond (Nat.ble m 111) (some Jvm.ClassFile.FieldType.long) (some Jvm.ClassFile.FieldType.int)) (cond (Nat.ble m 113) (some (Jvm.ClassFile.FieldType.object "AtTheDoor$Sheet")) (some Jvm.ClassFile.FieldType.boolean))) (cond (Nat.ble m 116) (cond (Nat.ble m 115) (some Jvm.ClassFile.FieldType.boolean) (some Jvm.ClassFile.FieldType.int)) (cond (Nat.ble m 117) (some Jvm.ClassFile.FieldType.int) (some Jvm.ClassFile.FieldType.int)))))))) (cond (Nat.ble m 177) (cond (Nat.ble m 147) (cond (Nat.ble m 132) (cond (Nat.ble m 125) (cond (Nat.ble m 121) (cond (Nat.ble m 119) (some Jvm.ClassFile.FieldType.int) (cond (Nat.ble m 120) (some Jvm.ClassFile.FieldType.int) none)) (cond (Nat.ble m 123) (cond (Nat.ble m 122) (some Jvm.ClassFile.FieldType.int) (some Jvm.ClassFile.FieldType.int)) (cond (Nat.ble m 124) (some Jvm.ClassFile.FieldType.long) (some Jvm.ClassFile.FieldType.int)))) (cond (Nat.ble m 128) (cond (Nat.ble m 126) (some Jvm.ClassFile.FieldType.int) (cond (Nat.ble m 127) (some Jvm.ClassFile.FieldType.long) (some Jvm.ClassFile.FieldType.int))) (cond (Nat.ble m 130) (cond (Nat.ble m 129) (some Jvm.ClassFile.FieldType.int) (some Jvm.ClassFile.FieldType.int)) (cond (Nat.ble m 131) (some Jvm.ClassFile.FieldType.int) none)))) (cond (Nat.ble m 139) (cond (Nat.ble m 135) (cond (Nat.ble m 133) none (cond (Nat.ble m 134) (some Jvm.ClassFile.FieldType.int) none)) (cond (Nat.ble m 137) (cond (Nat.ble m 136) (some Jvm.ClassFile.FieldType.int) (some Jvm.ClassFile.FieldType.boolean)) (cond (Nat.ble m 138) (some Jvm.ClassFile.FieldType.int) (some Jvm.ClassFile.FieldType.int)))) (cond (Nat.ble m 143) (cond (Nat.ble m 141) (cond (Nat.ble m 140) (some Jvm.ClassFile.FieldType.boolean) none) (cond (Nat.ble m 142) none (some Jvm.ClassFile.FieldType.int))) (cond (Nat.ble m 145) (cond (Nat.ble m 144) (some Jvm.ClassFile.FieldType.boolean) (some Jvm.ClassFile.FieldType.boolean)) (cond (Nat.ble m 146) (some Jvm.ClassFile.FieldType.int) (some Jvm.ClassFile.FieldType.int)))))) (cond (Nat.ble m 162) (cond (Nat.ble m 154) (cond (Nat.ble m 150) (cond (Nat.ble m 148) (some Jvm.ClassFile.FieldType.int) (cond (Nat.ble m 149) (some Jvm.ClassFile.FieldType.int) (some Jvm.ClassFile.FieldType.int))) (cond (Nat.ble m 152) (cond (Nat.ble m 151) (some Jvm.ClassFile.FieldType.int) (some Jvm.ClassFile.FieldType.int)) (cond (Nat.ble m 153) (some Jvm.ClassFile.FieldType.int) (some Jvm.ClassFile.FieldType.int)))) (cond (Nat.ble m 158) (cond (Nat.ble m 156) (cond (Nat.ble m 155) (some Jvm.ClassFile.FieldType.int) none) (cond (Nat.ble m 157) (some Jvm.ClassFile.FieldType.int) (some Jvm.ClassFile.FieldType.boolean))) (cond (Nat.ble m 160) (cond (Nat.ble m 159) (some Jvm.ClassFile.FieldType.boolean) (some Jvm.ClassFile.FieldType.int)) (cond (Nat.ble m 161) none (some Jvm.ClassFile.FieldType.int))))) (cond (Nat.ble m 169) (cond (Nat.ble m 165) (cond (Nat.ble m 163) (some Jvm.ClassFile.FieldType.int) (cond (Nat.ble m 164) (some Jvm.ClassFile.FieldType.int) (some Jvm.ClassFile.FieldType.boolean))) (cond (Nat.ble m 167) (cond (Nat.ble m 166) (some Jvm.ClassFile.FieldType.int) (some Jvm.ClassFile.FieldType.int)) (cond (Nat.ble m 168) (some Jvm.ClassFile.FieldType.int) (some Jvm.ClassFile.FieldType.int)))) (cond (Nat.ble m 173) (cond (Nat.ble m 171) (cond (Nat.ble m 170) (some Jvm.ClassFile.FieldType.int) (some Jvm.ClassFile.FieldType.int)) (cond (Nat.ble m 172) (some Jvm.ClassFile.FieldType.int) (some Jvm.ClassFile.FieldType.int))) (cond (Nat.ble m 175) (cond (Nat.ble m 174) (some Jvm.ClassFile.FieldType.boolean) (some Jvm.ClassFile.FieldType.int)) (cond (Nat.ble m 176) (some Jvm.ClassFile.FieldType.int) (some Jvm.ClassFile.FieldType.int))))))) (cond (Nat.ble m 207) (cond (Nat.ble m 192) (cond (Nat.ble m 184) (cond (Nat.ble m 180) (cond (Nat.ble m 178) (some Jvm.ClassFile.FieldType.int) (cond (Nat.ble m 179) (some Jvm.ClassFile.FieldType.int) (some Jvm.ClassFile.FieldType.int))) (cond (Nat.ble m 182) (cond (Nat.ble m 181) (some Jvm.ClassFile.FieldType.int) (some Jvm.ClassFile.FieldType.int)) (cond (Nat.ble m 183) (some Jvm.ClassFile.FieldType.int) (some Jvm.ClassFile.FieldType.int)))) (cond (Nat.ble m 188) (cond (Nat.ble m 186) (cond (Nat.ble m 185) (some Jvm.ClassFile.FieldType.int) (some Jvm.ClassFile.FieldType.int)) (cond (Nat.ble m 187) (some Jvm.ClassFile.FieldType.int) (some Jvm.ClassFile.FieldType.int))) (cond (Nat.ble m 190) (cond (Nat.ble m 189) (some Jvm.ClassFile.FieldType.int) (some Jvm.ClassFile.FieldType.int)) (cond (Nat.ble m 191) (some Jvm.ClassFile.FieldType.int) (some Jvm.ClassFile.FieldType.int))))) (cond (Nat.ble m 199) (cond (Nat.ble m 195) (cond (Nat.ble m 193) (some Jvm.ClassFile.FieldType.int) (cond (Nat.ble m 194) (some Jvm.ClassFile.FieldType.int) (some Jvm.ClassFile.FieldType.int))) (cond (Nat.ble m 197) (cond (Nat.ble m 196) (some Jvm.ClassFile.FieldType.int) (some Jvm.ClassFile.FieldType.int)) (cond (Nat.ble m 198) (some Jvm.ClassFile.FieldType.int) (some Jvm.ClassFile.FieldType.int)))) (cond (Nat.ble m 203) (cond (Nat.ble m 201) (cond (Nat.ble m 200) (some Jvm.ClassFile.FieldType.int) (some Jvm.ClassFile.FieldType.int)) (cond (Nat.ble m 202) (some Jvm.ClassFile.FieldType.long) none)) (cond (Nat.ble m 205) (cond (Nat.ble m 204) (some Jvm.ClassFile.FieldType.int) (some Jvm.ClassFile.FieldType.int)) (cond (Nat.ble m 206) (some Jvm.ClassFile.FieldType.int) (some Jvm.ClassFile.FieldType.int)))))) (cond (Nat.ble m 222) (cond (Nat.ble m 214) (cond (Nat.ble m 210) (cond (Nat.ble m 208) (some Jvm.ClassFile.FieldType.long) (cond (Nat.ble m 209) (some Jvm.ClassFile.FieldType.long) (some Jvm.ClassFile.FieldType.long))) (cond (Nat.ble m 212) (cond (Nat.ble m 211) (some Jvm.ClassFile.FieldType.long) (some Jvm.ClassFile.FieldType.int)) (cond (Nat.ble m 213) (some Jvm.ClassFile.FieldType.long) (some Jvm.ClassFile.FieldType.int)))) (cond (Nat.ble m 218) (cond (Nat.ble m 216) (cond (Nat.ble m 215) (some Jvm.ClassFile.FieldType.long) (some Jvm.ClassFile.FieldType.long)) (cond (Nat.ble m 217) (some Jvm.ClassFile.FieldType.long) (some Jvm.ClassFile.FieldType.int))) (cond (Nat.ble m 220) (cond (Nat.ble m 219) (some Jvm.ClassFile.FieldType.boolean) (some Jvm.ClassFile.FieldType.int)) (cond (Nat.ble m 221) (some Jvm.ClassFile.FieldType.int) (some Jvm.ClassFile.FieldType.int))))) (cond (Nat.ble m 229) (cond (Nat.ble m 225) (cond (Nat.ble m 223) none (cond (Nat.ble m 224) (some Jvm.ClassFile.FieldType.int) (some Jvm.ClassFile.FieldType.int))) (cond (Nat.ble m 227) (cond (Nat.ble m 226) (some Jvm.ClassFile.FieldType.long) none) (cond (Nat.ble m 228) (some Jvm.ClassFile.FieldType.long) (some Jvm.ClassFile.FieldType.int)))) (cond (Nat.ble m 233) (cond (Nat.ble m 231) (cond (Nat.ble m 230) (some Jvm.ClassFile.FieldType.int) (some Jvm.ClassFile.FieldType.int)) (cond (Nat.ble m 232) (some Jvm.ClassFile.FieldType.int) (some Jvm.ClassFile.FieldType.int))) (cond (Nat.ble m 235) (cond (Nat.ble m 234) (some Jvm.ClassFile.FieldType.int) (some Jvm.ClassFile.FieldType.int)) (cond (Nat.ble m 236) (some Jvm.ClassFile.FieldType.int) (some Jvm.ClassFile.FieldType.int)))))))))
def px_on (m : Nat) : Nat := (cond (Nat.ble m 118) (cond (Nat.ble m 58) (cond (Nat.ble m 28) (cond (Nat.ble m 13) (cond (Nat.ble m 6) (cond (Nat.ble m 2) (cond (Nat.ble m 0) 13 (cond (Nat.ble m 1) 11 7)) (cond (Nat.ble m 4) (cond (Nat.ble m 3) 6 9) (cond (Nat.ble m 5) 8 14))) (cond (Nat.ble m 9) (cond (Nat.ble m 7) 14 (cond (Nat.ble m 8) 14 14)) (cond (Nat.ble m 11) (cond (Nat.ble m 10) 15 14) (cond (Nat.ble m 12) 17 9)))) (cond (Nat.ble m 20) (cond (Nat.ble m 16) (cond (Nat.ble m 14) 6 (cond (Nat.ble m 15) 9 9)) (cond (Nat.ble m 18) (cond (Nat.ble m 17) 9 9) (cond (Nat.ble m 19) 9 9))) (cond (Nat.ble m 24) (cond (Nat.ble m 22) (cond (Nat.ble m 21) 9 9) (cond (Nat.ble m 23) 9 9)) (cond (Nat.ble m 26) (cond (Nat.ble m 25) 9 9) (cond (Nat.ble m 27) 6 6))))) (cond (Nat.ble m 43) (cond (Nat.ble m 35) (cond (Nat.ble m 31) (cond (Nat.ble m 29) 6 (cond (Nat.ble m 30) 9 6)) (cond (Nat.ble m 33) (cond (Nat.ble m 32) 9 6) (cond (Nat.ble m 34) 6 6))) (cond (Nat.ble m 39) (cond (Nat.ble m 37) (cond (Nat.ble m 36) 6 6) (cond (Nat.ble m 38) 6 6)) (cond (Nat.ble m 41) (cond (Nat.ble m 40) 9 18) (cond (Nat.ble m 42) 10 11)))) (cond (Nat.ble m 50) (cond (Nat.ble m 46) (cond (Nat.ble m 44) 11 (cond (Nat.ble m 45) 11 11)) (cond (Nat.ble m 48) (cond (Nat.ble m 47) 7 7) (cond (Nat.ble m 49) 11 11))) (cond (Nat.ble m 54) (cond (Nat.ble m 52) (cond (Nat.ble m 51) 3 0) (cond (Nat.ble m 53) 5 2)) (cond (Nat.ble m 56) (cond (Nat.ble m 55) 1 4) (cond (Nat.ble m 57) 11 7)))))) (cond (Nat.ble m 88) (cond (Nat.ble m 73) (cond (Nat.ble m 65) (cond (Nat.ble m 61) (cond (Nat.ble m 59) 11 (cond (Nat.ble m 60) 11 1)) (cond (Nat.ble m 63) (cond (Nat.ble m 62) 2 3) (cond (Nat.ble m 64) 4 5))) (cond (Nat.ble m 69) (cond (Nat.ble m 67) (cond (Nat.ble m 66) 0 11) (cond (Nat.ble m 68) 1 5)) (cond (Nat.ble m 71) (cond (Nat.ble m 70) 4 0) (cond (Nat.ble m 72) 11 1)))) (cond (Nat.ble m 80) (cond (Nat.ble m 76) (cond (Nat.ble m 74) 5 (cond (Nat.ble m 75) 2 3)) (cond (Nat.ble m 78) (cond (Nat.ble m 77) 4 0) (cond (Nat.ble m 79) 11 11))) (cond (Nat.ble m 84) (cond (Nat.ble m 82) (cond (Nat.ble m 81) 11 11) (cond (Nat.ble m 83) 11 11)) (cond (Nat.ble m 86) (cond (Nat.ble m 85) 11 11) (cond (Nat.ble m 87) 10 10))))) (cond (Nat.ble m 103) (cond (Nat.ble m 95) (cond (Nat.ble m 91) (cond (Nat.ble m 89) 10 (cond (Nat.ble m 90) 10 10)) (cond (Nat.ble m 93) (cond (Nat.ble m 92) 11 7) (cond (Nat.ble m 94) 11 11))) (cond (Nat.ble m 99) (cond (Nat.ble m 97) (cond (Nat.ble m 96) 11 11) (cond (Nat.ble m 98) 11 11)) (cond (Nat.ble m 101) (cond (Nat.ble m 100) 11 11) (cond (Nat.ble m 102) 11 11)))) (cond (Nat.ble m 110) (cond (Nat.ble m 106) (cond (Nat.ble m 104) 11 (cond (Nat.ble m 105) 11 11)) (cond (Nat.ble m 108) (cond (Nat.ble m 107) 7 11) (cond (Nat.ble m 109) 11 11))) (cond (Nat.ble m 114) (cond (Nat.ble m 112) (cond (Nat.ble m 111) 11 11) (cond (Nat.ble m 113) 11 8)) (cond (Nat.ble m 116) (cond (Nat.ble m 115) 11 8) (cond (Nat.ble m 117) 11 11))))))) (cond (Nat.ble m 177) (cond (Nat.ble m 147) (cond (Nat.ble m 132) (cond (Nat.ble m 125) (cond (Nat.ble m 121) (cond (Nat.ble m 119) 11 (cond (Nat.ble m 120) 11 7)) (cond (Nat.ble m 123) (cond (Nat.ble m 122) 11 11) (cond (Nat.ble m 124) 11 11))) (cond (Nat.ble m 128) (cond (Nat.ble m 126) 11 (cond (Nat.ble m 127) 11 11)) (cond (Nat.ble m 130) (cond (Nat.ble m 129) 11 11) (cond (Nat.ble m 131) 11 8)))) (cond (Nat.ble m 139) (cond (Nat.ble m 135) (cond (Nat.ble m 133) 18 (cond (Nat.ble m 134) 11 8)) (cond (Nat.ble m 137) (cond (Nat.ble m 136) 11 8) (cond (Nat.ble m 138) 11 11))) (cond (Nat.ble m 143) (cond (Nat.ble m 141) (cond (Nat.ble m 140) 11 12) (cond (Nat.ble m 142) 12 12)) (cond (Nat.ble m 145) (cond (Nat.ble m 144) 12 12) (cond (Nat.ble m 146) 12 12))))) (cond (Nat.ble m 162) (cond (Nat.ble m 154) (cond (Nat.ble m 150) (cond (Nat.ble m 148) 12 (cond (Nat.ble m 149) 12 12)) (cond (Nat.ble m 152) (cond (Nat.ble m 151) 12 12) (cond (Nat.ble m 153) 12 12))) (cond (Nat.ble m 158) (cond (Nat.ble m 156) (cond (Nat.ble m 155) 12 12) (cond (Nat.ble m 157) 12 12)) (cond (Nat.ble m 160) (cond (Nat.ble m 159) 12 12) (cond (Nat.ble m 161) 12 12)))) (cond (Nat.ble m 169) (cond (Nat.ble m 165) (cond (Nat.ble m 163) 12 (cond (Nat.ble m 164) 12 12)) (cond (Nat.ble m 167) (cond (Nat.ble m 166) 12 12) (cond (Nat.ble m 168) 12 12))) (cond (Nat.ble m 173) (cond (Nat.ble m 171) (cond (Nat.ble m 170) 12 12) (cond (Nat.ble m 172) 12 12)) (cond (Nat.ble m 175) (cond (Nat.ble m 174) 12 12) (cond (Nat.ble m 176) 12 12)))))) (cond (Nat.ble m 207) (cond (Nat.ble m 192) (cond (Nat.ble m 184) (cond (Nat.ble m 180) (cond (Nat.ble m 178) 12 (cond (Nat.ble m 179) 12 12)) (cond (Nat.ble m 182) (cond (Nat.ble m 181) 12 12) (cond (Nat.ble m 183) 12 12))) (cond (Nat.ble m 188) (cond (Nat.ble m 186) (cond (Nat.ble m 185) 12 12) (cond (Nat.ble m 187) 12 12)) (cond (Nat.ble m 190) (cond (Nat.ble m 189) 12 12) (cond (Nat.ble m 191) 12 12)))) (cond (Nat.ble m 199) (cond (Nat.ble m 195) (cond (Nat.ble m 193) 12 (cond (Nat.ble m 194) 12 12)) (cond (Nat.ble m 197) (cond (Nat.ble m 196) 12 12) (cond (Nat.ble m 198) 12 12))) (cond (Nat.ble m 203) (cond (Nat.ble m 201) (cond (Nat.ble m 200) 12 12) (cond (Nat.ble m 202) 12 12)) (cond (Nat.ble m 205) (cond (Nat.ble m 204) 12 12) (cond (Nat.ble m 206) 12 12))))) (cond (Nat.ble m 222) (cond (Nat.ble m 214) (cond (Nat.ble m 210) (cond (Nat.ble m 208) 12 (cond (Nat.ble m 209) 12 12)) (cond (Nat.ble m 212) (cond (Nat.ble m 211) 12 12) (cond (Nat.ble m 213) 12 12))) (cond (Nat.ble m 218) (cond (Nat.ble m 216) (cond (Nat.ble m 215) 12 12) (cond (Nat.ble m 217) 12 12)) (cond (Nat.ble m 220) (cond (Nat.ble m 219) 12 12) (cond (Nat.ble m 221) 12 12)))) (cond (Nat.ble m 229) (cond (Nat.ble m 225) (cond (Nat.ble m 223) 12 (cond (Nat.ble m 224) 12 12)) (cond (Nat.ble m 227) (cond (Nat.ble m 226) 12 12) (cond (Nat.ble m 228) 12 12))) (cond (Nat.ble m 233) (cond (Nat.ble m 231) (cond (Nat.ble m 230) 12 12) (cond (Nat.ble m 232) 12 12)) (cond (Nat.ble m 235) (cond (Nat.ble m 234) 12 12) (cond (Nat.ble m 236) 12 12))))))))
def px_pc (m : Nat) : Nat := (cond (Nat.ble m 118) (cond (Nat.ble m 58) (cond (Nat.ble m 28) (cond (Nat.ble m 13) (cond (Nat.ble m 6) (cond (Nat.ble m 2) (cond (Nat.ble m 0) 0 (cond (Nat.ble m 1) 119 129)) (cond (Nat.ble m 4) (cond (Nat.ble m 3) 170 176) (cond (Nat.ble m 5) 220 240))) (cond (Nat.ble m 9) (cond (Nat.ble m 7) 244 (cond (Nat.ble m 8) 250 254)) (cond (Nat.ble m 11) (cond (Nat.ble m 10) 257 260) (cond (Nat.ble m 12) 265 288)))) (cond (Nat.ble m 20) (cond (Nat.ble m 16) (cond (Nat.ble m 14) 292 (cond (Nat.ble m 15) 296 299)) (cond (Nat.ble m 18) (cond (Nat.ble m 17) 303 306) (cond (Nat.ble m 19) 310 314))) (cond (Nat.ble m 24) (cond (Nat.ble m 22) (cond (Nat.ble m 21) 319 336) (cond (Nat.ble m 23) 339 343)) (cond (Nat.ble m 26) (cond (Nat.ble m 25) 347 350) (cond (Nat.ble m 27) 354 358))))) (cond (Nat.ble m 43) (cond (Nat.ble m 35) (cond (Nat.ble m 31) (cond (Nat.ble m 29) 362 (cond (Nat.ble m 30) 366 370)) (cond (Nat.ble m 33) (cond (Nat.ble m 32) 374 378) (cond (Nat.ble m 34) 382 385))) (cond (Nat.ble m 39) (cond (Nat.ble m 37) (cond (Nat.ble m 36) 389 393) (cond (Nat.ble m 38) 397 400)) (cond (Nat.ble m 41) (cond (Nat.ble m 40) 404 409) (cond (Nat.ble m 42) 425 493)))) (cond (Nat.ble m 50) (cond (Nat.ble m 46) (cond (Nat.ble m 44) 499 (cond (Nat.ble m 45) 503 506)) (cond (Nat.ble m 48) (cond (Nat.ble m 47) 510 514) (cond (Nat.ble m 49) 518 521))) (cond (Nat.ble m 54) (cond (Nat.ble m 52) (cond (Nat.ble m 51) 526 529) (cond (Nat.ble m 53) 548 557)) (cond (Nat.ble m 56) (cond (Nat.ble m 55) 566 575) (cond (Nat.ble m 57) 588 592)))))) (cond (Nat.ble m 88) (cond (Nat.ble m 73) (cond (Nat.ble m 65) (cond (Nat.ble m 61) (cond (Nat.ble m 59) 596 (cond (Nat.ble m 60) 600 607)) (cond (Nat.ble m 63) (cond (Nat.ble m 62) 610 613) (cond (Nat.ble m 64) 618 622))) (cond (Nat.ble m 69) (cond (Nat.ble m 67) (cond (Nat.ble m 66) 624 627) (cond (Nat.ble m 68) 634 637)) (cond (Nat.ble m 71) (cond (Nat.ble m 70) 643 648) (cond (Nat.ble m 72) 651 658)))) (cond (Nat.ble m 80) (cond (Nat.ble m 76) (cond (Nat.ble m 74) 661 (cond (Nat.ble m 75) 665 668)) (cond (Nat.ble m 78) (cond (Nat.ble m 77) 673 676) (cond (Nat.ble m 79) 683 687))) (cond (Nat.ble m 84) (cond (Nat.ble m 82) (cond (Nat.ble m 81) 691 695) (cond (Nat.ble m 83) 700 704)) (cond (Nat.ble m 86) (cond (Nat.ble m 85) 708 712) (cond (Nat.ble m 87) 716 719))))) (cond (Nat.ble m 103) (cond (Nat.ble m 95) (cond (Nat.ble m 91) (cond (Nat.ble m 89) 723 (cond (Nat.ble m 90) 727 730)) (cond (Nat.ble m 93) (cond (Nat.ble m 92) 733 738) (cond (Nat.ble m 94) 742 746))) (cond (Nat.ble m 99) (cond (Nat.ble m 97) (cond (Nat.ble m 96) 750 754) (cond (Nat.ble m 98) 757 760)) (cond (Nat.ble m 101) (cond (Nat.ble m 100) 764 768) (cond (Nat.ble m 102) 772 776)))) (cond (Nat.ble m 110) (cond (Nat.ble m 106) (cond (Nat.ble m 104) 780 (cond (Nat.ble m 105) 787 791)) (cond (Nat.ble m 108) (cond (Nat.ble m 107) 795 800) (cond (Nat.ble m 109) 804 808))) (cond (Nat.ble m 114) (cond (Nat.ble m 112) (cond (Nat.ble m 111) 812 816) (cond (Nat.ble m 113) 820 824)) (cond (Nat.ble m 116) (cond (Nat.ble m 115) 828 832) (cond (Nat.ble m 117) 836 840))))))) (cond (Nat.ble m 177) (cond (Nat.ble m 147) (cond (Nat.ble m 132) (cond (Nat.ble m 125) (cond (Nat.ble m 121) (cond (Nat.ble m 119) 844 (cond (Nat.ble m 120) 847 851)) (cond (Nat.ble m 123) (cond (Nat.ble m 122) 856 860) (cond (Nat.ble m 124) 864 867))) (cond (Nat.ble m 128) (cond (Nat.ble m 126) 872 (cond (Nat.ble m 127) 876 880)) (cond (Nat.ble m 130) (cond (Nat.ble m 129) 884 888) (cond (Nat.ble m 131) 892 896)))) (cond (Nat.ble m 139) (cond (Nat.ble m 135) (cond (Nat.ble m 133) 899 (cond (Nat.ble m 134) 903 907)) (cond (Nat.ble m 137) (cond (Nat.ble m 136) 911 915) (cond (Nat.ble m 138) 920 925))) (cond (Nat.ble m 143) (cond (Nat.ble m 141) (cond (Nat.ble m 140) 928 933) (cond (Nat.ble m 142) 938 1090)) (cond (Nat.ble m 145) (cond (Nat.ble m 144) 1094 1098) (cond (Nat.ble m 146) 1105 1109))))) (cond (Nat.ble m 162) (cond (Nat.ble m 154) (cond (Nat.ble m 150) (cond (Nat.ble m 148) 1114 (cond (Nat.ble m 149) 1118 1123)) (cond (Nat.ble m 152) (cond (Nat.ble m 151) 1127 1131) (cond (Nat.ble m 153) 1135 1140))) (cond (Nat.ble m 158) (cond (Nat.ble m 156) (cond (Nat.ble m 155) 1144 1148) (cond (Nat.ble m 157) 1152 1161)) (cond (Nat.ble m 160) (cond (Nat.ble m 159) 1165 1169) (cond (Nat.ble m 161) 1173 1177)))) (cond (Nat.ble m 169) (cond (Nat.ble m 165) (cond (Nat.ble m 163) 1181 (cond (Nat.ble m 164) 1185 1189)) (cond (Nat.ble m 167) (cond (Nat.ble m 166) 1193 1197) (cond (Nat.ble m 168) 1201 1205))) (cond (Nat.ble m 173) (cond (Nat.ble m 171) (cond (Nat.ble m 170) 1209 1213) (cond (Nat.ble m 172) 1217 1221)) (cond (Nat.ble m 175) (cond (Nat.ble m 174) 1225 1229) (cond (Nat.ble m 176) 1235 1239)))))) (cond (Nat.ble m 207) (cond (Nat.ble m 192) (cond (Nat.ble m 184) (cond (Nat.ble m 180) (cond (Nat.ble m 178) 1243 (cond (Nat.ble m 179) 1247 1251)) (cond (Nat.ble m 182) (cond (Nat.ble m 181) 1255 1259) (cond (Nat.ble m 183) 1263 1267))) (cond (Nat.ble m 188) (cond (Nat.ble m 186) (cond (Nat.ble m 185) 1271 1275) (cond (Nat.ble m 187) 1279 1283)) (cond (Nat.ble m 190) (cond (Nat.ble m 189) 1287 1291) (cond (Nat.ble m 191) 1295 1299)))) (cond (Nat.ble m 199) (cond (Nat.ble m 195) (cond (Nat.ble m 193) 1303 (cond (Nat.ble m 194) 1307 1311)) (cond (Nat.ble m 197) (cond (Nat.ble m 196) 1315 1319) (cond (Nat.ble m 198) 1323 1327))) (cond (Nat.ble m 203) (cond (Nat.ble m 201) (cond (Nat.ble m 200) 1331 1335) (cond (Nat.ble m 202) 1339 1344)) (cond (Nat.ble m 205) (cond (Nat.ble m 204) 1348 1351) (cond (Nat.ble m 206) 1355 1359))))) (cond (Nat.ble m 222) (cond (Nat.ble m 214) (cond (Nat.ble m 210) (cond (Nat.ble m 208) 1363 (cond (Nat.ble m 209) 1366 1370)) (cond (Nat.ble m 212) (cond (Nat.ble m 211) 1375 1379) (cond (Nat.ble m 213) 1383 1387))) (cond (Nat.ble m 218) (cond (Nat.ble m 216) (cond (Nat.ble m 215) 1392 1396) (cond (Nat.ble m 217) 1400 1405)) (cond (Nat.ble m 220) (cond (Nat.ble m 219) 1408 1412) (cond (Nat.ble m 221) 1416 1420)))) (cond (Nat.ble m 229) (cond (Nat.ble m 225) (cond (Nat.ble m 223) 1424 (cond (Nat.ble m 224) 1428 1432)) (cond (Nat.ble m 227) (cond (Nat.ble m 226) 1436 1441) (cond (Nat.ble m 228) 1446 1450))) (cond (Nat.ble m 233) (cond (Nat.ble m 231) (cond (Nat.ble m 230) 1454 1458) (cond (Nat.ble m 232) 1463 1469)) (cond (Nat.ble m 235) (cond (Nat.ble m 234) 1473 1477) (cond (Nat.ble m 236) 1482 1485))))))))
def px_fl : List (Nat × Nat × Nat × Nat × String × List Nat) := [(0, 7, 0, 0, "AtTheDoor$Caller", [531]), (0, 7, 1, 0, "AtTheDoor$Caller", [531]), (0, 7, 2, 0, "AtTheDoor$Caller", [531]), (0, 7, 3, 0, "AtTheDoor$Caller", [531]), (0, 7, 4, 0, "AtTheDoor$Caller", [531]), (0, 7, 5, 0, "AtTheDoor$Caller", [531]), (0, 13, 0, 1, "AtTheDoor$Caller", [533]), (0, 13, 1, 1, "AtTheDoor$Caller", [533]), (0, 13, 2, 1, "AtTheDoor$Caller", [533]), (0, 13, 3, 1, "AtTheDoor$Caller", [533]), (0, 13, 4, 1, "AtTheDoor$Caller", [533]), (0, 13, 5, 1, "AtTheDoor$Caller", [533]), (2, 11, 2, 1, "AtTheDoor$Parcel", [534, 535]), (3, 15, 2, 1, "AtTheDoor$Post", [536, 537]), (3, 15, 3, 1, "AtTheDoor$Post", [536, 537]), (3, 15, 4, 1, "AtTheDoor$Post", [536, 537]), (6, 12, 6, 0, "AtTheDoor$Reader", [195]), (6, 18, 6, 1, "AtTheDoor$Reader", [197]), (6, 22, 6, 2, "AtTheDoor$Reader", [199]), (6, 25, 6, 3, "AtTheDoor$Reader", [200]), (6, 29, 6, 4, "AtTheDoor$Reader", [201]), (7, 9, 7, 0, "AtTheDoor$Scene", [131]), (7, 15, 7, 1, "AtTheDoor$Scene", [134]), (7, 18, 7, 2, "AtTheDoor$Scene", [136]), (7, 21, 7, 3, "AtTheDoor$Scene", [138]), (7, 24, 7, 4, "AtTheDoor$Scene", [140]), (7, 27, 7, 5, "AtTheDoor$Scene", [142]), (7, 30, 7, 6, "AtTheDoor$Scene", [144]), (7, 33, 7, 7, "AtTheDoor$Scene", [147]), (8, 9, 8, 0, "AtTheDoor$Sheet", [222]), (8, 15, 8, 1, "AtTheDoor$Sheet", [224]), (8, 19, 8, 2, "AtTheDoor$Sheet", [226]), (9, 9, 9, 0, "AtTheDoor$Tape", [178]), (9, 15, 9, 1, "AtTheDoor$Tape", [179]), (9, 19, 9, 2, "AtTheDoor$Tape", [181]), (9, 22, 9, 3, "AtTheDoor$Tape", [182]), (9, 25, 9, 4, "AtTheDoor$Tape", [183]), (10, 9, 10, 0, "AtTheDoor$Text", [427]), (10, 15, 10, 1, "AtTheDoor$Text", [428]), (10, 19, 10, 2, "AtTheDoor$Text", [429]), (10, 22, 10, 3, "AtTheDoor$Text", [430]), (10, 43, 7, 0, "AtTheDoor$Scene", [132]), (10, 48, 7, 1, "AtTheDoor$Scene", [135]), (10, 51, 7, 2, "AtTheDoor$Scene", [137]), (10, 54, 7, 6, "AtTheDoor$Scene", [146]), (11, 11, 11, 0, "AtTheDoor", [441]), (11, 15, 11, 1, "AtTheDoor", [442]), (11, 22, 11, 2, "AtTheDoor", [443]), (11, 26, 11, 3, "AtTheDoor", [444]), (11, 29, 11, 4, "AtTheDoor", [445]), (11, 32, 11, 5, "AtTheDoor", [446]), (11, 36, 11, 6, "AtTheDoor", [447]), (11, 42, 11, 7, "AtTheDoor", [448]), (11, 48, 11, 8, "AtTheDoor", [449]), (11, 52, 11, 9, "AtTheDoor", [450]), (11, 57, 11, 10, "AtTheDoor", [451]), (11, 61, 11, 11, "AtTheDoor", [452]), (11, 65, 11, 12, "AtTheDoor", [453]), (11, 68, 11, 13, "AtTheDoor", [454]), (11, 72, 11, 14, "AtTheDoor", [455]), (11, 75, 11, 15, "AtTheDoor", [456]), (11, 87, 6, 0, "AtTheDoor$Reader", [196]), (11, 128, 7, 6, "AtTheDoor$Scene", [145]), (11, 138, 0, 0, "AtTheDoor$Caller", [532]), (11, 138, 1, 0, "AtTheDoor$Caller", [532]), (11, 138, 2, 0, "AtTheDoor$Caller", [532]), (11, 138, 3, 0, "AtTheDoor$Caller", [532]), (11, 138, 4, 0, "AtTheDoor$Caller", [532]), (11, 138, 5, 0, "AtTheDoor$Caller", [532]), (11, 141, 0, 1, "AtTheDoor$Caller", [538]), (11, 141, 1, 1, "AtTheDoor$Caller", [538]), (11, 141, 2, 1, "AtTheDoor$Caller", [538]), (11, 141, 3, 1, "AtTheDoor$Caller", [538]), (11, 141, 4, 1, "AtTheDoor$Caller", [538]), (11, 141, 5, 1, "AtTheDoor$Caller", [538]), (11, 144, 7, 0, "AtTheDoor$Scene", [133]), (11, 158, 9, 1, "AtTheDoor$Tape", [180]), (11, 161, 6, 1, "AtTheDoor$Reader", [198]), (11, 164, 7, 5, "AtTheDoor$Scene", [143]), (11, 212, 8, 2, "AtTheDoor$Sheet", [227]), (11, 239, 8, 1, "AtTheDoor$Sheet", [225]), (11, 245, 8, 0, "AtTheDoor$Sheet", [223]), (11, 300, 7, 3, "AtTheDoor$Scene", [139]), (11, 303, 7, 4, "AtTheDoor$Scene", [141]), (12, 13, 12, 1, "AtTheDoorModel", [939]), (12, 17, 12, 2, "AtTheDoorModel", [940]), (12, 20, 12, 5, "AtTheDoorModel", [943]), (12, 23, 12, 7, "AtTheDoorModel", [945]), (12, 26, 12, 9, "AtTheDoorModel", [947]), (12, 29, 12, 12, "AtTheDoorModel", [950]), (12, 32, 12, 13, "AtTheDoorModel", [951]), (12, 35, 12, 15, "AtTheDoorModel", [953]), (12, 38, 12, 32, "AtTheDoorModel", [970]), (12, 42, 12, 33, "AtTheDoorModel", [971]), (12, 45, 12, 35, "AtTheDoorModel", [973]), (12, 48, 12, 36, "AtTheDoorModel", [974]), (12, 51, 12, 40, "AtTheDoorModel", [978]), (12, 54, 12, 41, "AtTheDoorModel", [979]), (12, 57, 12, 42, "AtTheDoorModel", [980]), (12, 60, 12, 43, "AtTheDoorModel", [981]), (12, 63, 12, 45, "AtTheDoorModel", [983]), (12, 67, 12, 46, "AtTheDoorModel", [984]), (12, 70, 12, 47, "AtTheDoorModel", [985]), (12, 73, 12, 48, "AtTheDoorModel", [986]), (12, 80, 12, 3, "AtTheDoorModel", [941]), (12, 83, 12, 14, "AtTheDoorModel", [952]), (12, 102, 12, 8, "AtTheDoorModel", [946]), (12, 105, 12, 10, "AtTheDoorModel", [948]), (12, 108, 12, 11, "AtTheDoorModel", [949]), (12, 113, 12, 16, "AtTheDoorModel", [954]), (12, 131, 12, 6, "AtTheDoorModel", [944]), (12, 134, 12, 24, "AtTheDoorModel", [962]), (12, 137, 12, 23, "AtTheDoorModel", [961]), (12, 140, 12, 25, "AtTheDoorModel", [963]), (12, 146, 12, 27, "AtTheDoorModel", [965]), (12, 149, 12, 26, "AtTheDoorModel", [964]), (12, 160, 12, 28, "AtTheDoorModel", [966]), (12, 166, 12, 30, "AtTheDoorModel", [968]), (12, 170, 12, 31, "AtTheDoorModel", [969]), (12, 177, 12, 29, "AtTheDoorModel", [967]), (12, 190, 12, 17, "AtTheDoorModel", [955]), (12, 193, 12, 18, "AtTheDoorModel", [956]), (12, 196, 12, 19, "AtTheDoorModel", [957]), (12, 199, 12, 20, "AtTheDoorModel", [958]), (12, 202, 12, 21, "AtTheDoorModel", [959]), (12, 205, 12, 22, "AtTheDoorModel", [960]), (12, 339, 12, 4, "AtTheDoorModel", [942]), (12, 345, 12, 34, "AtTheDoorModel", [972]), (12, 381, 12, 37, "AtTheDoorModel", [975]), (12, 391, 12, 38, "AtTheDoorModel", [976]), (12, 394, 12, 39, "AtTheDoorModel", [977]), (12, 404, 12, 44, "AtTheDoorModel", [982])]
def px_cs_0 : List (Nat × Nat × Nat × Nat × Nat × Nat × MethodName × List Nat) := [(1, 1, 2, 0, 53, 3, ⟨"AtTheDoor$Quiet", "<init>", "(II)V"⟩, [567, 547, 111]),
  (1, 11, 2, 11, 69, 5, ⟨"AtTheDoor$Quiet", "stays", "(ZZ)Z"⟩, [635, 1487, 570, 636, 111]),
  (1, 7, 2, 11, 74, 5, ⟨"AtTheDoor$Quiet", "sounds", "(II)I"⟩, [659, 1488, 570, 660, 111]),
  (2, 1, 2, 0, 51, 3, ⟨"AtTheDoor$Post", "<init>", "(II)V"⟩, [558, 525, 110]),
  (2, 17, 2, 12, 63, 5, ⟨"AtTheDoor$Post", "waits", "(I)I"⟩, [611, 1486, 561, 612, 110]),
  (2, 7, 2, 12, 76, 5, ⟨"AtTheDoor$Post", "sounds", "(II)I"⟩, [666, 1489, 561, 667, 110]),
  (3, 1, 2, 0, 52, 3, ⟨"AtTheDoor$Caller", "<init>", "(II)V"⟩, [527, 528, 109]),
  (3, 11, 2, 12, 66, 5, ⟨"AtTheDoor$Caller", "waits", "(I)I"⟩, [614, 604, 543, 602, 109]),
  (3, 11, 2, 13, 66, 5, ⟨"AtTheDoor$Caller", "waits", "(I)I"⟩, [614, 604, 543, 602, 109]),
  (3, 11, 2, 14, 66, 5, ⟨"AtTheDoor$Caller", "waits", "(I)I"⟩, [614, 604, 543, 602, 109]),
  (3, 7, 2, 12, 78, 5, ⟨"AtTheDoor$Caller", "sounds", "(II)I"⟩, [669, 655, 543, 653, 109]),
  (3, 7, 2, 13, 78, 5, ⟨"AtTheDoor$Caller", "sounds", "(II)I"⟩, [669, 655, 543, 653, 109]),
  (3, 7, 2, 14, 78, 5, ⟨"AtTheDoor$Caller", "sounds", "(II)I"⟩, [669, 655, 543, 653, 109]),
  (4, 1, 2, 0, 51, 3, ⟨"AtTheDoor$Post", "<init>", "(II)V"⟩, [576, 525, 110]),
  (4, 11, 2, 14, 63, 5, ⟨"AtTheDoor$Post", "waits", "(I)I"⟩, [619, 1486, 579, 612, 110]),
  (4, 15, 2, 14, 71, 5, ⟨"AtTheDoor$Post", "stays", "(ZZ)Z"⟩, [644, 645, 579, 629, 109, 543]),
  (4, 7, 2, 14, 76, 5, ⟨"AtTheDoor$Post", "sounds", "(II)I"⟩, [674, 1489, 579, 667, 110]),
  (5, 1, 2, 0, 52, 3, ⟨"AtTheDoor$Caller", "<init>", "(II)V"⟩, [549, 528, 109]),
  (5, 11, 2, 11, 66, 5, ⟨"AtTheDoor$Caller", "waits", "(I)I"⟩, [623, 604, 552, 602, 109]),
  (5, 11, 2, 15, 66, 5, ⟨"AtTheDoor$Caller", "waits", "(I)I"⟩, [623, 604, 552, 602, 109]),
  (5, 15, 2, 11, 71, 5, ⟨"AtTheDoor$Caller", "stays", "(ZZ)Z"⟩, [638, 631, 552, 629, 109]),
  (5, 15, 2, 15, 71, 5, ⟨"AtTheDoor$Caller", "stays", "(ZZ)Z"⟩, [638, 631, 552, 629, 109]),
  (5, 7, 2, 11, 78, 5, ⟨"AtTheDoor$Caller", "sounds", "(II)I"⟩, [662, 655, 552, 653, 109]),
  (5, 7, 2, 15, 78, 5, ⟨"AtTheDoor$Caller", "sounds", "(II)I"⟩, [662, 655, 552, 653, 109]),
  (6, 11, 2, 0, 4, 4, ⟨"AtTheDoor$Tape", "<init>", "()V"⟩, [175, 98]),
  (6, 32, 1, 19, 15, 1, ⟨"AtTheDoor$Tape", "cut", "()V"⟩, [293, 294, 295, 98]),
  (6, 35, 1, 16, 27, 1, ⟨"AtTheDoor$Reader", "readPart", "(I)V"⟩, [351, 353, 7, 97]),
  (6, 39, 1, 16, 28, 1, ⟨"AtTheDoor$Reader", "expect", "(I)V"⟩, [355, 357, 8, 97]),
  (6, 42, 1, 19, 40, 1, ⟨"AtTheDoor$Tape", "clear", "()V"⟩, [401, 402, 403, 98]),
  (6, 47, 0, 0, 41, 0, ⟨"java/util/Arrays", "copyOf", "([II)[I"⟩, [407, 408, 105]),
  (6, 53, 2, 0, 42, 3, ⟨"AtTheDoor$Text", "<init>", "([III)V"⟩, [423, 424, 104]),
  (6, 56, 1, 16, 33, 1, ⟨"AtTheDoor$Reader", "readLevel", "(II)V"⟩, [375, 377, 11, 97]),
  (6, 60, 1, 19, 30, 1, ⟨"AtTheDoor$Tape", "tokenAt", "(I)I"⟩, [363, 364, 365, 98]),
  (6, 64, 1, 19, 32, 1, ⟨"AtTheDoor$Tape", "placeAt", "(I)I"⟩, [371, 372, 373, 98]),
  (6, 67, 1, 16, 29, 1, ⟨"AtTheDoor$Reader", "token", "()I"⟩, [359, 361, 9, 97]),
  (6, 71, 1, 16, 31, 1, ⟨"AtTheDoor$Reader", "failHere", "()V"⟩, [367, 369, 10, 97]),
  (6, 74, 1, 16, 34, 1, ⟨"AtTheDoor$Reader", "readOne", "(I)V"⟩, [379, 381, 12, 97]),
  (6, 77, 1, 16, 37, 1, ⟨"AtTheDoor$Reader", "readPrefixed", "(III)V"⟩, [390, 392, 14, 97]),
  (6, 81, 1, 16, 38, 1, ⟨"AtTheDoor$Reader", "readChain", "(II)V"⟩, [394, 396, 15, 97]),
  (6, 84, 0, 0, 39, 0, ⟨"AtTheDoor$Reader", "levelOf", "(I)I"⟩, [398, 399, 97]),
  (6, 87, 1, 16, 36, 1, ⟨"AtTheDoor$Reader", "emit", "(I)V"⟩, [386, 388, 13, 97]),
  (6, 90, 0, 0, 35, 0, ⟨"AtTheDoor$Reader", "isName", "(I)Z"⟩, [383, 384, 97]),
  (7, 43, 1, 17, 107, 1, ⟨"AtTheDoor$Scene", "become", "(LAtTheDoor$Scene;)V"⟩, [852, 793, 794, 96]),
  (8, 22, 0, 0, 133, 0, ⟨"java/util/Arrays", "fill", "([II)V"⟩, [897, 898, 105]),
  (9, 28, 0, 0, 16, 0, ⟨"AtTheDoor$Tape", "isBlank", "(I)Z"⟩, [297, 298, 98])]
def px_cs_1 : List (Nat × Nat × Nat × Nat × Nat × Nat × MethodName × List Nat) := [(9, 32, 1, 19, 17, 1, ⟨"AtTheDoor$Tape", "cutOne", "(II)I"⟩, [300, 302, 0, 98]),
  (9, 36, 0, 0, 18, 0, ⟨"AtTheDoor$Tape", "isLetter", "(I)Z"⟩, [304, 305, 98]),
  (9, 39, 1, 19, 19, 1, ⟨"AtTheDoor$Tape", "endOfWord", "(I)I"⟩, [307, 309, 1, 98]),
  (9, 43, 1, 19, 20, 1, ⟨"AtTheDoor$Tape", "wordToken", "(II)I"⟩, [311, 313, 2, 98]),
  (9, 46, 1, 19, 22, 1, ⟨"AtTheDoor$Tape", "addToken", "(II)V"⟩, [333, 335, 4, 98]),
  (9, 50, 0, 0, 23, 0, ⟨"AtTheDoor$Tape", "isDigit", "(I)Z"⟩, [337, 338, 98]),
  (9, 53, 1, 19, 24, 1, ⟨"AtTheDoor$Tape", "endOfNumber", "(I)I"⟩, [340, 342, 5, 98]),
  (9, 56, 1, 19, 25, 1, ⟨"AtTheDoor$Tape", "numberToken", "(II)I"⟩, [344, 346, 6, 98]),
  (9, 59, 0, 0, 26, 0, ⟨"AtTheDoor$Tape", "markToken", "(I)I"⟩, [348, 349, 98]),
  (9, 64, 1, 19, 21, 1, ⟨"AtTheDoor$Tape", "isWord", "(Ljava/lang/String;II)Z"⟩, [316, 318, 3, 98]),
  (9, 90, 1, 150, 6, 1, ⟨"java/lang/String", "length", "()I"⟩, [320, 238, 239, 100]),
  (9, 96, 1, 150, 8, 1, ⟨"java/lang/String", "charAt", "(I)C"⟩, [321, 248, 249, 100]),
  (10, 27, 0, 0, 88, 0, ⟨"AtTheDoor$Text", "nameValue", "(ILAtTheDoor$Scene;II)I"⟩, [717, 718, 104]),
  (10, 31, 1, 20, 89, 1, ⟨"AtTheDoor$Text", "lay", "(II)V"⟩, [720, 722, 22, 104]),
  (10, 35, 1, 20, 90, 1, ⟨"AtTheDoor$Text", "at", "(I)I"⟩, [724, 726, 23, 104]),
  (10, 39, 0, 0, 91, 0, ⟨"AtTheDoor$Text", "joined", "(III)I"⟩, [728, 729, 104]),
  (11, 101, 1, 16, 14, 1, ⟨"AtTheDoor$Reader", "read", "()LAtTheDoor$Text;"⟩, [289, 290, 291, 97]),
  (11, 108, 1, 21, 44, 1, ⟨"AtTheDoor", "setNumber", "(II)I"⟩, [496, 498, 16, 95]),
  (11, 112, 0, 0, 46, 0, ⟨"AtTheDoor", "isBelow", "(II)Z"⟩, [504, 505, 95]),
  (11, 116, 1, 17, 47, 1, ⟨"AtTheDoor$Scene", "part", "(I)I"⟩, [507, 508, 509, 96]),
  (11, 120, 1, 17, 48, 1, ⟨"AtTheDoor$Scene", "putPart", "(II)V"⟩, [511, 512, 513, 96]),
  (11, 124, 0, 0, 50, 0, ⟨"AtTheDoor", "callerOf", "(II)LAtTheDoor$Caller;"⟩, [519, 520, 95]),
  (11, 131, 1, 17, 58, 1, ⟨"AtTheDoor$Scene", "add", "(I)V"⟩, [589, 590, 591, 96]),
  (11, 134, 1, 21, 45, 1, ⟨"AtTheDoor", "callerAt", "(I)LAtTheDoor$Caller;"⟩, [500, 502, 17, 95]),
  (11, 147, 1, 10, 66, 1, ⟨"AtTheDoor$Caller", "waits", "(I)I"⟩, [601, 602, 603, 109]),
  (11, 147, 1, 11, 61, 2, ⟨"AtTheDoor$Caller", "waits", "(I)I"⟩, [601, 604, 602, 605, 606, 113]),
  (11, 147, 1, 12, 62, 2, ⟨"AtTheDoor$Caller", "waits", "(I)I"⟩, [601, 604, 602, 608, 609, 112]),
  (11, 147, 1, 13, 63, 2, ⟨"AtTheDoor$Caller", "waits", "(I)I"⟩, [601, 604, 602, 615, 612, 110]),
  (11, 147, 1, 14, 64, 2, ⟨"AtTheDoor$Caller", "waits", "(I)I"⟩, [601, 604, 602, 616, 617, 114]),
  (11, 147, 1, 15, 65, 2, ⟨"AtTheDoor$Caller", "waits", "(I)I"⟩, [601, 604, 602, 620, 621, 111]),
  (11, 150, 0, 0, 67, 0, ⟨"AtTheDoor", "staysIn", "(LAtTheDoor$Scene;LAtTheDoor$Caller;)Z"⟩, [625, 626, 95]),
  (11, 154, 0, 0, 72, 0, ⟨"AtTheDoor", "soundsOf", "(LAtTheDoor$Caller;II)I"⟩, [649, 650, 95]),
  (11, 169, 1, 21, 83, 1, ⟨"AtTheDoor", "reckon", "(LAtTheDoor$Scene;)V"⟩, [697, 699, 18, 95]),
  (11, 173, 1, 21, 96, 1, ⟨"AtTheDoor", "heaviest", "()I"⟩, [747, 749, 25, 95]),
  (11, 176, 0, 0, 98, 0, ⟨"AtTheDoor", "lowest", "(JJI)J"⟩, [755, 756, 95]),
  (11, 180, 1, 21, 101, 1, ⟨"AtTheDoor", "gainAt", "(I)J"⟩, [765, 767, 26, 95]),
  (11, 184, 1, 21, 104, 1, ⟨"AtTheDoor", "peeping", "(I)J"⟩, [777, 779, 27, 95]),
  (11, 187, 1, 21, 105, 1, ⟨"AtTheDoor", "listening", "(I)J"⟩, [784, 786, 28, 95]),
  (11, 190, 1, 17, 107, 1, ⟨"AtTheDoor$Scene", "become", "(LAtTheDoor$Scene;)V"⟩, [792, 793, 794, 96]),
  (11, 193, 1, 21, 110, 1, ⟨"AtTheDoor", "fillHourly", "()V"⟩, [805, 807, 29, 95]),
  (11, 196, 1, 21, 111, 1, ⟨"AtTheDoor", "hoursFrom", "(II)J"⟩, [809, 811, 30, 95]),
  (11, 200, 1, 21, 113, 1, ⟨"AtTheDoor", "sheetAt", "(I)LAtTheDoor$Sheet;"⟩, [817, 819, 31, 95]),
  (11, 204, 1, 18, 114, 1, ⟨"AtTheDoor$Sheet", "isMissing", "()Z"⟩, [821, 822, 823, 99]),
  (11, 208, 1, 21, 115, 1, ⟨"AtTheDoor", "tellsCallers", "(LAtTheDoor$Sheet;)Z"⟩, [825, 827, 32, 95]),
  (11, 21, 2, 0, 2, 4, ⟨"AtTheDoor$Scene", "<init>", "()V"⟩, [128, 96])]
def px_cs_2 : List (Nat × Nat × Nat × Nat × Nat × Nat × MethodName × List Nat) := [(11, 213, 1, 18, 116, 1, ⟨"AtTheDoor$Sheet", "at", "(I)I"⟩, [829, 830, 831, 99]),
  (11, 216, 1, 21, 117, 1, ⟨"AtTheDoor", "hourBehind", "(II)I"⟩, [833, 835, 33, 95]),
  (11, 219, 0, 0, 120, 0, ⟨"AtTheDoor", "refusalOfSigns", "(LAtTheDoor$Sheet;)I"⟩, [845, 846, 95]),
  (11, 223, 1, 17, 121, 1, ⟨"AtTheDoor$Scene", "becomeUnheard", "(LAtTheDoor$Scene;)V"⟩, [848, 849, 850, 96]),
  (11, 226, 0, 0, 125, 0, ⟨"AtTheDoor", "nextDraw", "(I)I"⟩, [865, 866, 95]),
  (11, 229, 1, 21, 126, 1, ⟨"AtTheDoor", "drawnBy", "(I)I"⟩, [869, 871, 34, 95]),
  (11, 232, 1, 17, 93, 1, ⟨"AtTheDoor$Scene", "signAt", "(I)I"⟩, [735, 736, 737, 96]),
  (11, 235, 1, 18, 132, 1, ⟨"AtTheDoor$Sheet", "become", "(II)V"⟩, [893, 894, 895, 99]),
  (11, 237, 1, 18, 135, 1, ⟨"AtTheDoor$Sheet", "put", "(II)V"⟩, [904, 905, 906, 99]),
  (11, 242, 1, 18, 137, 1, ⟨"AtTheDoor$Sheet", "holds", "(II)Z"⟩, [912, 913, 914, 99]),
  (11, 254, 1, 21, 57, 1, ⟨"AtTheDoor", "hear", "(I)I"⟩, [921, 586, 587, 95]),
  (11, 257, 0, 0, 140, 0, ⟨"AtTheDoor", "isUnder", "(LAtTheDoor$Caller;I)Z"⟩, [926, 927, 95]),
  (11, 263, 2, 0, 51, 3, ⟨"AtTheDoor$Post", "<init>", "(II)V"⟩, [524, 525, 110]),
  (11, 267, 2, 0, 53, 3, ⟨"AtTheDoor$Quiet", "<init>", "(II)V"⟩, [546, 547, 111]),
  (11, 270, 2, 0, 54, 3, ⟨"AtTheDoor$Parcel", "<init>", "(II)V"⟩, [555, 556, 112]),
  (11, 273, 2, 0, 55, 3, ⟨"AtTheDoor$Child", "<init>", "(II)V"⟩, [564, 565, 113]),
  (11, 276, 2, 0, 56, 3, ⟨"AtTheDoor$Pressing", "<init>", "(II)V"⟩, [573, 574, 114]),
  (11, 277, 2, 0, 52, 3, ⟨"AtTheDoor$Caller", "<init>", "(II)V"⟩, [581, 528, 109]),
  (11, 278, 1, 10, 78, 1, ⟨"AtTheDoor$Caller", "sounds", "(II)I"⟩, [652, 653, 654, 109]),
  (11, 278, 1, 11, 73, 2, ⟨"AtTheDoor$Caller", "sounds", "(II)I"⟩, [652, 655, 653, 656, 657, 113]),
  (11, 278, 1, 12, 75, 2, ⟨"AtTheDoor$Caller", "sounds", "(II)I"⟩, [652, 655, 653, 663, 664, 112]),
  (11, 278, 1, 13, 76, 2, ⟨"AtTheDoor$Caller", "sounds", "(II)I"⟩, [652, 655, 653, 670, 667, 110]),
  (11, 278, 1, 14, 77, 2, ⟨"AtTheDoor$Caller", "sounds", "(II)I"⟩, [652, 655, 653, 671, 672, 114]),
  (11, 278, 1, 15, 74, 2, ⟨"AtTheDoor$Caller", "sounds", "(II)I"⟩, [652, 655, 653, 675, 660, 111]),
  (11, 286, 1, 20, 87, 1, ⟨"AtTheDoor$Text", "value", "(ILAtTheDoor$Scene;II)I"⟩, [713, 714, 715, 104]),
  (11, 293, 1, 21, 86, 1, ⟨"AtTheDoor", "valueOf", "(ILAtTheDoor$Scene;II)I"⟩, [709, 711, 21, 95]),
  (11, 296, 0, 0, 92, 0, ⟨"AtTheDoor", "within", "(III)I"⟩, [731, 732, 95]),
  (11, 306, 1, 10, 71, 1, ⟨"AtTheDoor$Caller", "stays", "(ZZ)Z"⟩, [628, 629, 630, 109]),
  (11, 306, 1, 11, 68, 2, ⟨"AtTheDoor$Caller", "stays", "(ZZ)Z"⟩, [628, 631, 629, 632, 633, 113]),
  (11, 306, 1, 12, 71, 2, ⟨"AtTheDoor$Caller", "stays", "(ZZ)Z"⟩, [628, 631, 629, 639, 629, 109]),
  (11, 306, 1, 13, 71, 2, ⟨"AtTheDoor$Caller", "stays", "(ZZ)Z"⟩, [628, 631, 629, 640, 629, 109]),
  (11, 306, 1, 14, 70, 2, ⟨"AtTheDoor$Caller", "stays", "(ZZ)Z"⟩, [628, 631, 629, 641, 642, 114]),
  (11, 306, 1, 15, 69, 2, ⟨"AtTheDoor$Caller", "stays", "(ZZ)Z"⟩, [628, 631, 629, 647, 636, 111]),
  (11, 310, 1, 21, 85, 1, ⟨"AtTheDoor", "comesOf", "(LAtTheDoor$Scene;LAtTheDoor$Caller;I)I"⟩, [705, 707, 20, 95]),
  (11, 314, 1, 21, 84, 1, ⟨"AtTheDoor", "weightOf", "(LAtTheDoor$Scene;LAtTheDoor$Caller;I)J"⟩, [701, 703, 19, 95]),
  (11, 318, 1, 21, 94, 1, ⟨"AtTheDoor", "worthOf", "(LAtTheDoor$Scene;LAtTheDoor$Caller;I)I"⟩, [739, 741, 24, 95]),
  (11, 324, 0, 0, 99, 0, ⟨"AtTheDoor", "commonDivisor", "(JJ)J"⟩, [758, 759, 95]),
  (11, 41, 2, 0, 3, 4, ⟨"AtTheDoor$Reader", "<init>", "()V"⟩, [169, 97]),
  (11, 78, 2, 0, 5, 4, ⟨"AtTheDoor$Sheet", "<init>", "()V"⟩, [219, 99]),
  (11, 81, 1, 150, 6, 1, ⟨"java/lang/String", "length", "()I"⟩, [237, 238, 239, 100]),
  (11, 91, 1, 150, 8, 1, ⟨"java/lang/String", "charAt", "(I)C"⟩, [247, 248, 249, 100]),
  (11, 95, 1, 19, 13, 1, ⟨"AtTheDoor$Tape", "put", "(I)V"⟩, [285, 286, 287, 98]),
  (13, 102, 1, 22, 224, 1, ⟨"AtTheDoorModel", "fits", "(I)I"⟩, [1425, 1426, 1427, 108]),
  (13, 103, 1, 21, 123, 1, ⟨"AtTheDoor", "laws", "(I)I"⟩, [857, 858, 859, 95]),
  (13, 106, 1, 22, 225, 1, ⟨"AtTheDoorModel", "laws", "(I)I"⟩, [1429, 1430, 1431, 108])]
def px_cs_3 : List (Nat × Nat × Nat × Nat × Nat × Nat × MethodName × List Nat) := [(13, 107, 1, 21, 124, 1, ⟨"AtTheDoor", "drawn", "(II)J"⟩, [861, 862, 863, 95]),
  (13, 110, 1, 22, 226, 1, ⟨"AtTheDoorModel", "drawn", "(II)J"⟩, [1433, 1434, 1435, 108]),
  (13, 111, 1, 21, 127, 1, ⟨"AtTheDoor", "often", "(IIII)J"⟩, [873, 874, 875, 95]),
  (13, 115, 1, 22, 228, 1, ⟨"AtTheDoorModel", "often", "(IIII)J"⟩, [1443, 1444, 1445, 108]),
  (13, 116, 1, 21, 128, 1, ⟨"AtTheDoor", "image", "()I"⟩, [877, 878, 879, 95]),
  (13, 119, 1, 22, 229, 1, ⟨"AtTheDoorModel", "image", "()I"⟩, [1447, 1448, 1449, 108]),
  (13, 12, 2, 0, 141, 3, ⟨"AtTheDoorModel", "<init>", "()V"⟩, [931, 932, 108]),
  (13, 120, 1, 21, 129, 1, ⟨"AtTheDoor", "back", "()I"⟩, [881, 882, 883, 95]),
  (13, 123, 1, 22, 230, 1, ⟨"AtTheDoorModel", "back", "()I"⟩, [1451, 1452, 1453, 108]),
  (13, 124, 1, 21, 130, 1, ⟨"AtTheDoor", "count", "(I)I"⟩, [885, 886, 887, 95]),
  (13, 127, 1, 22, 231, 1, ⟨"AtTheDoorModel", "count", "(I)I"⟩, [1455, 1456, 1457, 108]),
  (13, 128, 1, 21, 131, 1, ⟨"AtTheDoor", "sheet", "(III)I"⟩, [889, 890, 891, 95]),
  (13, 13, 1, 21, 43, 1, ⟨"AtTheDoor", "set", "(III)I"⟩, [490, 491, 492, 95]),
  (13, 131, 1, 22, 232, 1, ⟨"AtTheDoorModel", "sheet", "(III)I"⟩, [1460, 1461, 1462, 108]),
  (13, 132, 1, 21, 134, 1, ⟨"AtTheDoor", "cell", "(III)I"⟩, [900, 901, 902, 95]),
  (13, 135, 1, 22, 233, 1, ⟨"AtTheDoorModel", "cell", "(III)I"⟩, [1466, 1467, 1468, 108]),
  (13, 136, 1, 21, 136, 1, ⟨"AtTheDoor", "copy", "(IIIII)I"⟩, [908, 909, 910, 95]),
  (13, 140, 1, 22, 234, 1, ⟨"AtTheDoorModel", "copy", "(IIIII)I"⟩, [1470, 1471, 1472, 108]),
  (13, 141, 1, 21, 138, 1, ⟨"AtTheDoor", "hears", "(IIII)I"⟩, [917, 918, 919, 95]),
  (13, 145, 1, 22, 235, 1, ⟨"AtTheDoorModel", "hears", "(IIII)I"⟩, [1474, 1475, 1476, 108]),
  (13, 146, 1, 21, 139, 1, ⟨"AtTheDoor", "taken", "(II)I"⟩, [922, 923, 924, 95]),
  (13, 149, 1, 22, 236, 1, ⟨"AtTheDoorModel", "taken", "(II)I"⟩, [1479, 1480, 1481, 108]),
  (13, 17, 1, 22, 143, 1, ⟨"AtTheDoorModel", "set", "(III)I"⟩, [1087, 1088, 1089, 108]),
  (13, 18, 1, 21, 49, 1, ⟨"AtTheDoor", "caller", "(II)I"⟩, [515, 516, 517, 95]),
  (13, 22, 1, 22, 146, 1, ⟨"AtTheDoorModel", "caller", "(II)I"⟩, [1102, 1103, 1104, 108]),
  (13, 23, 1, 21, 57, 1, ⟨"AtTheDoor", "hear", "(I)I"⟩, [585, 586, 587, 95]),
  (13, 27, 1, 22, 147, 1, ⟨"AtTheDoorModel", "hear", "(I)I"⟩, [1106, 1107, 1108, 108]),
  (13, 28, 1, 21, 59, 1, ⟨"AtTheDoor", "hush", "()I"⟩, [593, 594, 595, 95]),
  (13, 32, 1, 22, 148, 1, ⟨"AtTheDoorModel", "hush", "()I"⟩, [1111, 1112, 1113, 108]),
  (13, 33, 1, 21, 60, 1, ⟨"AtTheDoor", "told", "(II)I"⟩, [597, 598, 599, 95]),
  (13, 36, 1, 22, 149, 1, ⟨"AtTheDoorModel", "told", "(II)I"⟩, [1115, 1116, 1117, 108]),
  (13, 37, 1, 21, 79, 1, ⟨"AtTheDoor", "feed", "(I)I"⟩, [680, 681, 682, 95]),
  (13, 40, 1, 22, 153, 1, ⟨"AtTheDoorModel", "feed", "(I)I"⟩, [1132, 1133, 1134, 108]),
  (13, 41, 1, 21, 80, 1, ⟨"AtTheDoor", "text", "()I"⟩, [684, 685, 686, 95]),
  (13, 44, 1, 22, 154, 1, ⟨"AtTheDoorModel", "text", "()I"⟩, [1137, 1138, 1139, 108]),
  (13, 45, 1, 21, 81, 1, ⟨"AtTheDoor", "force", "(I)I"⟩, [688, 689, 690, 95]),
  (13, 48, 1, 22, 201, 1, ⟨"AtTheDoorModel", "force", "(I)I"⟩, [1332, 1333, 1334, 108]),
  (13, 49, 1, 21, 82, 1, ⟨"AtTheDoor", "weight", "(I)J"⟩, [692, 693, 694, 95]),
  (13, 53, 1, 22, 202, 1, ⟨"AtTheDoorModel", "weight", "(I)J"⟩, [1336, 1337, 1338, 108]),
  (13, 54, 1, 21, 95, 1, ⟨"AtTheDoor", "who", "()I"⟩, [743, 744, 745, 95]),
  (13, 57, 1, 22, 206, 1, ⟨"AtTheDoorModel", "who", "()I"⟩, [1352, 1353, 1354, 108]),
  (13, 58, 1, 21, 97, 1, ⟨"AtTheDoor", "odds", "(II)J"⟩, [751, 752, 753, 95]),
  (13, 62, 1, 22, 208, 1, ⟨"AtTheDoorModel", "odds", "(II)J"⟩, [1360, 1361, 1362, 108]),
  (13, 63, 1, 21, 100, 1, ⟨"AtTheDoor", "gain", "(I)J"⟩, [761, 762, 763, 95]),
  (13, 66, 1, 22, 210, 1, ⟨"AtTheDoorModel", "gain", "(I)J"⟩, [1367, 1368, 1369, 108])]
def px_cs_4 : List (Nat × Nat × Nat × Nat × Nat × Nat × MethodName × List Nat) := [(13, 67, 1, 21, 102, 1, ⟨"AtTheDoor", "open", "()I"⟩, [769, 770, 771, 95]),
  (13, 70, 1, 22, 212, 1, ⟨"AtTheDoorModel", "open", "()I"⟩, [1376, 1377, 1378, 108]),
  (13, 71, 1, 21, 103, 1, ⟨"AtTheDoor", "peep", "(II)J"⟩, [773, 774, 775, 95]),
  (13, 74, 1, 22, 213, 1, ⟨"AtTheDoorModel", "peep", "(II)J"⟩, [1380, 1381, 1382, 108]),
  (13, 75, 1, 21, 106, 1, ⟨"AtTheDoor", "tells", "()I"⟩, [788, 789, 790, 95]),
  (13, 78, 1, 22, 214, 1, ⟨"AtTheDoorModel", "tells", "()I"⟩, [1384, 1385, 1386, 108]),
  (13, 79, 1, 21, 108, 1, ⟨"AtTheDoor", "guard", "(I)J"⟩, [797, 798, 799, 95]),
  (13, 82, 1, 22, 215, 1, ⟨"AtTheDoorModel", "guard", "(I)J"⟩, [1389, 1390, 1391, 108]),
  (13, 83, 1, 21, 109, 1, ⟨"AtTheDoor", "home", "(II)J"⟩, [801, 802, 803, 95]),
  (13, 86, 1, 22, 217, 1, ⟨"AtTheDoorModel", "home", "(II)J"⟩, [1397, 1398, 1399, 108]),
  (13, 87, 1, 21, 112, 1, ⟨"AtTheDoor", "cards", "(I)I"⟩, [813, 814, 815, 95]),
  (13, 9, 2, 0, 1, 3, ⟨"AtTheDoor", "<init>", "()V"⟩, [117, 118, 95]),
  (13, 90, 1, 22, 218, 1, ⟨"AtTheDoorModel", "cards", "(I)I"⟩, [1402, 1403, 1404, 108]),
  (13, 91, 1, 21, 118, 1, ⟨"AtTheDoor", "runs", "()I"⟩, [837, 838, 839, 95]),
  (13, 94, 1, 22, 220, 1, ⟨"AtTheDoorModel", "runs", "()I"⟩, [1409, 1410, 1411, 108]),
  (13, 95, 1, 21, 119, 1, ⟨"AtTheDoor", "judge", "(I)I"⟩, [841, 842, 843, 95]),
  (13, 98, 1, 22, 221, 1, ⟨"AtTheDoorModel", "judge", "(I)I"⟩, [1413, 1414, 1415, 108]),
  (13, 99, 1, 21, 122, 1, ⟨"AtTheDoor", "fits", "(I)I"⟩, [853, 854, 855, 95]),
  (12, 118, 1, 22, 150, 1, ⟨"AtTheDoorModel", "sounds", "(III)I"⟩, [1120, 1122, 37, 108]),
  (12, 122, 1, 22, 151, 1, ⟨"AtTheDoorModel", "waits", "(I)I"⟩, [1124, 1126, 38, 108]),
  (12, 126, 1, 22, 152, 1, ⟨"AtTheDoorModel", "stays", "(I)I"⟩, [1128, 1130, 39, 108]),
  (12, 143, 1, 22, 157, 1, ⟨"AtTheDoorModel", "byteAt", "(I)I"⟩, [1149, 1151, 42, 108]),
  (12, 173, 1, 22, 159, 1, ⟨"AtTheDoorModel", "isLetter", "(II)Z"⟩, [1162, 1164, 44, 108]),
  (12, 180, 1, 22, 161, 1, ⟨"AtTheDoorModel", "fail", "()V"⟩, [1170, 1172, 46, 108]),
  (12, 183, 1, 22, 156, 1, ⟨"AtTheDoorModel", "next", "()V"⟩, [1145, 1147, 41, 108]),
  (12, 186, 1, 22, 158, 1, ⟨"AtTheDoorModel", "isWord", "(IIIIIIII)Z"⟩, [1158, 1160, 43, 108]),
  (12, 208, 1, 22, 174, 1, ⟨"AtTheDoorModel", "isSign", "(I)Z"⟩, [1222, 1224, 59, 108]),
  (12, 211, 1, 22, 165, 1, ⟨"AtTheDoorModel", "opens", "()Z"⟩, [1186, 1188, 50, 108]),
  (12, 215, 1, 22, 175, 1, ⟨"AtTheDoorModel", "name", "()I"⟩, [1226, 1228, 60, 108]),
  (12, 219, 1, 22, 173, 1, ⟨"AtTheDoorModel", "atom5", "()I"⟩, [1218, 1220, 58, 108]),
  (12, 222, 1, 22, 172, 1, ⟨"AtTheDoorModel", "term5", "()I"⟩, [1214, 1216, 57, 108]),
  (12, 227, 1, 22, 171, 1, ⟨"AtTheDoorModel", "added5", "()I"⟩, [1210, 1212, 56, 108]),
  (12, 232, 1, 22, 170, 1, ⟨"AtTheDoorModel", "not5", "()I"⟩, [1206, 1208, 55, 108]),
  (12, 235, 1, 22, 180, 1, ⟨"AtTheDoorModel", "both5", "()I"⟩, [1248, 1250, 65, 108]),
  (12, 238, 1, 22, 179, 1, ⟨"AtTheDoorModel", "either5", "()I"⟩, [1244, 1246, 64, 108]),
  (12, 241, 1, 22, 178, 1, ⟨"AtTheDoorModel", "atom4", "()I"⟩, [1240, 1242, 63, 108]),
  (12, 244, 1, 22, 177, 1, ⟨"AtTheDoorModel", "term4", "()I"⟩, [1236, 1238, 62, 108]),
  (12, 247, 1, 22, 176, 1, ⟨"AtTheDoorModel", "added4", "()I"⟩, [1232, 1234, 61, 108]),
  (12, 250, 1, 22, 169, 1, ⟨"AtTheDoorModel", "not4", "()I"⟩, [1202, 1204, 54, 108]),
  (12, 253, 1, 22, 185, 1, ⟨"AtTheDoorModel", "both4", "()I"⟩, [1268, 1270, 70, 108]),
  (12, 256, 1, 22, 184, 1, ⟨"AtTheDoorModel", "either4", "()I"⟩, [1264, 1266, 69, 108]),
  (12, 259, 1, 22, 183, 1, ⟨"AtTheDoorModel", "atom3", "()I"⟩, [1260, 1262, 68, 108]),
  (12, 262, 1, 22, 182, 1, ⟨"AtTheDoorModel", "term3", "()I"⟩, [1256, 1258, 67, 108]),
  (12, 265, 1, 22, 181, 1, ⟨"AtTheDoorModel", "added3", "()I"⟩, [1252, 1254, 66, 108]),
  (12, 268, 1, 22, 168, 1, ⟨"AtTheDoorModel", "not3", "()I"⟩, [1198, 1200, 53, 108])]
def px_cs_5 : List (Nat × Nat × Nat × Nat × Nat × Nat × MethodName × List Nat) := [(12, 271, 1, 22, 190, 1, ⟨"AtTheDoorModel", "both3", "()I"⟩, [1288, 1290, 75, 108]),
  (12, 274, 1, 22, 189, 1, ⟨"AtTheDoorModel", "either3", "()I"⟩, [1284, 1286, 74, 108]),
  (12, 277, 1, 22, 188, 1, ⟨"AtTheDoorModel", "atom2", "()I"⟩, [1280, 1282, 73, 108]),
  (12, 280, 1, 22, 187, 1, ⟨"AtTheDoorModel", "term2", "()I"⟩, [1276, 1278, 72, 108]),
  (12, 283, 1, 22, 186, 1, ⟨"AtTheDoorModel", "added2", "()I"⟩, [1272, 1274, 71, 108]),
  (12, 286, 1, 22, 167, 1, ⟨"AtTheDoorModel", "not2", "()I"⟩, [1194, 1196, 52, 108]),
  (12, 289, 1, 22, 195, 1, ⟨"AtTheDoorModel", "both2", "()I"⟩, [1308, 1310, 80, 108]),
  (12, 292, 1, 22, 194, 1, ⟨"AtTheDoorModel", "either2", "()I"⟩, [1304, 1306, 79, 108]),
  (12, 295, 1, 22, 193, 1, ⟨"AtTheDoorModel", "atom1", "()I"⟩, [1300, 1302, 78, 108]),
  (12, 298, 1, 22, 192, 1, ⟨"AtTheDoorModel", "term1", "()I"⟩, [1296, 1298, 77, 108]),
  (12, 301, 1, 22, 191, 1, ⟨"AtTheDoorModel", "added1", "()I"⟩, [1292, 1294, 76, 108]),
  (12, 304, 1, 22, 166, 1, ⟨"AtTheDoorModel", "not1", "()I"⟩, [1190, 1192, 51, 108]),
  (12, 307, 1, 22, 200, 1, ⟨"AtTheDoorModel", "both1", "()I"⟩, [1328, 1330, 85, 108]),
  (12, 310, 1, 22, 199, 1, ⟨"AtTheDoorModel", "either1", "()I"⟩, [1324, 1326, 84, 108]),
  (12, 313, 1, 22, 198, 1, ⟨"AtTheDoorModel", "atom0", "()I"⟩, [1320, 1322, 83, 108]),
  (12, 316, 1, 22, 197, 1, ⟨"AtTheDoorModel", "term0", "()I"⟩, [1316, 1318, 82, 108]),
  (12, 319, 1, 22, 196, 1, ⟨"AtTheDoorModel", "added0", "()I"⟩, [1312, 1314, 81, 108]),
  (12, 322, 1, 22, 164, 1, ⟨"AtTheDoorModel", "not0", "()I"⟩, [1182, 1184, 49, 108]),
  (12, 325, 1, 22, 163, 1, ⟨"AtTheDoorModel", "both0", "()I"⟩, [1178, 1180, 48, 108]),
  (12, 328, 1, 22, 162, 1, ⟨"AtTheDoorModel", "either0", "()I"⟩, [1174, 1176, 47, 108]),
  (12, 331, 1, 22, 160, 1, ⟨"AtTheDoorModel", "part", "(Z)I"⟩, [1166, 1168, 45, 108]),
  (12, 335, 1, 22, 155, 1, ⟨"AtTheDoorModel", "read", "(II)I"⟩, [1141, 1143, 40, 108]),
  (12, 342, 0, 0, 205, 0, ⟨"AtTheDoorModel", "within", "(III)I"⟩, [1349, 1350, 108]),
  (12, 348, 1, 22, 204, 1, ⟨"AtTheDoorModel", "says", "(III)I"⟩, [1345, 1347, 87, 108]),
  (12, 353, 1, 22, 203, 1, ⟨"AtTheDoorModel", "gathers", "()V"⟩, [1341, 1343, 86, 108]),
  (12, 356, 1, 22, 207, 1, ⟨"AtTheDoorModel", "likeliest", "()I"⟩, [1356, 1358, 88, 108]),
  (12, 359, 0, 0, 209, 0, ⟨"AtTheDoorModel", "lowest", "(JJI)J"⟩, [1364, 1365, 108]),
  (12, 365, 1, 22, 211, 1, ⟨"AtTheDoorModel", "gainAt", "(I)J"⟩, [1372, 1374, 89, 108]),
  (12, 369, 1, 22, 206, 1, ⟨"AtTheDoorModel", "who", "()I"⟩, [1388, 1353, 1354, 108]),
  (12, 372, 1, 22, 216, 1, ⟨"AtTheDoorModel", "gainWith", "(II)J"⟩, [1393, 1395, 90, 108]),
  (12, 378, 0, 0, 219, 0, ⟨"AtTheDoorModel", "isSheet", "(I)Z"⟩, [1406, 1407, 108]),
  (12, 384, 1, 22, 222, 1, ⟨"AtTheDoorModel", "signsBad", "(I)I"⟩, [1417, 1419, 91, 108]),
  (12, 387, 1, 22, 223, 1, ⟨"AtTheDoorModel", "hearsAlone", "(II)V"⟩, [1421, 1423, 92, 108]),
  (12, 400, 1, 22, 227, 1, ⟨"AtTheDoorModel", "draws", "(III)V"⟩, [1438, 1440, 93, 108]),
  (12, 413, 1, 22, 147, 1, ⟨"AtTheDoorModel", "hear", "(I)I"⟩, [1478, 1107, 1108, 108]),
  (12, 416, 0, 0, 237, 0, ⟨"AtTheDoorModel", "over", "(I)I"⟩, [1483, 1484, 108]),
  (12, 76, 1, 22, 142, 1, ⟨"AtTheDoorModel", "spell", "(IIIIIIIII)V"⟩, [935, 937, 35, 108]),
  (12, 86, 0, 0, 144, 0, ⟨"AtTheDoorModel", "in", "(JJJ)Z"⟩, [1092, 1093, 108]),
  (12, 92, 1, 22, 145, 1, ⟨"AtTheDoorModel", "isOne", "(I)Z"⟩, [1095, 1097, 36, 108]),
  (14, 1059, 0, 0, 12, 0, ⟨"jdk/internal/util/Preconditions", "checkIndex", "(IILjava/util/function/BiFunction;)I"⟩, [263, 264, 102]),
  (14, 335, 1, 150, 7, 1, ⟨"java/lang/String", "coder", "()B"⟩, [241, 242, 243, 100]),
  (14, 492, 1, 150, 9, 1, ⟨"java/lang/String", "isLatin1", "()Z"⟩, [251, 252, 253, 100]),
  (14, 495, 0, 0, 10, 0, ⟨"java/lang/StringLatin1", "charAt", "([BI)C"⟩, [255, 256, 101]),
  (15, 9, 0, 0, 11, 0, ⟨"java/lang/String", "checkIndex", "(II)V"⟩, [258, 259, 100])]
def px_cs : List (Nat × Nat × Nat × Nat × Nat × Nat × MethodName × List Nat) := px_cs_0 ++ px_cs_1 ++ px_cs_2 ++ px_cs_3 ++ px_cs_4 ++ px_cs_5
def px_nest : List (String × Nat × MethodName × String) := [("AtTheDoor", 21, ⟨"AtTheDoor$Scene", "<init>", "()V"⟩, "AtTheDoor"), ("AtTheDoor", 41, ⟨"AtTheDoor$Reader", "<init>", "()V"⟩, "AtTheDoor"), ("AtTheDoor", 78, ⟨"AtTheDoor$Sheet", "<init>", "()V"⟩, "AtTheDoor"), ("AtTheDoor$Reader", 11, ⟨"AtTheDoor$Tape", "<init>", "()V"⟩, "AtTheDoor")]
def px_ne : List (Nat × Nat × Nat × List Nat) := [(11, 9, 0, [123, 580, 109]), (11, 19, 7, [125, 126, 96]), (11, 39, 6, [166, 167, 97]), (11, 55, 8, [215, 217, 99]), (11, 261, 3, [522, 523, 110]), (11, 265, 5, [544, 545, 111]), (11, 268, 2, [553, 554, 112]), (11, 271, 1, [562, 563, 113]), (11, 274, 4, [571, 572, 114]), (6, 9, 9, [172, 173, 98]), (6, 45, 10, [405, 406, 104]), (13, 7, 11, [115, 116, 95]), (13, 10, 12, [929, 930, 108])]
def px_ae : List (Nat × Nat × Nat × String × List Nat) := [(11, 9, 104, "AtTheDoor$Caller", [123]), (11, 46, 105, "AtTheDoor$Text", [213]), (11, 55, 106, "AtTheDoor$Sheet", [215])]
def px_ie : List (Nat × Nat × Nat × Nat × String × List Nat) := [(11, 261, 10, 0, "AtTheDoor$Post", [522]), (11, 261, 11, 0, "AtTheDoor$Post", [522]), (11, 261, 12, 1, "AtTheDoor$Post", [522]), (11, 261, 13, 1, "AtTheDoor$Post", [522]), (11, 261, 14, 1, "AtTheDoor$Post", [522]), (11, 261, 15, 0, "AtTheDoor$Post", [522]), (11, 265, 10, 0, "AtTheDoor$Quiet", [544]), (11, 265, 11, 1, "AtTheDoor$Quiet", [544]), (11, 265, 12, 0, "AtTheDoor$Quiet", [544]), (11, 265, 13, 0, "AtTheDoor$Quiet", [544]), (11, 265, 14, 0, "AtTheDoor$Quiet", [544]), (11, 265, 15, 1, "AtTheDoor$Quiet", [544]), (11, 268, 10, 0, "AtTheDoor$Parcel", [553]), (11, 268, 11, 0, "AtTheDoor$Parcel", [553]), (11, 268, 12, 1, "AtTheDoor$Parcel", [553]), (11, 268, 13, 0, "AtTheDoor$Parcel", [553]), (11, 268, 14, 0, "AtTheDoor$Parcel", [553]), (11, 268, 15, 0, "AtTheDoor$Parcel", [553]), (11, 271, 10, 0, "AtTheDoor$Child", [562]), (11, 271, 11, 1, "AtTheDoor$Child", [562]), (11, 271, 12, 0, "AtTheDoor$Child", [562]), (11, 271, 13, 0, "AtTheDoor$Child", [562]), (11, 271, 14, 0, "AtTheDoor$Child", [562]), (11, 271, 15, 0, "AtTheDoor$Child", [562]), (11, 274, 10, 0, "AtTheDoor$Pressing", [571]), (11, 274, 11, 0, "AtTheDoor$Pressing", [571]), (11, 274, 12, 0, "AtTheDoor$Pressing", [571]), (11, 274, 13, 0, "AtTheDoor$Pressing", [571]), (11, 274, 14, 1, "AtTheDoor$Pressing", [571]), (11, 274, 15, 0, "AtTheDoor$Pressing", [571])]
def px_le : List (Nat × Nat × Int32 × List Nat) := [(11, 327, 1103515245, [868]), (12, 397, 1103515245, [1442])]
def px_l2 : List (Nat × Nat × Int64 × List Nat) := [(11, 167, (-4611686018427387904), [696]), (12, 90, 5, [1091]), (12, 96, 23, [1099]), (12, 98, 6, [1100]), (12, 100, 9, [1101]), (12, 111, 3, [1110]), (12, 116, 7, [1119]), (12, 129, 255, [1136]), (12, 152, 97, [1153]), (12, 154, 122, [1154]), (12, 156, 48, [1155]), (12, 158, 57, [1156]), (12, 164, 10, [1157]), (12, 225, 43, [1230]), (12, 230, 60, [1231]), (12, 351, (-4611686018427387904), [1340]), (12, 363, 20, [1371]), (12, 376, 24, [1401]), (12, 398, 30, [1437]), (12, 407, 15, [1459]), (12, 409, (-1), [1464]), (12, 411, 2, [1465])]
def px_se : List (Nat × Nat × String × String) := [(11, 79, "AtTheDoor", "comes 10 + hour ; worth 5 - sort * 2 ; costs 1 ;"), (9, 62, "AtTheDoor$Tape", "hour"), (9, 68, "AtTheDoor$Tape", "day"), (9, 70, "AtTheDoor$Tape", "sort"), (9, 72, "AtTheDoor$Tape", "home"), (9, 74, "AtTheDoor$Tape", "signs"), (9, 76, "AtTheDoor$Tape", "who"), (9, 78, "AtTheDoor$Tape", "or"), (9, 80, "AtTheDoor$Tape", "and"), (9, 82, "AtTheDoor$Tape", "not"), (9, 84, "AtTheDoor$Tape", "comes"), (9, 86, "AtTheDoor$Tape", "worth"), (9, 88, "AtTheDoor$Tape", "costs")]
def px_ge : List (Nat × Nat × Nat × List Nat) := [(11, 105, 1, [494]), (14, 38, 0, [245]), (14, 1053, 2, [261])]
def px_gn (k : Nat) : String × String × String := match k with
  | 0 => ("java/lang/String", "COMPACT_STRINGS", "Z")
  | 1 => ("AtTheDoor", "HOUSE_BOUNDS", "[I")
  | _ => ("jdk/internal/util/Preconditions", "SIOOBE_FORMATTER", "Ljava/util/function/BiFunction;")
def px_fs : List (Nat × Nat × Nat × List Nat) := [(14, 9, 0, [1498]), (14, 15, 1, [1499])]
def px_ke : List (Nat × Nat × List Nat) := [(11, 248, [916, 422, 421, 107]), (7, 37, [796, 422, 421, 107]), (18, 150, [420, 422, 421, 107])]
def px_oe : List (Nat × Nat × List Nat) := [(11, 1, [120, 121]), (0, 1, [530, 121]), (6, 3, [171, 121]), (7, 3, [130, 121]), (8, 3, [221, 121]), (9, 3, [177, 121]), (10, 3, [426, 121]), (12, 7, [934, 121])]
def px_me : List (Nat × Nat × Nat × List Nat) := [(11, 281, 0, [677, 678, 106]), (11, 290, 1, [734, 418, 106]), (11, 321, 2, [781, 782, 106]), (18, 304, 1, [417, 418, 106])]
def px_mp (b : Nat) : Nat := match b with
  | 0 => 679
  | 1 => 419
  | _ => 783
def px_op : Nat := 122
def px_cast : List (String × String) := [("AtTheDoor$Parcel", "AtTheDoor$Post"), ("AtTheDoor$Pressing", "AtTheDoor$Post"), ("AtTheDoor$Child", "AtTheDoor$Quiet"), ("AtTheDoor$Post", "AtTheDoor$Caller"), ("AtTheDoor$Quiet", "AtTheDoor$Caller"), ("AtTheDoor$Parcel", "AtTheDoor$Caller"), ("AtTheDoor$Child", "AtTheDoor$Caller"), ("AtTheDoor$Pressing", "AtTheDoor$Caller")]
def px_ncast : List (String × String) := [("AtTheDoor$Caller", "AtTheDoor$Child"), ("AtTheDoor$Caller", "AtTheDoor$Parcel"), ("AtTheDoor$Caller", "AtTheDoor$Post"), ("AtTheDoor$Caller", "AtTheDoor$Pressing"), ("AtTheDoor$Caller", "AtTheDoor$Quiet"), ("AtTheDoor$Child", "AtTheDoor$Parcel"), ("AtTheDoor$Child", "AtTheDoor$Post"), ("AtTheDoor$Child", "AtTheDoor$Pressing"), ("AtTheDoor$Parcel", "AtTheDoor$Child"), ("AtTheDoor$Parcel", "AtTheDoor$Pressing"), ("AtTheDoor$Parcel", "AtTheDoor$Quiet"), ("AtTheDoor$Post", "AtTheDoor$Child"), ("AtTheDoor$Post", "AtTheDoor$Parcel"), ("AtTheDoor$Post", "AtTheDoor$Pressing"), ("AtTheDoor$Post", "AtTheDoor$Quiet"), ("AtTheDoor$Pressing", "AtTheDoor$Child"), ("AtTheDoor$Pressing", "AtTheDoor$Parcel"), ("AtTheDoor$Pressing", "AtTheDoor$Quiet"), ("AtTheDoor$Quiet", "AtTheDoor$Child"), ("AtTheDoor$Quiet", "AtTheDoor$Parcel"), ("AtTheDoor$Quiet", "AtTheDoor$Post"), ("AtTheDoor$Quiet", "AtTheDoor$Pressing")]
