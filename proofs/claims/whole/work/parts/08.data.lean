/-! Printed by wip/p1/gen.py out of javap's listing and the Statement's tables: the classes and their fields, the String constants, the methods and the instructions of theirs that a first call on a fresh object reaches -/
def ev_R0 : String := "PathProver"
def ev_T0 : u_T := fun k => match k with
  | 0 => ("PathProver", "tape", "[B", false)
  | 1 => ("PathProver", "length", "I", false)
  | 2 => ("PathProver", "place", "I", false)
  | 3 => ("PathProver", "hasModel", "Z", false)
  | 4 => ("PathProver", "model", "LPathProver$Model;", false)
  | 5 => ("PathProver", "spare", "LPathProver$Model;", false)
  | 6 => ("PathProver", "parser", "LPathProver$Parser;", true)
  | 7 => ("PathProver", "judge", "LPathProver$Judge;", true)
  | 8 => ("PathProver", "space", "LPathProver$Space;", true)
  | 9 => ("PathProver", "relation", "LPathProver$Relation;", true)
  | 10 => ("PathProver", "graph", "LPathProver$Graph;", true)
  | 11 => ("PathProver", "prover", "LPathProver$Prover;", true)
  | 12 => ("PathProver", "isReady", "Z", false)
  | _ => ("PathProver", "current", "I", false)
def ev_Y0 : Nat → FieldType := fun k => match k with
  | 0 => (.array .byte)
  | 1 => .int
  | 2 => .int
  | 3 => .boolean
  | 4 => (.object "PathProver$Model")
  | 5 => (.object "PathProver$Model")
  | 6 => (.object "PathProver$Parser")
  | 7 => (.object "PathProver$Judge")
  | 8 => (.object "PathProver$Space")
  | 9 => (.object "PathProver$Relation")
  | 10 => (.object "PathProver$Graph")
  | 11 => (.object "PathProver$Prover")
  | 12 => .boolean
  | _ => .int
def ev_R1 : String := "PathProverModel"
def ev_T1 : u_T := fun k => match k with
  | 0 => ("PathProverModel", "failed", "I", false)
  | 1 => ("PathProverModel", "tape", "[B", true)
  | 2 => ("PathProverModel", "taped", "I", false)
  | 3 => ("PathProverModel", "place", "I", false)
  | 4 => ("PathProverModel", "sign", "[Ljava/lang/String;", true)
  | 5 => ("PathProverModel", "keptWords", "[Ljava/lang/String;", true)
  | 6 => ("PathProverModel", "at", "I", false)
  | 7 => ("PathProverModel", "token", "I", false)
  | 8 => ("PathProverModel", "from", "I", false)
  | 9 => ("PathProverModel", "to", "I", false)
  | 10 => ("PathProverModel", "number", "I", false)
  | 11 => ("PathProverModel", "word", "Ljava/lang/String;", false)
  | 12 => ("PathProverModel", "depth", "I", false)
  | 13 => ("PathProverModel", "pathNames", "[Ljava/lang/String;", false)
  | 14 => ("PathProverModel", "texts", "[LPathProverModel$Module;", false)
  | 15 => ("PathProverModel", "textCount", "I", false)
  | 16 => ("PathProverModel", "symbols", "[Ljava/lang/String;", false)
  | 17 => ("PathProverModel", "symbolCount", "I", false)
  | 18 => ("PathProverModel", "m", "LPathProverModel$Model;", false)
  | 19 => ("PathProverModel", "foundVariable", "I", false)
  | 20 => ("PathProverModel", "foundSymbol", "I", false)
  | 21 => ("PathProverModel", "foundStanding", "I", false)
  | 22 => ("PathProverModel", "order", "[I", false)
  | 23 => ("PathProverModel", "ordered", "I", false)
  | 24 => ("PathProverModel", "met", "[B", false)
  | 25 => ("PathProverModel", "begun", "[I", false)
  | 26 => ("PathProverModel", "heights", "[I", false)
  | 27 => ("PathProverModel", "sorts", "[I", false)
  | 28 => ("PathProverModel", "states", "I", false)
  | 29 => ("PathProverModel", "weights", "[I", false)
  | 30 => ("PathProverModel", "here", "[I", false)
  | 31 => ("PathProverModel", "there", "[I", false)
  | 32 => ("PathProverModel", "allowed", "LPathProverModel$Bits;", true)
  | 33 => ("PathProverModel", "initial", "LPathProverModel$Bits;", true)
  | 34 => ("PathProverModel", "fairStates", "LPathProverModel$Bits;", true)
  | 35 => ("PathProverModel", "reached", "LPathProverModel$Bits;", true)
  | 36 => ("PathProverModel", "current", "I", false)
  | 37 => ("PathProverModel", "shown", "[I", false)
  | 38 => ("PathProverModel", "shownSize", "I", false)
  | 39 => ("PathProverModel", "loop", "I", false)
  | 40 => ("PathProverModel", "kept", "[I", false)
  | 41 => ("PathProverModel", "keptAt", "[J", false)
  | 42 => ("PathProverModel", "stamp", "J", false)
  | 43 => ("PathProverModel", "starts", "[I", false)
  | 44 => ("PathProverModel", "edges", "[I", true)
  | 45 => ("PathProverModel", "big", "Z", false)
  | 46 => ("PathProverModel", "edge", "I", false)
  | 47 => ("PathProverModel", "lastEdge", "I", false)
  | 48 => ("PathProverModel", "from1", "I", false)
  | 49 => ("PathProverModel", "may", "[[Z", false)
  | 50 => ("PathProverModel", "anyTrans", "Z", false)
  | 51 => ("PathProverModel", "rows", "[LPathProverModel$Bits;", false)
  | 52 => ("PathProverModel", "rowCount", "I", false)
  | 53 => ("PathProverModel", "distances", "[I", false)
  | 54 => ("PathProverModel", "path", "[I", false)
  | 55 => ("PathProverModel", "pathSize", "I", false)
  | _ => ("PathProverModel", "loopAt", "I", false)
def ev_Y1 : Nat → FieldType := fun k => match k with
  | 0 => .int
  | 1 => (.array .byte)
  | 2 => .int
  | 3 => .int
  | 4 => (.array (.object "java/lang/String"))
  | 5 => (.array (.object "java/lang/String"))
  | 6 => .int
  | 7 => .int
  | 8 => .int
  | 9 => .int
  | 10 => .int
  | 11 => (.object "java/lang/String")
  | 12 => .int
  | 13 => (.array (.object "java/lang/String"))
  | 14 => (.array (.object "PathProverModel$Module"))
  | 15 => .int
  | 16 => (.array (.object "java/lang/String"))
  | 17 => .int
  | 18 => (.object "PathProverModel$Model")
  | 19 => .int
  | 20 => .int
  | 21 => .int
  | 22 => (.array .int)
  | 23 => .int
  | 24 => (.array .byte)
  | 25 => (.array .int)
  | 26 => (.array .int)
  | 27 => (.array .int)
  | 28 => .int
  | 29 => (.array .int)
  | 30 => (.array .int)
  | 31 => (.array .int)
  | 32 => (.object "PathProverModel$Bits")
  | 33 => (.object "PathProverModel$Bits")
  | 34 => (.object "PathProverModel$Bits")
  | 35 => (.object "PathProverModel$Bits")
  | 36 => .int
  | 37 => (.array .int)
  | 38 => .int
  | 39 => .int
  | 40 => (.array .int)
  | 41 => (.array .long)
  | 42 => .long
  | 43 => (.array .int)
  | 44 => (.array .int)
  | 45 => .boolean
  | 46 => .int
  | 47 => .int
  | 48 => .int
  | 49 => (.array (.array .boolean))
  | 50 => .boolean
  | 51 => (.array (.object "PathProverModel$Bits"))
  | 52 => .int
  | 53 => (.array .int)
  | 54 => (.array .int)
  | 55 => .int
  | _ => .int
def ev_R2 : String := "PathProver$Graph"
def ev_T2 : u_T := fun k => match k with
  | 0 => ("PathProver$Graph", "space", "LPathProver$Space;", true)
  | 1 => ("PathProver$Graph", "relation", "LPathProver$Relation;", true)
  | 2 => ("PathProver$Graph", "fairStates", "[J", true)
  | 3 => ("PathProver$Graph", "reached", "[J", true)
  | 4 => ("PathProver$Graph", "unseen", "[J", true)
  | 5 => ("PathProver$Graph", "piled", "[J", true)
  | 6 => ("PathProver$Graph", "around", "[J", true)
  | 7 => ("PathProver$Graph", "among", "[J", true)
  | 8 => ("PathProver$Graph", "goal", "[J", false)
  | 9 => ("PathProver$Graph", "endless", "Z", false)
  | 10 => ("PathProver$Graph", "nodes", "[I", false)
  | 11 => ("PathProver$Graph", "members", "[I", false)
  | 12 => ("PathProver$Graph", "queue", "[I", false)
  | 13 => ("PathProver$Graph", "parent", "[I", false)
  | 14 => ("PathProver$Graph", "job", "I", false)
  | 15 => ("PathProver$Graph", "wanted", "I", false)
  | 16 => ("PathProver$Graph", "cursor", "I", false)
  | 17 => ("PathProver$Graph", "head", "I", false)
  | 18 => ("PathProver$Graph", "tail", "I", false)
  | 19 => ("PathProver$Graph", "told", "I", false)
  | 20 => ("PathProver$Graph", "pathSize", "I", false)
  | 21 => ("PathProver$Graph", "pileSize", "I", false)
  | _ => ("PathProver$Graph", "entered", "I", false)
def ev_Y2 : Nat → FieldType := fun k => match k with
  | 0 => (.object "PathProver$Space")
  | 1 => (.object "PathProver$Relation")
  | 2 => (.array .long)
  | 3 => (.array .long)
  | 4 => (.array .long)
  | 5 => (.array .long)
  | 6 => (.array .long)
  | 7 => (.array .long)
  | 8 => (.array .long)
  | 9 => .boolean
  | 10 => (.array .int)
  | 11 => (.array .int)
  | 12 => (.array .int)
  | 13 => (.array .int)
  | 14 => .int
  | 15 => .int
  | 16 => .int
  | 17 => .int
  | 18 => .int
  | 19 => .int
  | 20 => .int
  | 21 => .int
  | _ => .int
def ev_R3 : String := "PathProver$Judge"
def ev_T3 : u_T := fun k => match k with
  | 0 => ("PathProver$Judge", "sound", "LPathProver$Sound;", true)
  | 1 => ("PathProver$Judge", "open", "LPathProver$Rows;", true)
  | 2 => ("PathProver$Judge", "stack", "[I", false)
  | _ => ("PathProver$Judge", "model", "LPathProver$Model;", false)
def ev_Y3 : Nat → FieldType := fun k => match k with
  | 0 => (.object "PathProver$Sound")
  | 1 => (.object "PathProver$Rows")
  | 2 => (.array .int)
  | _ => (.object "PathProver$Model")
def ev_R4 : String := "PathProver$Lexer"
def ev_T4 : u_T := fun k => match k with
  | 0 => ("PathProver$Lexer", "tape", "[B", false)
  | 1 => ("PathProver$Lexer", "length", "I", false)
  | 2 => ("PathProver$Lexer", "at", "I", false)
  | 3 => ("PathProver$Lexer", "kind", "I", false)
  | 4 => ("PathProver$Lexer", "datum", "I", false)
  | 5 => ("PathProver$Lexer", "tokens", "LPathProver$Rows;", true)
  | 6 => ("PathProver$Lexer", "known", "[B", true)
  | 7 => ("PathProver$Lexer", "letters", "[B", false)
  | 8 => ("PathProver$Lexer", "lettersUsed", "I", false)
  | 9 => ("PathProver$Lexer", "words", "LPathProver$Rows;", true)
  | 10 => ("PathProver$Lexer", "heads", "[I", true)
  | _ => ("PathProver$Lexer", "symbols", "I", false)
def ev_Y4 : Nat → FieldType := fun k => match k with
  | 0 => (.array .byte)
  | 1 => .int
  | 2 => .int
  | 3 => .int
  | 4 => .int
  | 5 => (.object "PathProver$Rows")
  | 6 => (.array .byte)
  | 7 => (.array .byte)
  | 8 => .int
  | 9 => (.object "PathProver$Rows")
  | 10 => (.array .int)
  | _ => .int
def ev_R5 : String := "PathProver$Machine"
def ev_T5 : u_T := fun k => match k with
  | 0 => ("PathProver$Machine", "space", "LPathProver$Space;", false)
  | 1 => ("PathProver$Machine", "program", "LPathProver$Rows;", true)
  | 2 => ("PathProver$Machine", "sides", "LPathProver$Rows;", true)
  | 3 => ("PathProver$Machine", "slotOf", "[I", false)
  | 4 => ("PathProver$Machine", "mask", "I", false)
  | 5 => ("PathProver$Machine", "choiceParts", "I", false)
  | 6 => ("PathProver$Machine", "widestChoice", "I", false)
  | 7 => ("PathProver$Machine", "openSlot", "I", false)
  | 8 => ("PathProver$Machine", "cells", "[I", false)
  | 9 => ("PathProver$Machine", "left", "[I", true)
  | 10 => ("PathProver$Machine", "right", "[I", true)
  | 11 => ("PathProver$Machine", "made", "[I", true)
  | 12 => ("PathProver$Machine", "wide", "[I", false)
  | 13 => ("PathProver$Machine", "items", "[I", false)
  | 14 => ("PathProver$Machine", "top", "I", false)
  | 15 => ("PathProver$Machine", "setFrom", "[I", false)
  | 16 => ("PathProver$Machine", "setCount", "I", false)
  | 17 => ("PathProver$Machine", "width", "I", false)
  | 18 => ("PathProver$Machine", "lanes", "I", false)
  | 19 => ("PathProver$Machine", "at", "I", false)
  | 20 => ("PathProver$Machine", "total", "I", false)
  | _ => ("PathProver$Machine", "stale", "Z", false)
def ev_Y5 : Nat → FieldType := fun k => match k with
  | 0 => (.object "PathProver$Space")
  | 1 => (.object "PathProver$Rows")
  | 2 => (.object "PathProver$Rows")
  | 3 => (.array .int)
  | 4 => .int
  | 5 => .int
  | 6 => .int
  | 7 => .int
  | 8 => (.array .int)
  | 9 => (.array .int)
  | 10 => (.array .int)
  | 11 => (.array .int)
  | 12 => (.array .int)
  | 13 => (.array .int)
  | 14 => .int
  | 15 => (.array .int)
  | 16 => .int
  | 17 => .int
  | 18 => .int
  | 19 => .int
  | 20 => .int
  | _ => .boolean
def ev_R6 : String := "PathProver$Model"
def ev_T6 : u_T := fun k => match k with
  | 0 => ("PathProver$Model", "code", "LPathProver$Rows;", true)
  | 1 => ("PathProver$Model", "modules", "LPathProver$Rows;", true)
  | 2 => ("PathProver$Model", "params", "LPathProver$Rows;", true)
  | 3 => ("PathProver$Model", "vars", "LPathProver$Rows;", true)
  | 4 => ("PathProver$Model", "values", "LPathProver$Rows;", true)
  | 5 => ("PathProver$Model", "given", "LPathProver$Rows;", true)
  | 6 => ("PathProver$Model", "defs", "LPathProver$Rows;", true)
  | 7 => ("PathProver$Model", "lines", "LPathProver$Rows;", true)
  | 8 => ("PathProver$Model", "claims", "LPathProver$Rows;", true)
  | 9 => ("PathProver$Model", "refs", "LPathProver$Rows;", true)
  | 10 => ("PathProver$Model", "steps", "LPathProver$Rows;", true)
  | 11 => ("PathProver$Model", "instances", "LPathProver$Rows;", true)
  | 12 => ("PathProver$Model", "slots", "LPathProver$Rows;", true)
  | 13 => ("PathProver$Model", "entries", "LPathProver$Rows;", true)
  | 14 => ("PathProver$Model", "order", "LPathProver$Rows;", true)
  | 15 => ("PathProver$Model", "variables", "LPathProver$Rows;", true)
  | 16 => ("PathProver$Model", "fairs", "LPathProver$Rows;", true)
  | 17 => ("PathProver$Model", "specs", "LPathProver$Rows;", true)
  | _ => ("PathProver$Model", "open", "LPathProver$Rows;", true)
def ev_Y6 : Nat → FieldType := fun k => match k with
  | 0 => (.object "PathProver$Rows")
  | 1 => (.object "PathProver$Rows")
  | 2 => (.object "PathProver$Rows")
  | 3 => (.object "PathProver$Rows")
  | 4 => (.object "PathProver$Rows")
  | 5 => (.object "PathProver$Rows")
  | 6 => (.object "PathProver$Rows")
  | 7 => (.object "PathProver$Rows")
  | 8 => (.object "PathProver$Rows")
  | 9 => (.object "PathProver$Rows")
  | 10 => (.object "PathProver$Rows")
  | 11 => (.object "PathProver$Rows")
  | 12 => (.object "PathProver$Rows")
  | 13 => (.object "PathProver$Rows")
  | 14 => (.object "PathProver$Rows")
  | 15 => (.object "PathProver$Rows")
  | 16 => (.object "PathProver$Rows")
  | 17 => (.object "PathProver$Rows")
  | _ => (.object "PathProver$Rows")
def ev_R7 : String := "PathProver$Parser"
def ev_T7 : u_T := fun k => match k with
  | 0 => ("PathProver$Parser", "lexer", "LPathProver$Lexer;", true)
  | 1 => ("PathProver$Parser", "stack", "LPathProver$Rows;", true)
  | 2 => ("PathProver$Parser", "model", "LPathProver$Model;", false)
  | 3 => ("PathProver$Parser", "at", "I", false)
  | 4 => ("PathProver$Parser", "kind", "I", false)
  | 5 => ("PathProver$Parser", "datum", "I", false)
  | 6 => ("PathProver$Parser", "mode", "I", false)
  | 7 => ("PathProver$Parser", "cap", "I", false)
  | 8 => ("PathProver$Parser", "open", "I", false)
  | 9 => ("PathProver$Parser", "from", "I", false)
  | 10 => ("PathProver$Parser", "name", "I", false)
  | _ => ("PathProver$Parser", "form", "I", false)
def ev_Y7 : Nat → FieldType := fun k => match k with
  | 0 => (.object "PathProver$Lexer")
  | 1 => (.object "PathProver$Rows")
  | 2 => (.object "PathProver$Model")
  | 3 => .int
  | 4 => .int
  | 5 => .int
  | 6 => .int
  | 7 => .int
  | 8 => .int
  | 9 => .int
  | 10 => .int
  | _ => .int
def ev_R8 : String := "PathProver$Prover"
def ev_T8 : u_T := fun k => match k with
  | 0 => ("PathProver$Prover", "space", "LPathProver$Space;", true)
  | 1 => ("PathProver$Prover", "graph", "LPathProver$Graph;", true)
  | 2 => ("PathProver$Prover", "items", "LPathProver$Rows;", true)
  | 3 => ("PathProver$Prover", "sets", "[[J", true)
  | 4 => ("PathProver$Prover", "setCount", "I", false)
  | 5 => ("PathProver$Prover", "spare", "[J", true)
  | 6 => ("PathProver$Prover", "kept", "[[J", true)
  | 7 => ("PathProver$Prover", "keptSpec", "[I", true)
  | 8 => ("PathProver$Prover", "trail", "[I", true)
  | 9 => ("PathProver$Prover", "shown", "[I", true)
  | 10 => ("PathProver$Prover", "trailCount", "I", false)
  | 11 => ("PathProver$Prover", "shownCount", "I", false)
  | 12 => ("PathProver$Prover", "loop", "I", false)
  | 13 => ("PathProver$Prover", "strayPaths", "I", false)
  | 14 => ("PathProver$Prover", "task", "I", false)
  | 15 => ("PathProver$Prover", "asked", "I", false)
  | 16 => ("PathProver$Prover", "at", "I", false)
  | 17 => ("PathProver$Prover", "stop", "I", false)
  | 18 => ("PathProver$Prover", "where", "I", false)
  | 19 => ("PathProver$Prover", "into", "I", false)
  | 20 => ("PathProver$Prover", "stage", "I", false)
  | 21 => ("PathProver$Prover", "begun", "I", false)
  | _ => ("PathProver$Prover", "truth", "[J", false)
def ev_Y8 : Nat → FieldType := fun k => match k with
  | 0 => (.object "PathProver$Space")
  | 1 => (.object "PathProver$Graph")
  | 2 => (.object "PathProver$Rows")
  | 3 => (.array (.array .long))
  | 4 => .int
  | 5 => (.array .long)
  | 6 => (.array (.array .long))
  | 7 => (.array .int)
  | 8 => (.array .int)
  | 9 => (.array .int)
  | 10 => .int
  | 11 => .int
  | 12 => .int
  | 13 => .int
  | 14 => .int
  | 15 => .int
  | 16 => .int
  | 17 => .int
  | 18 => .int
  | 19 => .int
  | 20 => .int
  | 21 => .int
  | _ => (.array .long)
def ev_R9 : String := "PathProver$Relation"
def ev_T9 : u_T := fun k => match k with
  | 0 => ("PathProver$Relation", "space", "LPathProver$Space;", true)
  | 1 => ("PathProver$Relation", "factors", "LPathProver$Rows;", true)
  | 2 => ("PathProver$Relation", "pieces", "LPathProver$Rows;", true)
  | 3 => ("PathProver$Relation", "wide", "LPathProver$Rows;", true)
  | 4 => ("PathProver$Relation", "outs", "[I", false)
  | 5 => ("PathProver$Relation", "outsUsed", "I", false)
  | 6 => ("PathProver$Relation", "rowOf", "[I", false)
  | 7 => ("PathProver$Relation", "classOf", "[I", false)
  | 8 => ("PathProver$Relation", "keys", "[I", false)
  | 9 => ("PathProver$Relation", "buckets", "[I", false)
  | 10 => ("PathProver$Relation", "list", "[I", false)
  | 11 => ("PathProver$Relation", "listed", "I", false)
  | 12 => ("PathProver$Relation", "options", "[I", false)
  | 13 => ("PathProver$Relation", "optionCount", "[I", true)
  | 14 => ("PathProver$Relation", "widest", "[I", true)
  | 15 => ("PathProver$Relation", "levels", "[I", true)
  | 16 => ("PathProver$Relation", "digits", "[I", true)
  | 17 => ("PathProver$Relation", "alive", "[J", true)
  | 18 => ("PathProver$Relation", "bits", "[J", true)
  | 19 => ("PathProver$Relation", "bitsFrom", "I", false)
  | 20 => ("PathProver$Relation", "bitsTo", "I", false)
  | 21 => ("PathProver$Relation", "storeFrom", "I", false)
  | 22 => ("PathProver$Relation", "firstRow", "I", false)
  | _ => ("PathProver$Relation", "free", "I", false)
def ev_Y9 : Nat → FieldType := fun k => match k with
  | 0 => (.object "PathProver$Space")
  | 1 => (.object "PathProver$Rows")
  | 2 => (.object "PathProver$Rows")
  | 3 => (.object "PathProver$Rows")
  | 4 => (.array .int)
  | 5 => .int
  | 6 => (.array .int)
  | 7 => (.array .int)
  | 8 => (.array .int)
  | 9 => (.array .int)
  | 10 => (.array .int)
  | 11 => .int
  | 12 => (.array .int)
  | 13 => (.array .int)
  | 14 => (.array .int)
  | 15 => (.array .int)
  | 16 => (.array .int)
  | 17 => (.array .long)
  | 18 => (.array .long)
  | 19 => .int
  | 20 => .int
  | 21 => .int
  | 22 => .int
  | _ => .int
def ev_R10 : String := "PathProver$Rows"
def ev_T10 : u_T := fun k => match k with
  | 0 => ("PathProver$Rows", "width", "I", true)
  | 1 => ("PathProver$Rows", "cells", "[I", false)
  | _ => ("PathProver$Rows", "size", "I", false)
def ev_Y10 : Nat → FieldType := fun k => match k with
  | 0 => .int
  | 1 => (.array .int)
  | _ => .int
def ev_R11 : String := "PathProver$Sets"
def ev_T11 : u_T := fun k => match k with
  | 0 => ("PathProver$Sets", "chunks", "[[J", true)
  | 1 => ("PathProver$Sets", "used", "I", false)
  | 2 => ("PathProver$Sets", "number", "I", false)
  | 3 => ("PathProver$Sets", "start", "[I", false)
  | 4 => ("PathProver$Sets", "heads", "[I", true)
  | 5 => ("PathProver$Sets", "headMask", "I", false)
  | _ => ("PathProver$Sets", "work", "[J", true)
def ev_Y11 : Nat → FieldType := fun k => match k with
  | 0 => (.array (.array .long))
  | 1 => .int
  | 2 => .int
  | 3 => (.array .int)
  | 4 => (.array .int)
  | 5 => .int
  | _ => (.array .long)
def ev_R12 : String := "PathProver$Sound"
def ev_T12 : u_T := fun k => match k with
  | 0 => ("PathProver$Sound", "members", "LPathProver$Rows;", true)
  | 1 => ("PathProver$Sound", "heads", "[I", true)
  | 2 => ("PathProver$Sound", "model", "LPathProver$Model;", false)
  | _ => ("PathProver$Sound", "main", "I", false)
def ev_Y12 : Nat → FieldType := fun k => match k with
  | 0 => (.object "PathProver$Rows")
  | 1 => (.array .int)
  | 2 => (.object "PathProver$Model")
  | _ => .int
def ev_R13 : String := "PathProver$Space"
def ev_T13 : u_T := fun k => match k with
  | 0 => ("PathProver$Space", "model", "LPathProver$Model;", false)
  | 1 => ("PathProver$Space", "machine", "LPathProver$Machine;", true)
  | 2 => ("PathProver$Space", "store", "LPathProver$Sets;", true)
  | 3 => ("PathProver$Space", "tasks", "LPathProver$Rows;", true)
  | 4 => ("PathProver$Space", "places", "I", false)
  | 5 => ("PathProver$Space", "size", "[I", true)
  | 6 => ("PathProver$Space", "stride", "[I", true)
  | 7 => ("PathProver$Space", "first", "[I", true)
  | 8 => ("PathProver$Space", "worth", "[I", false)
  | 9 => ("PathProver$Space", "ranges", "I", false)
  | 10 => ("PathProver$Space", "values", "I", false)
  | 11 => ("PathProver$Space", "total", "I", false)
  | 12 => ("PathProver$Space", "words", "I", false)
  | 13 => ("PathProver$Space", "known", "Z", false)
  | 14 => ("PathProver$Space", "every", "[J", true)
  | 15 => ("PathProver$Space", "initial", "[J", true)
  | 16 => ("PathProver$Space", "scratch", "[J", true)
  | 17 => ("PathProver$Space", "table", "[J", true)
  | 18 => ("PathProver$Space", "projected", "[I", false)
  | _ => ("PathProver$Space", "fairSets", "I", false)
def ev_Y13 : Nat → FieldType := fun k => match k with
  | 0 => (.object "PathProver$Model")
  | 1 => (.object "PathProver$Machine")
  | 2 => (.object "PathProver$Sets")
  | 3 => (.object "PathProver$Rows")
  | 4 => .int
  | 5 => (.array .int)
  | 6 => (.array .int)
  | 7 => (.array .int)
  | 8 => (.array .int)
  | 9 => .int
  | 10 => .int
  | 11 => .int
  | 12 => .int
  | 13 => .boolean
  | 14 => (.array .long)
  | 15 => (.array .long)
  | 16 => (.array .long)
  | 17 => (.array .long)
  | 18 => (.array .int)
  | _ => .int
def ev_R14 : String := "PathProverModel$Bits"
def ev_T14 : u_T := fun k => match k with
  | _ => ("PathProverModel$Bits", "row", "[I", true)
def ev_Y14 : Nat → FieldType := fun k => match k with
  | _ => (.array .int)
def ev_R15 : String := "PathProverModel$Instance"
def ev_T15 : u_T := fun k => match k with
  | 0 => ("PathProverModel$Instance", "module", "LPathProverModel$Module;", true)
  | 1 => ("PathProverModel$Instance", "parent", "LPathProverModel$Instance;", true)
  | 2 => ("PathProverModel$Instance", "firstGiven", "I", false)
  | 3 => ("PathProverModel$Instance", "variable", "[I", true)
  | 4 => ("PathProverModel$Instance", "inner", "[LPathProverModel$Instance;", true)
  | _ => ("PathProverModel$Instance", "definition", "[I", true)
def ev_Y15 : Nat → FieldType := fun k => match k with
  | 0 => (.object "PathProverModel$Module")
  | 1 => (.object "PathProverModel$Instance")
  | 2 => .int
  | 3 => (.array .int)
  | 4 => (.array (.object "PathProverModel$Instance"))
  | _ => (.array .int)
def ev_R16 : String := "PathProverModel$Model"
def ev_T16 : u_T := fun k => match k with
  | 0 => ("PathProverModel$Model", "instances", "[LPathProverModel$Instance;", true)
  | 1 => ("PathProverModel$Model", "instanceCount", "I", false)
  | 2 => ("PathProverModel$Model", "entries", "I", false)
  | 3 => ("PathProverModel$Model", "owners", "[LPathProverModel$Instance;", false)
  | 4 => ("PathProverModel$Model", "types", "[LPathProverModel$Node;", false)
  | 5 => ("PathProverModel$Model", "variables", "I", false)
  | 6 => ("PathProverModel$Model", "bits", "I", false)
  | 7 => ("PathProverModel$Model", "stands", "[LPathProverModel$Node;", false)
  | 8 => ("PathProverModel$Model", "standsIn", "[LPathProverModel$Instance;", false)
  | 9 => ("PathProverModel$Model", "standing", "I", false)
  | 10 => ("PathProverModel$Model", "specs", "[LPathProverModel$Node;", false)
  | 11 => ("PathProverModel$Model", "specOwners", "[LPathProverModel$Instance;", false)
  | 12 => ("PathProverModel$Model", "specCount", "I", false)
  | 13 => ("PathProverModel$Model", "fair", "[LPathProverModel$Node;", false)
  | 14 => ("PathProverModel$Model", "fairOwners", "[LPathProverModel$Instance;", false)
  | 15 => ("PathProverModel$Model", "fairCount", "I", false)
  | 16 => ("PathProverModel$Model", "symbols", "[Ljava/lang/String;", false)
  | _ => ("PathProverModel$Model", "symbolCount", "I", false)
def ev_Y16 : Nat → FieldType := fun k => match k with
  | 0 => (.array (.object "PathProverModel$Instance"))
  | 1 => .int
  | 2 => .int
  | 3 => (.array (.object "PathProverModel$Instance"))
  | 4 => (.array (.object "PathProverModel$Node"))
  | 5 => .int
  | 6 => .int
  | 7 => (.array (.object "PathProverModel$Node"))
  | 8 => (.array (.object "PathProverModel$Instance"))
  | 9 => .int
  | 10 => (.array (.object "PathProverModel$Node"))
  | 11 => (.array (.object "PathProverModel$Instance"))
  | 12 => .int
  | 13 => (.array (.object "PathProverModel$Node"))
  | 14 => (.array (.object "PathProverModel$Instance"))
  | 15 => .int
  | 16 => (.array (.object "java/lang/String"))
  | _ => .int
def ev_R17 : String := "PathProverModel$Module"
def ev_T17 : u_T := fun k => match k with
  | 0 => ("PathProverModel$Module", "name", "Ljava/lang/String;", true)
  | 1 => ("PathProverModel$Module", "params", "LPathProverModel$Node;", true)
  | _ => ("PathProverModel$Module", "parts", "LPathProverModel$Node;", true)
def ev_Y17 : Nat → FieldType := fun k => match k with
  | 0 => (.object "java/lang/String")
  | 1 => (.object "PathProverModel$Node")
  | _ => (.object "PathProverModel$Node")
def ev_R18 : String := "PathProverModel$Node"
def ev_T18 : u_T := fun k => match k with
  | 0 => ("PathProverModel$Node", "kind", "Ljava/lang/String;", true)
  | 1 => ("PathProverModel$Node", "parts", "[LPathProverModel$Node;", false)
  | 2 => ("PathProverModel$Node", "size", "I", false)
  | 3 => ("PathProverModel$Node", "number", "I", false)
  | 4 => ("PathProverModel$Node", "names", "[Ljava/lang/String;", false)
  | 5 => ("PathProverModel$Node", "sort", "I", false)
  | 6 => ("PathProverModel$Node", "height", "I", false)
  | _ => ("PathProverModel$Node", "code", "I", true)
def ev_Y18 : Nat → FieldType := fun k => match k with
  | 0 => (.object "java/lang/String")
  | 1 => (.array (.object "PathProverModel$Node"))
  | 2 => .int
  | 3 => .int
  | 4 => (.array (.object "java/lang/String"))
  | 5 => .int
  | 6 => .int
  | _ => .int
def ev_cl : List vw_C := [(ev_R0, ev_T0, 14), (ev_R1, ev_T1, 57), (ev_R2, ev_T2, 23), (ev_R3, ev_T3, 4), (ev_R4, ev_T4, 12), (ev_R5, ev_T5, 22), (ev_R6, ev_T6, 19), (ev_R7, ev_T7, 12), (ev_R8, ev_T8, 23), (ev_R9, ev_T9, 24), (ev_R10, ev_T10, 3), (ev_R11, ev_T11, 7), (ev_R12, ev_T12, 4), (ev_R13, ev_T13, 20), (ev_R14, ev_T14, 1), (ev_R15, ev_T15, 6), (ev_R16, ev_T16, 18), (ev_R17, ev_T17, 3), (ev_R18, ev_T18, 8)]
def ev_Y (ci : Nat) : Nat → FieldType := match ci with
  | 0 => ev_Y0
  | 1 => ev_Y1
  | 2 => ev_Y2
  | 3 => ev_Y3
  | 4 => ev_Y4
  | 5 => ev_Y5
  | 6 => ev_Y6
  | 7 => ev_Y7
  | 8 => ev_Y8
  | 9 => ev_Y9
  | 10 => ev_Y10
  | 11 => ev_Y11
  | 12 => ev_Y12
  | 13 => ev_Y13
  | 14 => ev_Y14
  | 15 => ev_Y15
  | 16 => ev_Y16
  | 17 => ev_Y17
  | _ => ev_Y18
/-- a new object's fields -/
def ev_fds : List (List ev_V) := [[.inl .null, .inl (.int 0), .inl (.int 0), .inl (.int 0), .inl .null, .inl .null, .inl .null, .inl .null, .inl .null, .inl .null, .inl .null, .inl .null, .inl (.int 0), .inl (.int 0)], [.inl (.int 0), .inl .null, .inl (.int 0), .inl (.int 0), .inl .null, .inl .null, .inl (.int 0), .inl (.int 0), .inl (.int 0), .inl (.int 0), .inl (.int 0), .inl .null, .inl (.int 0), .inl .null, .inl .null, .inl (.int 0), .inl .null, .inl (.int 0), .inl .null, .inl (.int 0), .inl (.int 0), .inl (.int 0), .inl .null, .inl (.int 0), .inl .null, .inl .null, .inl .null, .inl .null, .inl (.int 0), .inl .null, .inl .null, .inl .null, .inl .null, .inl .null, .inl .null, .inl .null, .inl (.int 0), .inl .null, .inl (.int 0), .inl (.int 0), .inl .null, .inl .null, .inl (.long 0), .inl .null, .inl .null, .inl (.int 0), .inl (.int 0), .inl (.int 0), .inl (.int 0), .inl .null, .inl (.int 0), .inl .null, .inl (.int 0), .inl .null, .inl .null, .inl (.int 0), .inl (.int 0)], [.inl .null, .inl .null, .inl .null, .inl .null, .inl .null, .inl .null, .inl .null, .inl .null, .inl .null, .inl (.int 0), .inl .null, .inl .null, .inl .null, .inl .null, .inl (.int 0), .inl (.int 0), .inl (.int 0), .inl (.int 0), .inl (.int 0), .inl (.int 0), .inl (.int 0), .inl (.int 0), .inl (.int 0)], [.inl .null, .inl .null, .inl .null, .inl .null], [.inl .null, .inl (.int 0), .inl (.int 0), .inl (.int 0), .inl (.int 0), .inl .null, .inl .null, .inl .null, .inl (.int 0), .inl .null, .inl .null, .inl (.int 0)], [.inl .null, .inl .null, .inl .null, .inl .null, .inl (.int 0), .inl (.int 0), .inl (.int 0), .inl (.int 0), .inl .null, .inl .null, .inl .null, .inl .null, .inl .null, .inl .null, .inl (.int 0), .inl .null, .inl (.int 0), .inl (.int 0), .inl (.int 0), .inl (.int 0), .inl (.int 0), .inl (.int 0)], [.inl .null, .inl .null, .inl .null, .inl .null, .inl .null, .inl .null, .inl .null, .inl .null, .inl .null, .inl .null, .inl .null, .inl .null, .inl .null, .inl .null, .inl .null, .inl .null, .inl .null, .inl .null, .inl .null], [.inl .null, .inl .null, .inl .null, .inl (.int 0), .inl (.int 0), .inl (.int 0), .inl (.int 0), .inl (.int 0), .inl (.int 0), .inl (.int 0), .inl (.int 0), .inl (.int 0)], [.inl .null, .inl .null, .inl .null, .inl .null, .inl (.int 0), .inl .null, .inl .null, .inl .null, .inl .null, .inl .null, .inl (.int 0), .inl (.int 0), .inl (.int 0), .inl (.int 0), .inl (.int 0), .inl (.int 0), .inl (.int 0), .inl (.int 0), .inl (.int 0), .inl (.int 0), .inl (.int 0), .inl (.int 0), .inl .null], [.inl .null, .inl .null, .inl .null, .inl .null, .inl .null, .inl (.int 0), .inl .null, .inl .null, .inl .null, .inl .null, .inl .null, .inl (.int 0), .inl .null, .inl .null, .inl .null, .inl .null, .inl .null, .inl .null, .inl .null, .inl (.int 0), .inl (.int 0), .inl (.int 0), .inl (.int 0), .inl (.int 0)], [.inl (.int 0), .inl .null, .inl (.int 0)], [.inl .null, .inl (.int 0), .inl (.int 0), .inl .null, .inl .null, .inl (.int 0), .inl .null], [.inl .null, .inl .null, .inl .null, .inl (.int 0)], [.inl .null, .inl .null, .inl .null, .inl .null, .inl (.int 0), .inl .null, .inl .null, .inl .null, .inl .null, .inl (.int 0), .inl (.int 0), .inl (.int 0), .inl (.int 0), .inl (.int 0), .inl .null, .inl .null, .inl .null, .inl .null, .inl .null, .inl (.int 0)], [.inl .null], [.inl .null, .inl .null, .inl (.int 0), .inl .null, .inl .null, .inl .null], [.inl .null, .inl (.int 0), .inl (.int 0), .inl .null, .inl .null, .inl (.int 0), .inl (.int 0), .inl .null, .inl .null, .inl (.int 0), .inl .null, .inl .null, .inl (.int 0), .inl .null, .inl .null, .inl (.int 0), .inl .null, .inl (.int 0)], [.inl .null, .inl .null, .inl .null], [.inl .null, .inl .null, .inl (.int 0), .inl (.int 0), .inl .null, .inl (.int 0), .inl (.int 0), .inl (.int 0)]]
/-- the String constants: class, entry, text -/
def ev_strs : List (String × Nat × String) := [("PathProver$Lexer", 20, "MODULE VAR DEFINE ASSIGN INIT INVAR TRANS FAIRNESS SPEC init next boolean xor EX EF EG AX AF AG E A U in mod case esac TRUE FALSE main "), ("PathProverModel", 20, "<->"), ("PathProverModel", 22, "->"), ("PathProverModel", 24, ":="), ("PathProverModel", 26, ".."), ("PathProverModel", 28, "!="), ("PathProverModel", 30, "<="), ("PathProverModel", 32, ">="), ("PathProverModel", 34, "("), ("PathProverModel", 36, ")"), ("PathProverModel", 38, "{"), ("PathProverModel", 40, "}"), ("PathProverModel", 42, "["), ("PathProverModel", 44, "]"), ("PathProverModel", 46, ","), ("PathProverModel", 48, ";"), ("PathProverModel", 50, ":"), ("PathProverModel", 52, "."), ("PathProverModel", 54, "!"), ("PathProverModel", 56, "&"), ("PathProverModel", 58, "|"), ("PathProverModel", 60, "="), ("PathProverModel", 62, "<"), ("PathProverModel", 64, ">"), ("PathProverModel", 66, "+"), ("PathProverModel", 68, "-"), ("PathProverModel", 70, "*"), ("PathProverModel", 72, "/"), ("PathProverModel", 78, "MODULE"), ("PathProverModel", 80, "VAR"), ("PathProverModel", 82, "DEFINE"), ("PathProverModel", 84, "ASSIGN"), ("PathProverModel", 86, "init"), ("PathProverModel", 88, "next"), ("PathProverModel", 90, "INIT"), ("PathProverModel", 92, "INVAR"), ("PathProverModel", 94, "TRANS"), ("PathProverModel", 96, "FAIRNESS"), ("PathProverModel", 98, "SPEC"), ("PathProverModel", 100, "boolean"), ("PathProverModel", 102, "xor"), ("PathProverModel", 104, "EX"), ("PathProverModel", 106, "EF"), ("PathProverModel", 108, "EG"), ("PathProverModel", 110, "AX"), ("PathProverModel", 112, "AF"), ("PathProverModel", 114, "AG"), ("PathProverModel", 116, "E"), ("PathProverModel", 118, "A"), ("PathProverModel", 120, "U"), ("PathProverModel", 122, "in"), ("PathProverModel", 124, "mod"), ("PathProverModel", 126, "case"), ("PathProverModel", 128, "esac"), ("PathProverModel", 130, "TRUE"), ("PathProverModel", 132, "FALSE")]
def ev_jk : Nat := 0
def ev_kb : List Int32 := [77, 79, 68, 85, 76, 69, 32, 86, 65, 82, 32, 68, 69, 70, 73, 78, 69, 32, 65, 83, 83, 73, 71, 78, 32, 73, 78, 73, 84, 32, 73, 78, 86, 65, 82, 32, 84, 82, 65, 78, 83, 32, 70, 65, 73, 82, 78, 69, 83, 83, 32, 83, 80, 69, 67, 32, 105, 110, 105, 116, 32, 110, 101, 120, 116, 32, 98, 111, 111, 108, 101, 97, 110, 32, 120, 111, 114, 32, 69, 88, 32, 69, 70, 32, 69, 71, 32, 65, 88, 32, 65, 70, 32, 65, 71, 32, 69, 32, 65, 32, 85, 32, 105, 110, 32, 109, 111, 100, 32, 99, 97, 115, 101, 32, 101, 115, 97, 99, 32, 84, 82, 85, 69, 32, 70, 65, 76, 83, 69, 32, 109, 97, 105, 110, 32]
/-- PathProverLaw.law([I)Z -/
def ev_b0_0 : List ev_I := [(0, .new 8, [1041, 1042, 1001, 0]), (3, .dup, []), (4, .invokespecial 64, [0, 1, 0, 1043, 1044, 1001]), (7, .astore_n 1, []), (8, .new 65, [12089, 12090, 1021, 1]), (11, .dup, []), (12, .invokespecial 67, [0, 22, 0, 12091, 12092, 1021]), (15, .astore_n 2, []), (16, .iconst 1, []), (17, .newarray .long, [3031, 2]), (19, .astore_n 3, []), (20, .iconst 0, []), (21, .istore 4, []), (23, .iload 4, []), (25, .aload_n 0, []), (26, .arraylength, []), (27, .bipush 6, []), (29, .isub, []), (30, .if_icmp .gt 951, [981]), (33, .aload_n 0, []), (34, .iload 4, []), (36, .iaload, []), (37, .bipush 15, []), (39, .iand, []), (40, .tableswitch 935 0 14 #[76, 180, 236, 280, 293, 356, 424, 480, 536, 592, 648, 704, 760, 823, 879], [975, 116, 220, 276, 320, 333, 396, 464, 520, 576, 632, 688, 744, 800, 863, 919]), (116, .aload_n 1, []), (117, .aload_n 0, []), (118, .iload 4, []), (120, .iconst 1, []), (121, .iadd, []), (122, .iaload, []), (123, .aload_n 0, []), (124, .iload 4, []), (126, .iconst 2, []), (127, .iadd, []), (128, .iaload, []), (129, .aload_n 0, []), (130, .iload 4, []), (132, .iconst 3, []), (133, .iadd, [])]
def ev_b0_1 : List ev_I := [(134, .iaload, []), (135, .aload_n 0, []), (136, .iload 4, []), (138, .iconst 4, []), (139, .iadd, []), (140, .iaload, []), (141, .aload_n 0, []), (142, .iload 4, []), (144, .iconst 5, []), (145, .iadd, []), (146, .iaload, []), (147, .aload_n 3, []), (148, .invokestatic 68, [24, 7, 4187, 4188, 1000]), (151, .istore 5, []), (153, .aload_n 2, []), (154, .aload_n 0, []), (155, .iload 4, []), (157, .iconst 1, []), (158, .iadd, []), (159, .iaload, []), (160, .aload_n 0, []), (161, .iload 4, []), (163, .iconst 2, []), (164, .iadd, []), (165, .iaload, []), (166, .aload_n 0, []), (167, .iload 4, []), (169, .iconst 3, []), (170, .iadd, []), (171, .iaload, []), (172, .aload_n 0, []), (173, .iload 4, []), (175, .iconst 4, []), (176, .iadd, []), (177, .iaload, []), (178, .aload_n 0, []), (179, .iload 4, []), (181, .iconst 5, []), (182, .iadd, []), (183, .iaload, [])]
def ev_b0_2 : List ev_I := [(184, .invokevirtual 73, [27, 5, 1, 16027, 16028, 16029, 1021]), (187, .istore 6, []), (189, .aload_n 2, []), (190, .invokevirtual 74, [28, 0, 1, 13099, 13100, 13101, 1021]), (193, .iload 5, []), (195, .if_icmp .eq 5, [200]), (200, .iload 5, []), (202, .ifCond .ne 15, [217]), (205, .aload_n 3, []), (206, .iconst 0, []), (207, .laload, []), (208, .iload 6, []), (210, .i2l, []), (211, .lcmp, []), (212, .ifCond .eq 5, [217]), (217, .goto 758, [975]), (220, .aload_n 1, []), (221, .aload_n 0, []), (222, .iload 4, []), (224, .iconst 1, []), (225, .iadd, []), (226, .iaload, []), (227, .aload_n 3, []), (228, .invokestatic 77, [29, 3, 5035, 5036, 1000]), (231, .istore 5, []), (233, .aload_n 2, []), (234, .aload_n 0, []), (235, .iload 4, []), (237, .iconst 1, []), (238, .iadd, []), (239, .iaload, []), (240, .invokevirtual 80, [31, 1, 1, 16035, 16036, 16037, 1021]), (243, .istore 6, []), (245, .aload_n 2, []), (246, .invokevirtual 74, [28, 0, 1, 13099, 13100, 13101, 1021]), (249, .iload 5, []), (251, .if_icmp .eq 5, [256]), (256, .iload 5, []), (258, .ifCond .ne 15, [273]), (261, .aload_n 3, [])]
def ev_b0_3 : List ev_I := [(262, .iconst 0, []), (263, .laload, []), (264, .iload 6, []), (266, .i2l, []), (267, .lcmp, []), (268, .ifCond .eq 5, [273]), (273, .goto 702, [975]), (276, .aload_n 1, []), (277, .aload_n 3, []), (278, .invokestatic 81, [33, 2, 5058, 5059, 1000]), (281, .istore 5, []), (283, .aload_n 2, []), (284, .invokevirtual 84, [49, 0, 1, 13103, 13104, 13105, 1021]), (287, .istore 6, []), (289, .aload_n 2, []), (290, .invokevirtual 74, [28, 0, 1, 13099, 13100, 13101, 1021]), (293, .iload 5, []), (295, .if_icmp .eq 5, [300]), (300, .iload 5, []), (302, .ifCond .ne 15, [317]), (317, .goto 658, [975]), (320, .aload_n 1, []), (321, .invokevirtual 85, [57, 0, 0, 4183, 4184, 4185, 1001]), (324, .aload_n 2, []), (325, .invokevirtual 88, [58, 0, 1, 16039, 16040, 16041, 1021]), (328, .if_icmp .eq 647, [975]), (333, .aload_n 1, []), (334, .aload_n 0, []), (335, .iload 4, []), (337, .iconst 1, []), (338, .iadd, []), (339, .iaload, []), (340, .aload_n 3, []), (341, .invokestatic 89, [59, 3, 7128, 7129, 1000]), (344, .istore 5, []), (346, .aload_n 2, []), (347, .aload_n 0, []), (348, .iload 4, []), (350, .iconst 1, []), (351, .iadd, [])]
def ev_b0_4 : List ev_I := [(352, .iaload, []), (353, .invokevirtual 91, [62, 1, 1, 16043, 16044, 16045, 1021]), (356, .istore 6, []), (358, .aload_n 2, []), (359, .invokevirtual 74, [28, 0, 1, 13099, 13100, 13101, 1021]), (362, .iload 5, []), (364, .if_icmp .eq 5, [369]), (369, .iload 5, []), (371, .ifCond .ne 22, [393]), (393, .goto 582, [975]), (396, .aload_n 1, []), (397, .aload_n 0, []), (398, .iload 4, []), (400, .iconst 1, []), (401, .iadd, []), (402, .iaload, []), (403, .aload_n 0, []), (404, .iload 4, []), (406, .iconst 2, []), (407, .iadd, []), (408, .iaload, []), (409, .aload_n 3, []), (410, .invokestatic 92, [65, 4, 11176, 11177, 1000]), (413, .istore 5, []), (415, .aload_n 2, []), (416, .aload_n 0, []), (417, .iload 4, []), (419, .iconst 1, []), (420, .iadd, []), (421, .iaload, []), (422, .aload_n 0, []), (423, .iload 4, []), (425, .iconst 2, []), (426, .iadd, []), (427, .iaload, []), (428, .invokevirtual 95, [67, 2, 1, 16087, 16088, 16089, 1021]), (431, .istore 6, []), (433, .aload_n 2, []), (434, .invokevirtual 74, [28, 0, 1, 13099, 13100, 13101, 1021]), (437, .iload 5, [])]
def ev_b0_5 : List ev_I := [(439, .if_icmp .eq 5, [444]), (444, .iload 5, []), (446, .ifCond .ne 15, [461]), (461, .goto 514, [975]), (464, .aload_n 1, []), (465, .aload_n 0, []), (466, .iload 4, []), (468, .iconst 1, []), (469, .iadd, []), (470, .iaload, []), (471, .aload_n 3, []), (472, .invokestatic 96, [68, 3, 11199, 11200, 1000]), (475, .istore 5, []), (477, .aload_n 2, []), (478, .aload_n 0, []), (479, .iload 4, []), (481, .iconst 1, []), (482, .iadd, []), (483, .iaload, []), (484, .invokevirtual 98, [70, 1, 1, 16095, 16096, 16097, 1021]), (487, .istore 6, []), (489, .aload_n 2, []), (490, .invokevirtual 74, [28, 0, 1, 13099, 13100, 13101, 1021]), (493, .iload 5, []), (495, .if_icmp .eq 5, [500]), (500, .iload 5, []), (502, .ifCond .ne 15, [517]), (517, .goto 458, [975]), (520, .aload_n 1, []), (521, .aload_n 0, []), (522, .iload 4, []), (524, .iconst 1, []), (525, .iadd, []), (526, .iaload, []), (527, .aload_n 3, []), (528, .invokestatic 99, [71, 3, 11207, 11208, 1000]), (531, .istore 5, []), (533, .aload_n 2, []), (534, .aload_n 0, []), (535, .iload 4, [])]
def ev_b0_6 : List ev_I := [(537, .iconst 1, []), (538, .iadd, []), (539, .iaload, []), (540, .invokevirtual 101, [73, 1, 1, 16099, 16100, 16101, 1021]), (543, .istore 6, []), (545, .aload_n 2, []), (546, .invokevirtual 74, [28, 0, 1, 13099, 13100, 13101, 1021]), (549, .iload 5, []), (551, .if_icmp .eq 5, [556]), (556, .iload 5, []), (558, .ifCond .ne 15, [573]), (573, .goto 402, [975]), (576, .aload_n 1, []), (577, .aload_n 0, []), (578, .iload 4, []), (580, .iconst 1, []), (581, .iadd, []), (582, .iaload, []), (583, .aload_n 3, []), (584, .invokestatic 102, [74, 3, 12003, 12004, 1000]), (587, .istore 5, []), (589, .aload_n 2, []), (590, .aload_n 0, []), (591, .iload 4, []), (593, .iconst 1, []), (594, .iadd, []), (595, .iaload, []), (596, .invokevirtual 104, [77, 1, 1, 16143, 16144, 16145, 1021]), (599, .istore 6, []), (601, .aload_n 2, []), (602, .invokevirtual 74, [28, 0, 1, 13099, 13100, 13101, 1021]), (605, .iload 5, []), (607, .if_icmp .eq 5, [612]), (612, .iload 5, []), (614, .ifCond .ne 15, [629]), (629, .goto 346, [975]), (632, .aload_n 1, []), (633, .aload_n 0, []), (634, .iload 4, []), (636, .iconst 1, [])]
def ev_b0_7 : List ev_I := [(637, .iadd, []), (638, .iaload, []), (639, .aload_n 3, []), (640, .invokestatic 105, [78, 3, 12019, 12020, 1000]), (643, .istore 5, []), (645, .aload_n 2, []), (646, .aload_n 0, []), (647, .iload 4, []), (649, .iconst 1, []), (650, .iadd, []), (651, .iaload, []), (652, .invokevirtual 107, [80, 1, 1, 16151, 16152, 16153, 1021]), (655, .istore 6, []), (657, .aload_n 2, []), (658, .invokevirtual 74, [28, 0, 1, 13099, 13100, 13101, 1021]), (661, .iload 5, []), (663, .if_icmp .eq 5, [668]), (668, .iload 5, []), (670, .ifCond .ne 15, [685]), (685, .goto 290, [975]), (688, .aload_n 1, []), (689, .aload_n 0, []), (690, .iload 4, []), (692, .iconst 1, []), (693, .iadd, []), (694, .iaload, []), (695, .aload_n 3, []), (696, .invokestatic 108, [81, 3, 12034, 12035, 1000]), (699, .istore 5, []), (701, .aload_n 2, []), (702, .aload_n 0, []), (703, .iload 4, []), (705, .iconst 1, []), (706, .iadd, []), (707, .iaload, []), (708, .invokevirtual 110, [83, 1, 1, 16155, 16156, 16157, 1021]), (711, .istore 6, []), (713, .aload_n 2, []), (714, .invokevirtual 74, [28, 0, 1, 13099, 13100, 13101, 1021]), (717, .iload 5, [])]
def ev_b0_8 : List ev_I := [(719, .if_icmp .eq 5, [724]), (724, .iload 5, []), (726, .ifCond .ne 15, [741]), (741, .goto 234, [975]), (744, .aload_n 1, []), (745, .aload_n 0, []), (746, .iload 4, []), (748, .iconst 1, []), (749, .iadd, []), (750, .iaload, []), (751, .aload_n 3, []), (752, .invokestatic 111, [84, 3, 12050, 12051, 1000]), (755, .istore 5, []), (757, .aload_n 2, []), (758, .aload_n 0, []), (759, .iload 4, []), (761, .iconst 1, []), (762, .iadd, []), (763, .iaload, []), (764, .invokevirtual 113, [86, 1, 1, 16159, 16160, 16161, 1021]), (767, .istore 6, []), (769, .aload_n 2, []), (770, .invokevirtual 74, [28, 0, 1, 13099, 13100, 13101, 1021]), (773, .iload 5, []), (775, .if_icmp .eq 5, [780]), (780, .iload 5, []), (782, .ifCond .ne 15, [797]), (797, .goto 178, [975]), (800, .aload_n 1, []), (801, .aload_n 0, []), (802, .iload 4, []), (804, .iconst 1, []), (805, .iadd, []), (806, .iaload, []), (807, .aload_n 3, []), (808, .invokestatic 114, [87, 3, 12064, 12065, 1000]), (811, .istore 5, []), (813, .aload_n 2, []), (814, .aload_n 0, []), (815, .iload 4, [])]
def ev_b0_9 : List ev_I := [(817, .iconst 1, []), (818, .iadd, []), (819, .iaload, []), (820, .invokevirtual 116, [89, 1, 1, 16163, 16164, 16165, 1021]), (823, .istore 6, []), (825, .aload_n 2, []), (826, .invokevirtual 74, [28, 0, 1, 13099, 13100, 13101, 1021]), (829, .iload 5, []), (831, .if_icmp .eq 5, [836]), (836, .iload 5, []), (838, .ifCond .ne 22, [860]), (860, .goto 115, [975]), (863, .aload_n 1, []), (864, .aload_n 0, []), (865, .iload 4, []), (867, .iconst 1, []), (868, .iadd, []), (869, .iaload, []), (870, .aload_n 3, []), (871, .invokestatic 117, [90, 3, 12075, 12076, 1000]), (874, .istore 5, []), (876, .aload_n 2, []), (877, .aload_n 0, []), (878, .iload 4, []), (880, .iconst 1, []), (881, .iadd, []), (882, .iaload, []), (883, .invokevirtual 119, [92, 1, 1, 16167, 16168, 16169, 1021]), (886, .istore 6, []), (888, .aload_n 2, []), (889, .invokevirtual 74, [28, 0, 1, 13099, 13100, 13101, 1021]), (892, .iload 5, []), (894, .if_icmp .eq 5, [899]), (899, .iload 5, []), (901, .ifCond .ne 15, [916]), (916, .goto 59, [975]), (919, .aload_n 1, []), (920, .aload_n 0, []), (921, .iload 4, []), (923, .iconst 1, [])]
def ev_b0_10 : List ev_I := [(924, .iadd, []), (925, .iaload, []), (926, .aload_n 3, []), (927, .invokestatic 120, [93, 3, 12082, 12083, 1000]), (930, .istore 5, []), (932, .aload_n 2, []), (933, .aload_n 0, []), (934, .iload 4, []), (936, .iconst 1, []), (937, .iadd, []), (938, .iaload, []), (939, .invokevirtual 122, [95, 1, 1, 16171, 16172, 16173, 1021]), (942, .istore 6, []), (944, .aload_n 2, []), (945, .invokevirtual 74, [28, 0, 1, 13099, 13100, 13101, 1021]), (948, .iload 5, []), (950, .if_icmp .eq 5, [955]), (955, .iload 5, []), (957, .ifCond .ne 15, [972]), (960, .aload_n 3, []), (961, .iconst 0, []), (962, .laload, []), (963, .iload 6, []), (965, .i2l, []), (966, .lcmp, []), (967, .ifCond .eq 5, [972]), (972, .goto 3, [975]), (975, .iinc 4 6, []), (978, .goto (-955), [23]), (981, .iconst 1, []), (982, .ireturn, [])]
def ev_b0 : List ev_I := ev_b0_0 ++ (ev_b0_1 ++ (ev_b0_2 ++ (ev_b0_3 ++ (ev_b0_4 ++ (ev_b0_5 ++ (ev_b0_6 ++ (ev_b0_7 ++ (ev_b0_8 ++ (ev_b0_9 ++ (ev_b0_10))))))))))
/-- PathProver.<init>()V -/
def ev_b1_0 : List ev_I := [(0, .aload_n 0, []), (1, .invokespecial 3, [1046]), (4, .aload_n 0, []), (5, .sipush 256, []), (8, .newarray .byte, [1081, 1]), (10, .putfield 9, [0, 4140, 0, 0, 2]), (13, .aload_n 0, []), (14, .iconst (-1), []), (15, .putfield 13, [0, 4142, 0, 2, 0]), (18, .aload_n 0, []), (19, .new 17, [1049, 1050, 1002, 6]), (22, .dup, []), (23, .invokespecial 19, [0, 2, 0, 1051, 1052, 1002]), (26, .putfield 20, [0, 4144, 0, 4, 2]), (29, .aload_n 0, []), (30, .new 17, [1049, 1050, 1002, 6]), (33, .dup, []), (34, .invokespecial 19, [0, 2, 0, 1051, 1052, 1002]), (37, .putfield 24, [0, 4145, 0, 5, 2]), (40, .aload_n 0, []), (41, .new 27, [1188, 1189, 1004, 7]), (44, .dup, []), (45, .invokespecial 29, [0, 4, 0, 1190, 1191, 1004]), (48, .putfield 30, [0, 4146, 0, 6, 2]), (51, .aload_n 0, []), (52, .new 34, [2088, 2089, 1010, 3]), (55, .dup, []), (56, .invokespecial 36, [0, 13, 0, 2090, 2091, 1010]), (59, .putfield 37, [0, 4147, 0, 7, 2]), (62, .aload_n 0, []), (63, .new 41, [2131, 2132, 1012, 13]), (66, .dup, []), (67, .invokespecial 43, [0, 15, 0, 2133, 2134, 1012]), (70, .putfield 44, [0, 4148, 0, 8, 2]), (73, .aload_n 0, []), (74, .new 48, [3129, 3130, 1018, 9]), (77, .dup, []), (78, .aload_n 0, []), (79, .getfield 44, [0, 4148, 0, 8]), (82, .invokespecial 50, [0, 19, 1, 3131, 3132, 1018])]
def ev_b1_1 : List ev_I := [(85, .putfield 53, [0, 4149, 0, 9, 2]), (88, .aload_n 0, []), (89, .new 57, [3216, 3217, 1019, 2]), (92, .dup, []), (93, .aload_n 0, []), (94, .getfield 44, [0, 4148, 0, 8]), (97, .aload_n 0, []), (98, .getfield 53, [0, 4149, 0, 9]), (101, .invokespecial 59, [0, 20, 2, 3218, 3219, 1019]), (104, .putfield 62, [0, 4150, 0, 10, 2]), (107, .aload_n 0, []), (108, .new 66, [4056, 4057, 1020, 8]), (111, .dup, []), (112, .aload_n 0, []), (113, .getfield 44, [0, 4148, 0, 8]), (116, .aload_n 0, []), (117, .getfield 62, [0, 4150, 0, 10]), (120, .invokespecial 68, [0, 21, 2, 4058, 4059, 1020]), (123, .putfield 71, [0, 4151, 0, 11, 2]), (126, .aload_n 0, []), (127, .iconst (-1), []), (128, .putfield 75, [0, 4153, 0, 13, 0]), (131, .return_, [])]
def ev_b1 : List ev_I := ev_b1_0 ++ (ev_b1_1)
/-- PathProver$Model.<init>()V -/
def ev_b2_0 : List ev_I := [(0, .aload_n 0, []), (1, .invokespecial 3, [1054]), (4, .aload_n 0, []), (5, .new 9, [1055, 1056, 1003, 10]), (8, .dup, []), (9, .iconst 2, []), (10, .bipush 64, []), (12, .invokespecial 11, [0, 3, 2, 1057, 1058, 1003]), (15, .putfield 14, [0, 1083, 6, 0, 2]), (18, .aload_n 0, []), (19, .new 9, [1055, 1056, 1003, 10]), (22, .dup, []), (23, .bipush 11, []), (25, .iconst 4, []), (26, .invokespecial 11, [0, 3, 2, 1057, 1058, 1003]), (29, .putfield 20, [0, 1089, 6, 1, 2]), (32, .aload_n 0, []), (33, .new 9, [1055, 1056, 1003, 10]), (36, .dup, []), (37, .iconst 1, []), (38, .iconst 4, []), (39, .invokespecial 11, [0, 3, 2, 1057, 1058, 1003]), (42, .putfield 23, [0, 1092, 6, 2, 2]), (45, .aload_n 0, []), (46, .new 9, [1055, 1056, 1003, 10]), (49, .dup, []), (50, .bipush 6, []), (52, .bipush 8, []), (54, .invokespecial 11, [0, 3, 2, 1057, 1058, 1003]), (57, .putfield 26, [0, 1095, 6, 3, 2]), (60, .aload_n 0, []), (61, .new 9, [1055, 1056, 1003, 10]), (64, .dup, []), (65, .iconst 2, []), (66, .bipush 8, []), (68, .invokespecial 11, [0, 3, 2, 1057, 1058, 1003]), (71, .putfield 29, [0, 1099, 6, 4, 2]), (74, .aload_n 0, []), (75, .new 9, [1055, 1056, 1003, 10]), (78, .dup, [])]
def ev_b2_1 : List ev_I := [(79, .iconst 2, []), (80, .iconst 4, []), (81, .invokespecial 11, [0, 3, 2, 1057, 1058, 1003]), (84, .putfield 32, [0, 1102, 6, 5, 2]), (87, .aload_n 0, []), (88, .new 9, [1055, 1056, 1003, 10]), (91, .dup, []), (92, .iconst 3, []), (93, .bipush 8, []), (95, .invokespecial 11, [0, 3, 2, 1057, 1058, 1003]), (98, .putfield 35, [0, 1104, 6, 6, 2]), (101, .aload_n 0, []), (102, .new 9, [1055, 1056, 1003, 10]), (105, .dup, []), (106, .iconst 4, []), (107, .bipush 8, []), (109, .invokespecial 11, [0, 3, 2, 1057, 1058, 1003]), (112, .putfield 38, [0, 1107, 6, 7, 2]), (115, .aload_n 0, []), (116, .new 9, [1055, 1056, 1003, 10]), (119, .dup, []), (120, .iconst 3, []), (121, .bipush 8, []), (123, .invokespecial 11, [0, 3, 2, 1057, 1058, 1003]), (126, .putfield 41, [0, 1111, 6, 8, 2]), (129, .aload_n 0, []), (130, .new 9, [1055, 1056, 1003, 10]), (133, .dup, []), (134, .iconst 4, []), (135, .bipush 32, []), (137, .invokespecial 11, [0, 3, 2, 1057, 1058, 1003]), (140, .putfield 44, [0, 1115, 6, 9, 2]), (143, .aload_n 0, []), (144, .new 9, [1055, 1056, 1003, 10]), (147, .dup, []), (148, .iconst 1, []), (149, .bipush 32, []), (151, .invokespecial 11, [0, 3, 2, 1057, 1058, 1003]), (154, .putfield 47, [0, 1120, 6, 10, 2]), (157, .aload_n 0, [])]
def ev_b2_2 : List ev_I := [(158, .new 9, [1055, 1056, 1003, 10]), (161, .dup, []), (162, .iconst 4, []), (163, .iconst 4, []), (164, .invokespecial 11, [0, 3, 2, 1057, 1058, 1003]), (167, .putfield 50, [0, 1123, 6, 11, 2]), (170, .aload_n 0, []), (171, .new 9, [1055, 1056, 1003, 10]), (174, .dup, []), (175, .iconst 1, []), (176, .bipush 8, []), (178, .invokespecial 11, [0, 3, 2, 1057, 1058, 1003]), (181, .putfield 53, [0, 1126, 6, 12, 2]), (184, .aload_n 0, []), (185, .new 9, [1055, 1056, 1003, 10]), (188, .dup, []), (189, .bipush 6, []), (191, .bipush 8, []), (193, .invokespecial 11, [0, 3, 2, 1057, 1058, 1003]), (196, .putfield 56, [0, 1127, 6, 13, 2]), (199, .aload_n 0, []), (200, .new 9, [1055, 1056, 1003, 10]), (203, .dup, []), (204, .iconst 1, []), (205, .bipush 8, []), (207, .invokespecial 11, [0, 3, 2, 1057, 1058, 1003]), (210, .putfield 59, [0, 1130, 6, 14, 2]), (213, .aload_n 0, []), (214, .new 9, [1055, 1056, 1003, 10]), (217, .dup, []), (218, .iconst 4, []), (219, .bipush 8, []), (221, .invokespecial 11, [0, 3, 2, 1057, 1058, 1003]), (224, .putfield 62, [0, 1133, 6, 15, 2]), (227, .aload_n 0, []), (228, .new 9, [1055, 1056, 1003, 10]), (231, .dup, []), (232, .iconst 4, []), (233, .iconst 4, []), (234, .invokespecial 11, [0, 3, 2, 1057, 1058, 1003])]
def ev_b2_3 : List ev_I := [(237, .putfield 65, [0, 1140, 6, 16, 2]), (240, .aload_n 0, []), (241, .new 9, [1055, 1056, 1003, 10]), (244, .dup, []), (245, .iconst 3, []), (246, .iconst 4, []), (247, .invokespecial 11, [0, 3, 2, 1057, 1058, 1003]), (250, .putfield 68, [0, 1144, 6, 17, 2]), (253, .aload_n 0, []), (254, .new 9, [1055, 1056, 1003, 10]), (257, .dup, []), (258, .iconst 2, []), (259, .bipush 8, []), (261, .invokespecial 11, [0, 3, 2, 1057, 1058, 1003]), (264, .putfield 71, [0, 1147, 6, 18, 2]), (267, .return_, [])]
def ev_b2 : List ev_I := ev_b2_0 ++ (ev_b2_1 ++ (ev_b2_2 ++ (ev_b2_3)))
/-- PathProver$Rows.<init>(II)V -/
def ev_b3 : List ev_I := [(0, .aload_n 0, []), (1, .invokespecial 1, [1060]), (4, .aload_n 0, []), (5, .iload_n 1, []), (6, .putfield 7, [0, 1061, 10, 0, 0]), (9, .aload_n 0, []), (10, .iload_n 1, []), (11, .iload_n 2, []), (12, .imul, []), (13, .newarray .int, [1082, 0]), (15, .putfield 13, [0, 1062, 10, 1, 2]), (18, .return_, [])]
/-- PathProver$Parser.<init>()V -/
def ev_b4 : List ev_I := [(0, .aload_n 0, []), (1, .invokespecial 3, [1193]), (4, .aload_n 0, []), (5, .new 9, [1194, 1195, 1005, 4]), (8, .dup, []), (9, .invokespecial 11, [0, 5, 0, 1196, 1197, 1005]), (12, .putfield 12, [0, 2051, 7, 0, 2]), (15, .aload_n 0, []), (16, .new 18, [2049, 1056, 1003, 10]), (19, .dup, []), (20, .iconst 2, []), (21, .bipush 32, []), (23, .invokespecial 20, [0, 3, 2, 2050, 1058, 1003]), (26, .putfield 23, [0, 2052, 7, 1, 2]), (29, .return_, [])]
/-- PathProver$Lexer.<init>()V -/
def ev_b5_0 : List ev_I := [(0, .aload_n 0, []), (1, .invokespecial 3, [1199]), (4, .aload_n 0, []), (5, .new 9, [1200, 1056, 1003, 10]), (8, .dup, []), (9, .iconst 3, []), (10, .bipush 64, []), (12, .invokespecial 11, [0, 3, 2, 1201, 1058, 1003]), (15, .putfield 14, [0, 2016, 4, 5, 2]), (18, .aload_n 0, []), (19, .ldc 20, [1202, 0, 0]), (21, .invokevirtual 22, [6, 0, 999, 1203, 1204, 1205, 1006]), (24, .newarray .byte, [1081, 1]), (26, .putfield 28, [0, 2018, 4, 6, 2]), (29, .iconst 0, []), (30, .istore_n 1, []), (31, .iload_n 1, []), (32, .aload_n 0, []), (33, .getfield 28, [0, 2018, 4, 6]), (36, .arraylength, []), (37, .if_icmp .ge 22, [59]), (40, .aload_n 0, []), (41, .getfield 28, [0, 2018, 4, 6]), (44, .iload_n 1, []), (45, .ldc 20, [1202, 0, 0]), (47, .iload_n 1, []), (48, .invokevirtual 32, [8, 1, 999, 1213, 1214, 1215, 1006]), (51, .i2b, []), (52, .bastore, []), (53, .iinc 1 1, []), (56, .goto (-25), [31]), (59, .aload_n 0, []), (60, .sipush 512, []), (63, .newarray .byte, [1081, 1]), (65, .putfield 36, [0, 2019, 4, 7, 2]), (68, .aload_n 0, []), (69, .new 9, [1200, 1056, 1003, 10]), (72, .dup, []), (73, .iconst 4, []), (74, .bipush 64, [])]
def ev_b5_1 : List ev_I := [(76, .invokespecial 11, [0, 3, 2, 1201, 1058, 1003]), (79, .putfield 39, [0, 2021, 4, 9, 2]), (82, .aload_n 0, []), (83, .sipush 256, []), (86, .newarray .int, [1082, 0]), (88, .putfield 42, [0, 2022, 4, 10, 2]), (91, .aload_n 0, []), (92, .aload_n 0, []), (93, .getfield 28, [0, 2018, 4, 6]), (96, .putfield 46, [0, 2011, 4, 0, 2]), (99, .return_, [])]
def ev_b5 : List ev_I := ev_b5_0 ++ (ev_b5_1)
/-- java/lang/String.length()I -/
def ev_b6 : List ev_I := [(0, .aload_n 0, []), (1, .getfield 9, [8142, 0]), (4, .arraylength, []), (5, .aload_n 0, []), (6, .invokevirtual 335, [7, 0, 999, 1207, 1208, 1209, 1006]), (9, .ishr, []), (10, .ireturn, [])]
/-- java/lang/String.coder()B -/
def ev_b7 : List ev_I := [(0, .getstatic 38, [1211]), (3, .ifCond .eq 10, [13]), (6, .aload_n 0, []), (7, .getfield 15, [8143, 1]), (10, .goto 4, [14]), (14, .ireturn, [])]
/-- java/lang/String.charAt(I)C -/
def ev_b8 : List ev_I := [(0, .aload_n 0, []), (1, .invokevirtual 492, [9, 0, 999, 1217, 1218, 1219, 1006]), (4, .ifCond .eq 12, [16]), (7, .aload_n 0, []), (8, .getfield 9, [8142, 0]), (11, .iload_n 1, []), (12, .invokestatic 495, [10, 2, 1221, 1222, 1007]), (15, .ireturn, [])]
/-- java/lang/String.isLatin1()Z -/
def ev_b9 : List ev_I := [(0, .getstatic 38, [1211]), (3, .ifCond .eq 14, [17]), (6, .aload_n 0, []), (7, .getfield 15, [8143, 1]), (10, .ifCond .ne 7, [17]), (13, .iconst 1, []), (14, .goto 4, [18]), (18, .ireturn, [])]
/-- java/lang/StringLatin1.charAt([BI)C -/
def ev_b10 : List ev_I := [(0, .iload_n 1, []), (1, .aload_n 0, []), (2, .arraylength, []), (3, .invokestatic 9, [11, 2, 1224, 1225, 1006]), (6, .aload_n 0, []), (7, .iload_n 1, []), (8, .baload, []), (9, .sipush 255, []), (12, .iand, []), (13, .i2c, []), (14, .ireturn, [])]
/-- java/lang/String.checkIndex(II)V -/
def ev_b11 : List ev_I := [(0, .iload_n 0, []), (1, .iload_n 1, []), (2, .getstatic 1053, [1227, 0]), (5, .invokestatic 1059, [12, 3, 1229, 1230, 1008]), (8, .pop, []), (9, .return_, [])]
/-- jdk/internal/util/Preconditions.checkIndex(IILjava/util/function/BiFunction;)I -/
def ev_b12 : List ev_I := [(0, .iload_n 0, []), (1, .ifCond .lt 8, [9]), (4, .iload_n 0, []), (5, .iload_n 1, []), (6, .if_icmp .lt 10, [16]), (16, .iload_n 0, []), (17, .ireturn, [])]
/-- PathProver$Judge.<init>()V -/
def ev_b13 : List ev_I := [(0, .aload_n 0, []), (1, .invokespecial 3, [2093]), (4, .aload_n 0, []), (5, .new 9, [2094, 2095, 1011, 12]), (8, .dup, []), (9, .invokespecial 11, [0, 14, 0, 2096, 2097, 1011]), (12, .putfield 12, [0, 2118, 3, 0, 2]), (15, .aload_n 0, []), (16, .new 18, [2116, 1056, 1003, 10]), (19, .dup, []), (20, .iconst 2, []), (21, .bipush 16, []), (23, .invokespecial 20, [0, 3, 2, 2117, 1058, 1003]), (26, .putfield 23, [0, 2119, 3, 1, 2]), (29, .aload_n 0, []), (30, .bipush 64, []), (32, .newarray .int, [1082, 0]), (34, .putfield 27, [0, 2120, 3, 2, 2]), (37, .return_, [])]
/-- PathProver$Sound.<init>()V -/
def ev_b14 : List ev_I := [(0, .aload_n 0, []), (1, .invokespecial 3, [2099]), (4, .aload_n 0, []), (5, .new 9, [2100, 1056, 1003, 10]), (8, .dup, []), (9, .iconst 5, []), (10, .bipush 32, []), (12, .invokespecial 11, [0, 3, 2, 2101, 1058, 1003]), (15, .putfield 14, [0, 2102, 12, 0, 2]), (18, .aload_n 0, []), (19, .sipush 512, []), (22, .newarray .int, [1082, 0]), (24, .putfield 20, [0, 2103, 12, 1, 2]), (27, .return_, [])]
/-- PathProver$Space.<init>()V -/
def ev_b15_0 : List ev_I := [(0, .aload_n 0, []), (1, .invokespecial 3, [2136]), (4, .aload_n 0, []), (5, .new 9, [2137, 2138, 1013, 5]), (8, .dup, []), (9, .invokespecial 11, [0, 16, 0, 2139, 2140, 1013]), (12, .putfield 12, [0, 3038, 13, 1, 2]), (15, .aload_n 0, []), (16, .new 18, [2238, 2239, 1017, 11]), (19, .dup, []), (20, .invokespecial 20, [0, 18, 0, 3000, 3001, 1017]), (23, .putfield 21, [0, 3041, 13, 2, 2]), (26, .aload_n 0, []), (27, .new 25, [3032, 1056, 1003, 10]), (30, .dup, []), (31, .iconst 5, []), (32, .bipush 8, []), (34, .invokespecial 27, [0, 3, 2, 3033, 1058, 1003]), (37, .putfield 30, [0, 3045, 13, 3, 2]), (40, .aload_n 0, []), (41, .bipush 14, []), (43, .newarray .int, [1082, 0]), (45, .putfield 34, [0, 3049, 13, 5, 2]), (48, .aload_n 0, []), (49, .bipush 14, []), (51, .newarray .int, [1082, 0]), (53, .putfield 38, [0, 3052, 13, 6, 2]), (56, .aload_n 0, []), (57, .bipush 14, []), (59, .newarray .int, [1082, 0]), (61, .putfield 41, [0, 3055, 13, 7, 2]), (64, .aload_n 0, []), (65, .bipush 64, []), (67, .newarray .int, [1082, 0]), (69, .putfield 44, [0, 3058, 13, 8, 2]), (72, .aload_n 0, []), (73, .sipush 256, []), (76, .newarray .long, [3031, 2]), (78, .putfield 47, [0, 3074, 13, 14, 2]), (81, .aload_n 0, [])]
def ev_b15_1 : List ev_I := [(82, .sipush 256, []), (85, .newarray .long, [3031, 2]), (87, .putfield 51, [0, 3078, 13, 15, 2]), (90, .aload_n 0, []), (91, .sipush 256, []), (94, .newarray .long, [3031, 2]), (96, .putfield 54, [0, 3081, 13, 16, 2]), (99, .aload_n 0, []), (100, .sipush 256, []), (103, .newarray .long, [3031, 2]), (105, .putfield 57, [0, 3083, 13, 17, 2]), (108, .aload_n 0, []), (109, .bipush 64, []), (111, .newarray .int, [1082, 0]), (113, .putfield 60, [0, 3084, 13, 18, 2]), (116, .return_, [])]
def ev_b15 : List ev_I := ev_b15_0 ++ (ev_b15_1)
/-- PathProver$Machine.<init>()V -/
def ev_b16_0 : List ev_I := [(0, .aload_n 0, []), (1, .invokespecial 3, [2142]), (4, .aload_n 0, []), (5, .new 9, [2143, 1056, 1003, 10]), (8, .dup, []), (9, .iconst 4, []), (10, .bipush 16, []), (12, .invokespecial 11, [0, 3, 2, 2144, 1058, 1003]), (15, .putfield 14, [0, 2166, 5, 1, 2]), (18, .aload_n 0, []), (19, .new 9, [2143, 1056, 1003, 10]), (22, .dup, []), (23, .iconst 4, []), (24, .bipush 28, []), (26, .invokespecial 11, [0, 3, 2, 2144, 1058, 1003]), (29, .putfield 20, [0, 2167, 5, 2, 2]), (32, .aload_n 0, []), (33, .bipush 16, []), (35, .newarray .int, [1082, 0]), (37, .putfield 23, [0, 2168, 5, 3, 2]), (40, .aload_n 0, []), (41, .bipush 64, []), (43, .newarray .int, [1082, 0]), (45, .putfield 27, [0, 2176, 5, 8, 2]), (48, .aload_n 0, []), (49, .sipush 1024, []), (52, .newarray .int, [1082, 0]), (54, .putfield 30, [0, 2177, 5, 9, 2]), (57, .aload_n 0, []), (58, .sipush 1024, []), (61, .newarray .int, [1082, 0]), (63, .putfield 33, [0, 2178, 5, 10, 2]), (66, .aload_n 0, []), (67, .sipush 1024, []), (70, .newarray .int, [1082, 0]), (72, .putfield 36, [0, 2179, 5, 11, 2]), (75, .aload_n 0, []), (76, .bipush 64, []), (78, .newarray .int, [1082, 0]), (80, .putfield 39, [0, 2180, 5, 12, 2])]
def ev_b16_1 : List ev_I := [(83, .aload_n 0, []), (84, .bipush 32, []), (86, .newarray .int, [1082, 0]), (88, .putfield 42, [0, 2181, 5, 13, 2]), (91, .aload_n 0, []), (92, .bipush 16, []), (94, .newarray .int, [1082, 0]), (96, .putfield 45, [0, 2183, 5, 15, 2]), (99, .iconst 0, []), (100, .istore_n 1, []), (101, .iload_n 1, []), (102, .bipush 28, []), (104, .if_icmp .ge 21, [125]), (107, .aload_n 0, []), (108, .getfield 20, [0, 2167, 5, 2]), (111, .iconst 0, []), (112, .iconst 0, []), (113, .iconst 0, []), (114, .iconst (-1), []), (115, .invokevirtual 48, [17, 4, 10, 2145, 2146, 2147, 1003]), (118, .pop, []), (119, .iinc 1 1, []), (122, .goto (-21), [101]), (125, .return_, [])]
def ev_b16 : List ev_I := ev_b16_0 ++ (ev_b16_1)
/-- PathProver$Rows.put(IIII)I -/
def ev_b17_0 : List ev_I := [(0, .aload_n 0, []), (1, .getfield 17, [0, 1063, 10, 2]), (4, .aload_n 0, []), (5, .getfield 7, [0, 1061, 10, 0]), (8, .imul, []), (9, .istore 5, []), (11, .iload 5, []), (13, .aload_n 0, []), (14, .getfield 7, [0, 1061, 10, 0]), (17, .iadd, []), (18, .aload_n 0, []), (19, .getfield 13, [0, 1062, 10, 1]), (22, .arraylength, []), (23, .if_icmp .le 26, [49]), (49, .iconst 0, []), (50, .istore 6, []), (52, .iload 6, []), (54, .aload_n 0, []), (55, .getfield 7, [0, 1061, 10, 0]), (58, .if_icmp .ge 60, [118]), (61, .aload_n 0, []), (62, .getfield 13, [0, 1062, 10, 1]), (65, .iload 5, []), (67, .iload 6, []), (69, .iadd, []), (70, .iload 6, []), (72, .ifCond .ne 7, [79]), (75, .iload_n 1, []), (76, .goto 35, [111]), (79, .iload 6, []), (81, .iconst 1, []), (82, .if_icmp .ne 7, [89]), (85, .iload_n 2, []), (86, .goto 25, [111]), (89, .iload 6, []), (91, .iconst 2, []), (92, .if_icmp .ne 7, [99]), (95, .iload_n 3, []), (96, .goto 15, [111]), (99, .iload 6, [])]
def ev_b17_1 : List ev_I := [(101, .iconst 3, []), (102, .if_icmp .ne 8, [110]), (105, .iload 4, []), (107, .goto 4, [111]), (111, .iastore, []), (112, .iinc 6 1, []), (115, .goto (-63), [52]), (118, .aload_n 0, []), (119, .dup, []), (120, .getfield 17, [0, 1063, 10, 2]), (123, .iconst 1, []), (124, .iadd, []), (125, .putfield 17, [0, 1063, 10, 2, 0]), (128, .aload_n 0, []), (129, .getfield 17, [0, 1063, 10, 2]), (132, .iconst 1, []), (133, .isub, []), (134, .ireturn, [])]
def ev_b17 : List ev_I := ev_b17_0 ++ (ev_b17_1)
/-- PathProver$Sets.<init>()V -/
def ev_b18 : List ev_I := [(0, .aload_n 0, []), (1, .invokespecial 5, [3003]), (4, .aload_n 0, []), (5, .sipush 184, []), (8, .anewarray 11, [3004, 4, 3005]), (11, .putfield 13, [0, 3006, 11, 0, 2]), (14, .aload_n 0, []), (15, .bipush 64, []), (17, .newarray .int, [1082, 0]), (19, .putfield 17, [0, 3012, 11, 3, 2]), (22, .aload_n 0, []), (23, .sipush 4096, []), (26, .newarray .int, [1082, 0]), (28, .putfield 21, [0, 3013, 11, 4, 2]), (31, .aload_n 0, []), (32, .sipush 4095, []), (35, .putfield 24, [0, 3014, 11, 5, 0]), (38, .aload_n 0, []), (39, .sipush 257, []), (42, .newarray .long, [3031, 2]), (44, .putfield 28, [0, 3015, 11, 6, 2]), (47, .return_, [])]
/-- PathProver$Relation.<init>(LPathProver$Space;)V -/
def ev_b19_0 : List ev_I := [(0, .aload_n 0, []), (1, .invokespecial 3, [3134]), (4, .aload_n 0, []), (5, .new 9, [3135, 1056, 1003, 10]), (8, .dup, []), (9, .bipush 6, []), (11, .bipush 8, []), (13, .invokespecial 11, [0, 3, 2, 3136, 1058, 1003]), (16, .putfield 14, [0, 3138, 9, 1, 2]), (19, .aload_n 0, []), (20, .new 9, [3135, 1056, 1003, 10]), (23, .dup, []), (24, .iconst 4, []), (25, .iconst 4, []), (26, .invokespecial 11, [0, 3, 2, 3136, 1058, 1003]), (29, .putfield 20, [0, 3140, 9, 3, 2]), (32, .aload_n 0, []), (33, .bipush 64, []), (35, .newarray .int, [1082, 0]), (37, .putfield 23, [0, 3141, 9, 4, 2]), (40, .aload_n 0, []), (41, .bipush 64, []), (43, .newarray .int, [1082, 0]), (45, .putfield 27, [0, 3143, 9, 6, 2]), (48, .aload_n 0, []), (49, .bipush 64, []), (51, .newarray .int, [1082, 0]), (53, .putfield 30, [0, 3146, 9, 7, 2]), (56, .aload_n 0, []), (57, .bipush 64, []), (59, .newarray .int, [1082, 0]), (61, .putfield 33, [0, 3147, 9, 8, 2]), (64, .aload_n 0, []), (65, .bipush 64, []), (67, .newarray .int, [1082, 0]), (69, .putfield 36, [0, 3148, 9, 9, 2]), (72, .aload_n 0, []), (73, .bipush 64, []), (75, .newarray .int, [1082, 0]), (77, .putfield 39, [0, 3149, 9, 10, 2])]
def ev_b19_1 : List ev_I := [(80, .aload_n 0, []), (81, .bipush 64, []), (83, .newarray .int, [1082, 0]), (85, .putfield 42, [0, 3151, 9, 12, 2]), (88, .aload_n 0, []), (89, .bipush 14, []), (91, .newarray .int, [1082, 0]), (93, .putfield 45, [0, 3152, 9, 13, 2]), (96, .aload_n 0, []), (97, .bipush 14, []), (99, .newarray .int, [1082, 0]), (101, .putfield 48, [0, 3153, 9, 14, 2]), (104, .aload_n 0, []), (105, .bipush 14, []), (107, .newarray .int, [1082, 0]), (109, .putfield 51, [0, 3154, 9, 15, 2]), (112, .aload_n 0, []), (113, .bipush 14, []), (115, .newarray .int, [1082, 0]), (117, .putfield 54, [0, 3155, 9, 16, 2]), (120, .aload_n 0, []), (121, .sipush 256, []), (124, .newarray .long, [3031, 2]), (126, .putfield 57, [0, 3156, 9, 17, 2]), (129, .aload_n 0, []), (130, .sipush 256, []), (133, .newarray .long, [3031, 2]), (135, .putfield 61, [0, 3157, 9, 18, 2]), (138, .aload_n 0, []), (139, .aload_n 1, []), (140, .putfield 64, [0, 3137, 9, 0, 2]), (143, .aload_n 0, []), (144, .aload_n 1, []), (145, .getfield 68, [1, 3046, 13, 3]), (148, .putfield 73, [0, 3139, 9, 2, 2]), (151, .return_, [])]
def ev_b19 : List ev_I := ev_b19_0 ++ (ev_b19_1)
/-- PathProver$Graph.<init>(LPathProver$Space;LPathProver$Relation;)V -/
def ev_b20_0 : List ev_I := [(0, .aload_n 0, []), (1, .invokespecial 3, [3221]), (4, .aload_n 0, []), (5, .sipush 256, []), (8, .newarray .long, [3031, 2]), (10, .putfield 9, [0, 3225, 2, 2, 2]), (13, .aload_n 0, []), (14, .sipush 256, []), (17, .newarray .long, [3031, 2]), (19, .putfield 15, [0, 3227, 2, 3, 2]), (22, .aload_n 0, []), (23, .sipush 256, []), (26, .newarray .long, [3031, 2]), (28, .putfield 18, [0, 3229, 2, 4, 2]), (31, .aload_n 0, []), (32, .sipush 256, []), (35, .newarray .long, [3031, 2]), (37, .putfield 21, [0, 3230, 2, 5, 2]), (40, .aload_n 0, []), (41, .sipush 256, []), (44, .newarray .long, [3031, 2]), (46, .putfield 24, [0, 3231, 2, 6, 2]), (49, .aload_n 0, []), (50, .sipush 256, []), (53, .newarray .long, [3031, 2]), (55, .putfield 27, [0, 3232, 2, 7, 2]), (58, .aload_n 0, []), (59, .bipush 64, []), (61, .newarray .int, [1082, 0]), (63, .putfield 30, [0, 3235, 2, 10, 2]), (66, .aload_n 0, []), (67, .bipush 64, []), (69, .newarray .int, [1082, 0]), (71, .putfield 34, [0, 3236, 2, 11, 2]), (74, .aload_n 0, []), (75, .bipush 64, []), (77, .newarray .int, [1082, 0]), (79, .putfield 37, [0, 3237, 2, 12, 2]), (82, .aload_n 0, []), (83, .bipush 64, [])]
def ev_b20_1 : List ev_I := [(85, .newarray .int, [1082, 0]), (87, .putfield 40, [0, 3238, 2, 13, 2]), (90, .aload_n 0, []), (91, .iconst (-1), []), (92, .putfield 43, [0, 4000, 2, 15, 0]), (95, .aload_n 0, []), (96, .aload_n 1, []), (97, .putfield 47, [0, 3222, 2, 0, 2]), (100, .aload_n 0, []), (101, .aload_n 2, []), (102, .putfield 51, [0, 3223, 2, 1, 2]), (105, .aload_n 0, []), (106, .aload_n 0, []), (107, .getfield 15, [0, 3227, 2, 3]), (110, .putfield 55, [0, 3233, 2, 8, 2]), (113, .return_, [])]
def ev_b20 : List ev_I := ev_b20_0 ++ (ev_b20_1)
/-- PathProver$Prover.<init>(LPathProver$Space;LPathProver$Graph;)V -/
def ev_b21_0 : List ev_I := [(0, .aload_n 0, []), (1, .invokespecial 3, [4061]), (4, .aload_n 0, []), (5, .new 9, [4062, 1056, 1003, 10]), (8, .dup, []), (9, .iconst 2, []), (10, .bipush 32, []), (12, .invokespecial 11, [0, 3, 2, 4063, 1058, 1003]), (15, .putfield 14, [0, 4067, 8, 2, 2]), (18, .aload_n 0, []), (19, .sipush 248, []), (22, .anewarray 20, [4064, 4, 3005]), (25, .putfield 22, [0, 4068, 8, 3, 2]), (28, .aload_n 0, []), (29, .sipush 256, []), (32, .newarray .long, [3031, 2]), (34, .putfield 26, [0, 4070, 8, 5, 2]), (37, .aload_n 0, []), (38, .bipush 64, []), (40, .anewarray 20, [4064, 4, 3005]), (43, .putfield 29, [0, 4071, 8, 6, 2]), (46, .aload_n 0, []), (47, .bipush 64, []), (49, .newarray .int, [1082, 0]), (51, .putfield 32, [0, 4072, 8, 7, 2]), (54, .aload_n 0, []), (55, .sipush 2001, []), (58, .newarray .int, [1082, 0]), (60, .putfield 36, [0, 4073, 8, 8, 2]), (63, .aload_n 0, []), (64, .sipush 2000, []), (67, .newarray .int, [1082, 0]), (69, .putfield 39, [0, 4074, 8, 9, 2]), (72, .aload_n 0, []), (73, .iconst (-1), []), (74, .putfield 42, [0, 4079, 8, 12, 0]), (77, .aload_n 0, []), (78, .aload_n 1, []), (79, .putfield 46, [0, 4065, 8, 0, 2]), (82, .aload_n 0, [])]
def ev_b21_1 : List ev_I := [(83, .aload_n 2, []), (84, .putfield 50, [0, 4066, 8, 1, 2]), (87, .return_, [])]
def ev_b21 : List ev_I := ev_b21_0 ++ (ev_b21_1)
/-- PathProverModel.<init>()V -/
def ev_b22_0 : List ev_I := [(0, .aload_n 0, []), (1, .invokespecial 1, [12094]), (4, .aload_n 0, []), (5, .ldc 7, [12095, 65536]), (7, .newarray .byte, [1081, 1]), (9, .putfield 8, [0, 12170, 1, 1, 2]), (12, .aload_n 0, []), (13, .iconst (-1), []), (14, .putfield 14, [0, 12172, 1, 3, 0]), (17, .aload_n 0, []), (18, .bipush 27, []), (20, .anewarray 18, [12096, 3, 12097]), (23, .dup, []), (24, .iconst 0, []), (25, .ldc 20, [12098, 0, 1]), (27, .aastore, []), (28, .dup, []), (29, .iconst 1, []), (30, .ldc 22, [12099, 0, 2]), (32, .aastore, []), (33, .dup, []), (34, .iconst 2, []), (35, .ldc 24, [12100, 0, 3]), (37, .aastore, []), (38, .dup, []), (39, .iconst 3, []), (40, .ldc 26, [12101, 0, 4]), (42, .aastore, []), (43, .dup, []), (44, .iconst 4, []), (45, .ldc 28, [12102, 0, 5]), (47, .aastore, []), (48, .dup, []), (49, .iconst 5, []), (50, .ldc 30, [12103, 0, 6]), (52, .aastore, []), (53, .dup, []), (54, .bipush 6, []), (56, .ldc 32, [12104, 0, 7]), (58, .aastore, [])]
def ev_b22_1 : List ev_I := [(59, .dup, []), (60, .bipush 7, []), (62, .ldc 34, [12105, 0, 8]), (64, .aastore, []), (65, .dup, []), (66, .bipush 8, []), (68, .ldc 36, [12106, 0, 9]), (70, .aastore, []), (71, .dup, []), (72, .bipush 9, []), (74, .ldc 38, [12107, 0, 10]), (76, .aastore, []), (77, .dup, []), (78, .bipush 10, []), (80, .ldc 40, [12108, 0, 11]), (82, .aastore, []), (83, .dup, []), (84, .bipush 11, []), (86, .ldc 42, [12109, 0, 12]), (88, .aastore, []), (89, .dup, []), (90, .bipush 12, []), (92, .ldc 44, [12110, 0, 13]), (94, .aastore, []), (95, .dup, []), (96, .bipush 13, []), (98, .ldc 46, [12111, 0, 14]), (100, .aastore, []), (101, .dup, []), (102, .bipush 14, []), (104, .ldc 48, [12112, 0, 15]), (106, .aastore, []), (107, .dup, []), (108, .bipush 15, []), (110, .ldc 50, [12113, 0, 16]), (112, .aastore, []), (113, .dup, []), (114, .bipush 16, []), (116, .ldc 52, [12114, 0, 17]), (118, .aastore, [])]
def ev_b22_2 : List ev_I := [(119, .dup, []), (120, .bipush 17, []), (122, .ldc 54, [12115, 0, 18]), (124, .aastore, []), (125, .dup, []), (126, .bipush 18, []), (128, .ldc 56, [12116, 0, 19]), (130, .aastore, []), (131, .dup, []), (132, .bipush 19, []), (134, .ldc 58, [12117, 0, 20]), (136, .aastore, []), (137, .dup, []), (138, .bipush 20, []), (140, .ldc 60, [12118, 0, 21]), (142, .aastore, []), (143, .dup, []), (144, .bipush 21, []), (146, .ldc 62, [12119, 0, 22]), (148, .aastore, []), (149, .dup, []), (150, .bipush 22, []), (152, .ldc 64, [12120, 0, 23]), (154, .aastore, []), (155, .dup, []), (156, .bipush 23, []), (158, .ldc 66, [12121, 0, 24]), (160, .aastore, []), (161, .dup, []), (162, .bipush 24, []), (164, .ldc 68, [12122, 0, 25]), (166, .aastore, []), (167, .dup, []), (168, .bipush 25, []), (170, .ldc 70, [12123, 0, 26]), (172, .aastore, []), (173, .dup, []), (174, .bipush 26, []), (176, .ldc 72, [12124, 0, 27]), (178, .aastore, [])]
def ev_b22_3 : List ev_I := [(179, .putfield 74, [0, 12173, 1, 4, 2]), (182, .aload_n 0, []), (183, .bipush 28, []), (185, .anewarray 18, [12096, 3, 12097]), (188, .dup, []), (189, .iconst 0, []), (190, .ldc 78, [12125, 0, 28]), (192, .aastore, []), (193, .dup, []), (194, .iconst 1, []), (195, .ldc 80, [12126, 0, 29]), (197, .aastore, []), (198, .dup, []), (199, .iconst 2, []), (200, .ldc 82, [12127, 0, 30]), (202, .aastore, []), (203, .dup, []), (204, .iconst 3, []), (205, .ldc 84, [12128, 0, 31]), (207, .aastore, []), (208, .dup, []), (209, .iconst 4, []), (210, .ldc 86, [12129, 0, 32]), (212, .aastore, []), (213, .dup, []), (214, .iconst 5, []), (215, .ldc 88, [12130, 0, 33]), (217, .aastore, []), (218, .dup, []), (219, .bipush 6, []), (221, .ldc 90, [12131, 0, 34]), (223, .aastore, []), (224, .dup, []), (225, .bipush 7, []), (227, .ldc 92, [12132, 0, 35]), (229, .aastore, []), (230, .dup, []), (231, .bipush 8, []), (233, .ldc 94, [12133, 0, 36]), (235, .aastore, [])]
def ev_b22_4 : List ev_I := [(236, .dup, []), (237, .bipush 9, []), (239, .ldc 96, [12134, 0, 37]), (241, .aastore, []), (242, .dup, []), (243, .bipush 10, []), (245, .ldc 98, [12135, 0, 38]), (247, .aastore, []), (248, .dup, []), (249, .bipush 11, []), (251, .ldc 100, [12136, 0, 39]), (253, .aastore, []), (254, .dup, []), (255, .bipush 12, []), (257, .ldc 102, [12137, 0, 40]), (259, .aastore, []), (260, .dup, []), (261, .bipush 13, []), (263, .ldc 104, [12138, 0, 41]), (265, .aastore, []), (266, .dup, []), (267, .bipush 14, []), (269, .ldc 106, [12139, 0, 42]), (271, .aastore, []), (272, .dup, []), (273, .bipush 15, []), (275, .ldc 108, [12140, 0, 43]), (277, .aastore, []), (278, .dup, []), (279, .bipush 16, []), (281, .ldc 110, [12141, 0, 44]), (283, .aastore, []), (284, .dup, []), (285, .bipush 17, []), (287, .ldc 112, [12142, 0, 45]), (289, .aastore, []), (290, .dup, []), (291, .bipush 18, []), (293, .ldc 114, [12143, 0, 46]), (295, .aastore, [])]
def ev_b22_5 : List ev_I := [(296, .dup, []), (297, .bipush 19, []), (299, .ldc 116, [12144, 0, 47]), (301, .aastore, []), (302, .dup, []), (303, .bipush 20, []), (305, .ldc 118, [12145, 0, 48]), (307, .aastore, []), (308, .dup, []), (309, .bipush 21, []), (311, .ldc 120, [12146, 0, 49]), (313, .aastore, []), (314, .dup, []), (315, .bipush 22, []), (317, .ldc 122, [12147, 0, 50]), (319, .aastore, []), (320, .dup, []), (321, .bipush 23, []), (323, .ldc 124, [12148, 0, 51]), (325, .aastore, []), (326, .dup, []), (327, .bipush 24, []), (329, .ldc 126, [12149, 0, 52]), (331, .aastore, []), (332, .dup, []), (333, .bipush 25, []), (335, .ldc 128, [12150, 0, 53]), (337, .aastore, []), (338, .dup, []), (339, .bipush 26, []), (341, .ldc 130, [12151, 0, 54]), (343, .aastore, []), (344, .dup, []), (345, .bipush 27, []), (347, .ldc 132, [12152, 0, 55]), (349, .aastore, []), (350, .putfield 134, [0, 12174, 1, 5, 2]), (353, .aload_n 0, []), (354, .bipush 16, []), (356, .anewarray 18, [12096, 3, 12097])]
def ev_b22_6 : List ev_I := [(359, .putfield 137, [0, 12181, 1, 13, 2]), (362, .aload_n 0, []), (363, .bipush 8, []), (365, .anewarray 140, [12153, 6, 12154]), (368, .putfield 142, [0, 12182, 1, 14, 2]), (371, .aload_n 0, []), (372, .bipush 16, []), (374, .anewarray 18, [12096, 3, 12097]), (377, .putfield 146, [0, 12184, 1, 16, 2]), (380, .aload_n 0, []), (381, .bipush 64, []), (383, .newarray .int, [1082, 0]), (385, .putfield 149, [0, 12190, 1, 22, 2]), (388, .aload_n 0, []), (389, .bipush 64, []), (391, .newarray .byte, [1081, 1]), (393, .putfield 153, [0, 12192, 1, 24, 2]), (396, .aload_n 0, []), (397, .bipush 64, []), (399, .newarray .int, [1082, 0]), (401, .putfield 156, [0, 12193, 1, 25, 2]), (404, .aload_n 0, []), (405, .bipush 64, []), (407, .newarray .int, [1082, 0]), (409, .putfield 159, [0, 12194, 1, 26, 2]), (412, .aload_n 0, []), (413, .bipush 64, []), (415, .newarray .int, [1082, 0]), (417, .putfield 162, [0, 12195, 1, 27, 2]), (420, .aload_n 0, []), (421, .iconst 0, []), (422, .newarray .int, [1082, 0]), (424, .putfield 165, [0, 12197, 1, 30, 2]), (427, .aload_n 0, []), (428, .iconst 0, []), (429, .newarray .int, [1082, 0]), (431, .putfield 168, [0, 12198, 1, 31, 2]), (434, .aload_n 0, []), (435, .new 171, [12155, 12156, 1022, 14]), (438, .dup, [])]
def ev_b22_7 : List ev_I := [(439, .invokespecial 173, [1, 23, 0, 12157, 12158, 1022]), (442, .putfield 174, [0, 12199, 1, 32, 2]), (445, .aload_n 0, []), (446, .new 171, [12155, 12156, 1022, 14]), (449, .dup, []), (450, .invokespecial 173, [1, 23, 0, 12157, 12158, 1022]), (453, .putfield 178, [0, 12200, 1, 33, 2]), (456, .aload_n 0, []), (457, .new 171, [12155, 12156, 1022, 14]), (460, .dup, []), (461, .invokespecial 173, [1, 23, 0, 12157, 12158, 1022]), (464, .putfield 181, [0, 12201, 1, 34, 2]), (467, .aload_n 0, []), (468, .new 171, [12155, 12156, 1022, 14]), (471, .dup, []), (472, .invokespecial 173, [1, 23, 0, 12157, 12158, 1022]), (475, .putfield 184, [0, 12202, 1, 35, 2]), (478, .aload_n 0, []), (479, .iconst (-1), []), (480, .putfield 187, [0, 12203, 1, 36, 0]), (483, .aload_n 0, []), (484, .sipush 2000, []), (487, .newarray .int, [1082, 0]), (489, .putfield 190, [0, 12204, 1, 37, 2]), (492, .aload_n 0, []), (493, .iconst (-1), []), (494, .putfield 193, [0, 12206, 1, 39, 0]), (497, .aload_n 0, []), (498, .iconst 0, []), (499, .newarray .int, [1082, 0]), (501, .putfield 196, [0, 12207, 1, 40, 2]), (504, .aload_n 0, []), (505, .iconst 0, []), (506, .newarray .long, [3031, 2]), (508, .putfield 199, [0, 12208, 1, 41, 2]), (511, .aload_n 0, []), (512, .iconst 0, []), (513, .newarray .int, [1082, 0]), (515, .putfield 203, [0, 12210, 1, 43, 2]), (518, .aload_n 0, [])]
def ev_b22_8 : List ev_I := [(519, .ldc 206, [12165, 200000]), (521, .newarray .int, [1082, 0]), (523, .putfield 207, [0, 12211, 1, 44, 2]), (526, .aload_n 0, []), (527, .iconst 0, []), (528, .anewarray 210, [12166, 5, 12167]), (531, .putfield 212, [0, 12216, 1, 49, 2]), (534, .aload_n 0, []), (535, .bipush 8, []), (537, .anewarray 171, [12155, 7, 12168]), (540, .putfield 216, [0, 12218, 1, 51, 2]), (543, .aload_n 0, []), (544, .iconst 0, []), (545, .newarray .int, [1082, 0]), (547, .putfield 220, [0, 12220, 1, 53, 2]), (550, .aload_n 0, []), (551, .sipush 2001, []), (554, .newarray .int, [1082, 0]), (556, .putfield 223, [0, 12221, 1, 54, 2]), (559, .return_, [])]
def ev_b22 : List ev_I := ev_b22_0 ++ (ev_b22_1 ++ (ev_b22_2 ++ (ev_b22_3 ++ (ev_b22_4 ++ (ev_b22_5 ++ (ev_b22_6 ++ (ev_b22_7 ++ (ev_b22_8))))))))
/-- PathProverModel$Bits.<init>()V -/
def ev_b23 : List ev_I := [(0, .aload_n 0, []), (1, .invokespecial 1, [12160]), (4, .aload_n 0, []), (5, .sipush 512, []), (8, .newarray .int, [1082, 0]), (10, .putfield 7, [0, 12161, 14, 0, 2]), (13, .return_, [])]
/-- PathProverLaw.feed(LPathProver;IIIII[J)I -/
def ev_b24 : List ev_I := [(0, .aload 6, []), (2, .iconst 0, []), (3, .aload_n 0, []), (4, .iload_n 1, []), (5, .iload_n 2, []), (6, .iload_n 3, []), (7, .iload 4, []), (9, .iload 5, []), (11, .invokevirtual 7, [25, 5, 0, 4191, 4192, 4193, 1001]), (14, .i2l, []), (15, .lastore, []), (16, .goto 7, [23]), (23, .iconst 0, []), (24, .ireturn, [])]
/-- PathProver.feed(IIIII)I -/
def ev_b25 : List ev_I := [(0, .aload_n 0, []), (1, .getfield 78, [0, 4141, 0, 1]), (4, .bipush 20, []), (6, .iadd, []), (7, .ldc 81, [4195, 65536]), (9, .if_icmp .le 11, [20]), (20, .aload_n 0, []), (21, .getfield 78, [0, 4141, 0, 1]), (24, .bipush 20, []), (26, .iadd, []), (27, .aload_n 0, []), (28, .getfield 9, [0, 4140, 0, 0]), (31, .arraylength, []), (32, .if_icmp .le 26, [58]), (58, .aload_n 0, []), (59, .iload_n 1, []), (60, .invokevirtual 97, [26, 1, 0, 5031, 5033, 1, 1001]), (63, .aload_n 0, []), (64, .iload_n 2, []), (65, .invokevirtual 97, [26, 1, 0, 5031, 5033, 1, 1001]), (68, .aload_n 0, []), (69, .iload_n 3, []), (70, .invokevirtual 97, [26, 1, 0, 5031, 5033, 1, 1001]), (73, .aload_n 0, []), (74, .iload 4, []), (76, .invokevirtual 97, [26, 1, 0, 5031, 5033, 1, 1001]), (79, .aload_n 0, []), (80, .iload 5, []), (82, .invokevirtual 97, [26, 1, 0, 5031, 5033, 1, 1001]), (85, .aload_n 0, []), (86, .getfield 78, [0, 4141, 0, 1]), (89, .ireturn, [])]
/-- PathProver.write(I)V -/
def ev_b26 : List ev_I := [(0, .bipush 24, []), (2, .istore_n 2, []), (3, .iload_n 2, []), (4, .ifCond .lt 32, [36]), (7, .aload_n 0, []), (8, .getfield 9, [0, 4140, 0, 0]), (11, .aload_n 0, []), (12, .getfield 78, [0, 4141, 0, 1]), (15, .iload_n 1, []), (16, .iload_n 2, []), (17, .ishr, []), (18, .i2b, []), (19, .bastore, []), (20, .aload_n 0, []), (21, .dup, []), (22, .getfield 78, [0, 4141, 0, 1]), (25, .iconst 1, []), (26, .iadd, []), (27, .putfield 78, [0, 4141, 0, 1, 0]), (30, .iinc 2 (-8), []), (33, .goto (-30), [3]), (36, .return_, [])]
/-- PathProverModel.feed(IIIII)I -/
def ev_b27_0 : List ev_I := [(0, .aload_n 0, []), (1, .iconst 0, []), (2, .putfield 226, [0, 12169, 1, 0, 0]), (5, .aload_n 0, []), (6, .getfield 229, [0, 12171, 1, 2]), (9, .bipush 20, []), (11, .iadd, []), (12, .ldc 7, [12095, 65536]), (14, .if_icmp .le 9, [23]), (23, .iconst 0, []), (24, .istore 6, []), (26, .iload 6, []), (28, .bipush 20, []), (30, .if_icmp .ge 90, [120]), (33, .iload 6, []), (35, .iconst 4, []), (36, .if_icmp .ge 7, [43]), (39, .iload_n 1, []), (40, .goto 39, [79]), (43, .iload 6, []), (45, .bipush 8, []), (47, .if_icmp .ge 7, [54]), (50, .iload_n 2, []), (51, .goto 28, [79]), (54, .iload 6, []), (56, .bipush 12, []), (58, .if_icmp .ge 7, [65]), (61, .iload_n 3, []), (62, .goto 17, [79]), (65, .iload 6, []), (67, .bipush 16, []), (69, .if_icmp .ge 8, [77]), (72, .iload 4, []), (74, .goto 5, [79]), (77, .iload 5, []), (79, .istore 7, []), (81, .aload_n 0, []), (82, .getfield 8, [0, 12170, 1, 1]), (85, .aload_n 0, []), (86, .getfield 229, [0, 12171, 1, 2])]
def ev_b27_1 : List ev_I := [(89, .iload 7, []), (91, .bipush 24, []), (93, .bipush 8, []), (95, .iload 6, []), (97, .iconst 4, []), (98, .irem, []), (99, .imul, []), (100, .isub, []), (101, .ishr, []), (102, .i2b, []), (103, .bastore, []), (104, .aload_n 0, []), (105, .dup, []), (106, .getfield 229, [0, 12171, 1, 2]), (109, .iconst 1, []), (110, .iadd, []), (111, .putfield 229, [0, 12171, 1, 2, 0]), (114, .iinc 6 1, []), (117, .goto (-91), [26]), (120, .aload_n 0, []), (121, .getfield 229, [0, 12171, 1, 2]), (124, .ireturn, [])]
def ev_b27 : List ev_I := ev_b27_0 ++ (ev_b27_1)
/-- PathProverModel.thrown()I -/
def ev_b28 : List ev_I := [(0, .aload_n 0, []), (1, .getfield 226, [0, 12169, 1, 0]), (4, .ireturn, [])]
/-- PathProverLaw.end(LPathProver;I[J)I -/
def ev_b29 : List ev_I := [(0, .aload_n 2, []), (1, .iconst 0, []), (2, .aload_n 0, []), (3, .iload_n 1, []), (4, .invokevirtual 15, [30, 1, 0, 5039, 5040, 5041, 1001]), (7, .i2l, []), (8, .lastore, []), (9, .goto 6, [15]), (12, .astore_n 3, []), (13, .iconst 1, []), (14, .ireturn, []), (15, .iconst 0, []), (16, .ireturn, [])]
/-- PathProver.end(I)I -/
def ev_b30 : List ev_I := [(0, .iload_n 1, []), (1, .ifCond .lt 11, [12]), (4, .iload_n 1, []), (5, .aload_n 0, []), (6, .getfield 78, [0, 4141, 0, 1]), (9, .if_icmp .le 11, [20]), (12, .new 101, [5043, 5044, 1027, 0, 0]), (15, .dup, []), (16, .invokespecial 103, [5052, 0]), (19, .athrow, []), (20, .aload_n 0, []), (21, .iload_n 1, []), (22, .putfield 78, [0, 4141, 0, 1, 0]), (25, .iload_n 1, []), (26, .ireturn, [])]
/-- PathProverModel.end(I)I -/
def ev_b31 : List ev_I := [(0, .aload_n 0, []), (1, .iconst 0, []), (2, .putfield 226, [0, 12169, 1, 0, 0]), (5, .iload_n 1, []), (6, .ifCond .lt 11, [17]), (9, .iload_n 1, []), (10, .aload_n 0, []), (11, .getfield 229, [0, 12171, 1, 2]), (14, .if_icmp .le 9, [23]), (17, .aload_n 0, []), (18, .iconst 1, []), (19, .invokevirtual 820, [32, 1, 1, 16031, 16033, 260, 1021]), (22, .ireturn, []), (23, .aload_n 0, []), (24, .iload_n 1, []), (25, .putfield 229, [0, 12171, 1, 2, 0]), (28, .iload_n 1, []), (29, .ireturn, [])]
/-- PathProverModel.fail(I)I -/
def ev_b32 : List ev_I := [(0, .aload_n 0, []), (1, .iload_n 1, []), (2, .putfield 226, [0, 12169, 1, 0, 0]), (5, .iconst 0, []), (6, .ireturn, [])]
/-- PathProverLaw.read(LPathProver;[J)I -/
def ev_b33 : List ev_I := [(0, .aload_n 1, []), (1, .iconst 0, []), (2, .aload_n 0, []), (3, .invokevirtual 21, [34, 0, 0, 5062, 5063, 5064, 1001]), (11, .astore_n 2, []), (12, .iconst 1, []), (13, .ireturn, [])]
/-- PathProver.read()I -/
def ev_b34 : List ev_I := [(0, .aload_n 0, []), (1, .getfield 78, [0, 4141, 0, 1]), (4, .istore_n 1, []), (5, .aload_n 0, []), (6, .iconst 0, []), (7, .putfield 78, [0, 4141, 0, 1, 0]), (10, .aload_n 0, []), (11, .aload_n 0, []), (12, .getfield 30, [0, 4146, 0, 6]), (15, .aload_n 0, []), (16, .getfield 24, [0, 4145, 0, 5]), (19, .aload_n 0, []), (20, .getfield 9, [0, 4140, 0, 0]), (23, .iload_n 1, []), (24, .invokevirtual 104, [35, 3, 7, 5066, 5067, 5068, 1004]), (27, .putfield 13, [0, 4142, 0, 2, 0]), (30, .aload_n 0, []), (31, .getfield 13, [0, 4142, 0, 2]), (34, .ifCond .lt 11, [45]), (37, .new 101, [5043, 5044, 1027, 0, 0]), (40, .dup, []), (41, .invokespecial 103, [5052, 0]), (44, .athrow, [])]
/-- PathProver$Parser.parse(LPathProver$Model;[BI)I -/
def ev_b35_0 : List ev_I := [(0, .aload_n 0, []), (1, .aload_n 1, []), (2, .putfield 27, [0, 2053, 7, 2, 2]), (5, .aload_n 0, []), (6, .getfield 27, [0, 2053, 7, 2]), (9, .invokevirtual 31, [36, 0, 6, 5070, 5071, 5072, 1002]), (12, .aload_n 0, []), (13, .getfield 23, [0, 2052, 7, 1]), (16, .invokevirtual 36, [37, 0, 10, 5078, 5075, 5076, 1003]), (19, .aload_n 0, []), (20, .getfield 12, [0, 2051, 7, 0]), (23, .aload_n 2, []), (24, .iload_n 3, []), (25, .invokevirtual 37, [38, 2, 4, 5079, 5080, 5081, 1005]), (28, .aload_n 0, []), (29, .iconst (-1), []), (30, .putfield 41, [0, 2054, 7, 3, 0]), (33, .aload_n 0, []), (34, .invokevirtual 45, [44, 0, 7, 5193, 5195, 10, 1004]), (37, .aload_n 0, []), (38, .iconst 0, []), (39, .putfield 48, [0, 2057, 7, 6, 0]), (42, .iconst 1, []), (43, .istore 4, []), (45, .iconst 0, []), (46, .istore 5, []), (48, .iload 5, []), (50, .ldc 51, [5199, 524288]), (52, .if_icmp .ge 226, [278]), (55, .iload 4, []), (57, .ifCond .eq 221, [278]), (60, .aload_n 0, []), (61, .getfield 48, [0, 2057, 7, 6]), (64, .bipush 10, []), (66, .if_icmp .eq 212, [278]), (69, .aload_n 0, []), (70, .getfield 48, [0, 2057, 7, 6]), (73, .tableswitch 193 0 9 #[55, 157, 64, 89, 114, 193, 193, 184, 166, 175], [266, 128, 230, 137, 162, 187, 266, 266, 257, 239, 248]), (128, .aload_n 0, []), (129, .invokevirtual 52, [47, 0, 7, 5200, 5202, 11, 1004])]
def ev_b35_1 : List ev_I := [(132, .istore 4, []), (134, .goto 138, [272]), (272, .iinc 5 1, []), (275, .goto (-227), [48]), (278, .iload 4, []), (280, .ifCond .ne 19, [299]), (283, .aload_n 0, []), (284, .getfield 12, [0, 2051, 7, 0]), (287, .getfield 83, [1, 2017, 4, 5]), (290, .aload_n 0, []), (291, .getfield 41, [0, 2054, 7, 3]), (294, .iconst 2, []), (295, .invokevirtual 86, [46, 2, 10, 5198, 5100, 5101, 1003]), (298, .ireturn, [])]
def ev_b35 : List ev_I := ev_b35_0 ++ (ev_b35_1)
/-- PathProver$Model.clear()V -/
def ev_b36_0 : List ev_I := [(0, .aload_n 0, []), (1, .getfield 14, [0, 1083, 6, 0]), (4, .invokevirtual 74, [37, 0, 10, 5074, 5075, 5076, 1003]), (7, .aload_n 0, []), (8, .getfield 20, [0, 1089, 6, 1]), (11, .invokevirtual 74, [37, 0, 10, 5074, 5075, 5076, 1003]), (14, .aload_n 0, []), (15, .getfield 23, [0, 1092, 6, 2]), (18, .invokevirtual 74, [37, 0, 10, 5074, 5075, 5076, 1003]), (21, .aload_n 0, []), (22, .getfield 26, [0, 1095, 6, 3]), (25, .invokevirtual 74, [37, 0, 10, 5074, 5075, 5076, 1003]), (28, .aload_n 0, []), (29, .getfield 29, [0, 1099, 6, 4]), (32, .invokevirtual 74, [37, 0, 10, 5074, 5075, 5076, 1003]), (35, .aload_n 0, []), (36, .getfield 32, [0, 1102, 6, 5]), (39, .invokevirtual 74, [37, 0, 10, 5074, 5075, 5076, 1003]), (42, .aload_n 0, []), (43, .getfield 35, [0, 1104, 6, 6]), (46, .invokevirtual 74, [37, 0, 10, 5074, 5075, 5076, 1003]), (49, .aload_n 0, []), (50, .getfield 38, [0, 1107, 6, 7]), (53, .invokevirtual 74, [37, 0, 10, 5074, 5075, 5076, 1003]), (56, .aload_n 0, []), (57, .getfield 41, [0, 1111, 6, 8]), (60, .invokevirtual 74, [37, 0, 10, 5074, 5075, 5076, 1003]), (63, .aload_n 0, []), (64, .getfield 44, [0, 1115, 6, 9]), (67, .invokevirtual 74, [37, 0, 10, 5074, 5075, 5076, 1003]), (70, .aload_n 0, []), (71, .getfield 47, [0, 1120, 6, 10]), (74, .invokevirtual 74, [37, 0, 10, 5074, 5075, 5076, 1003]), (77, .aload_n 0, []), (78, .getfield 50, [0, 1123, 6, 11]), (81, .invokevirtual 74, [37, 0, 10, 5074, 5075, 5076, 1003]), (84, .aload_n 0, []), (85, .getfield 53, [0, 1126, 6, 12]), (88, .invokevirtual 74, [37, 0, 10, 5074, 5075, 5076, 1003]), (91, .aload_n 0, [])]
def ev_b36_1 : List ev_I := [(92, .getfield 56, [0, 1127, 6, 13]), (95, .invokevirtual 74, [37, 0, 10, 5074, 5075, 5076, 1003]), (98, .aload_n 0, []), (99, .getfield 59, [0, 1130, 6, 14]), (102, .invokevirtual 74, [37, 0, 10, 5074, 5075, 5076, 1003]), (105, .aload_n 0, []), (106, .getfield 62, [0, 1133, 6, 15]), (109, .invokevirtual 74, [37, 0, 10, 5074, 5075, 5076, 1003]), (112, .aload_n 0, []), (113, .getfield 65, [0, 1140, 6, 16]), (116, .invokevirtual 74, [37, 0, 10, 5074, 5075, 5076, 1003]), (119, .aload_n 0, []), (120, .getfield 68, [0, 1144, 6, 17]), (123, .invokevirtual 74, [37, 0, 10, 5074, 5075, 5076, 1003]), (126, .return_, [])]
def ev_b36 : List ev_I := ev_b36_0 ++ (ev_b36_1)
/-- PathProver$Rows.clear()V -/
def ev_b37 : List ev_I := [(0, .aload_n 0, []), (1, .iconst 0, []), (2, .putfield 17, [0, 1063, 10, 2, 0]), (5, .return_, [])]
/-- PathProver$Lexer.scan([BI)V -/
def ev_b38_0 : List ev_I := [(0, .aload_n 0, []), (1, .aload_n 1, []), (2, .putfield 46, [0, 2011, 4, 0, 2]), (5, .aload_n 0, []), (6, .iload_n 2, []), (7, .putfield 49, [0, 2012, 4, 1, 0]), (10, .aload_n 0, []), (11, .iconst 0, []), (12, .putfield 52, [0, 2013, 4, 2, 0]), (15, .aload_n 0, []), (16, .getfield 14, [0, 2016, 4, 5]), (19, .invokevirtual 55, [37, 0, 10, 5083, 5075, 5076, 1003]), (22, .aload_n 0, []), (23, .invokevirtual 58, [39, 0, 4, 5084, 5086, 2, 1005]), (26, .aload_n 0, []), (27, .bipush 112, []), (29, .putfield 61, [0, 2014, 4, 3, 0]), (32, .iconst 0, []), (33, .istore_n 3, []), (34, .iload_n 3, []), (35, .iload_n 2, []), (36, .if_icmp .gt 129, [165]), (39, .aload_n 0, []), (40, .getfield 61, [0, 2014, 4, 3]), (43, .bipush 114, []), (45, .if_icmp .eq 120, [165]), (48, .aload_n 0, []), (49, .getfield 61, [0, 2014, 4, 3]), (52, .bipush 115, []), (54, .if_icmp .eq 111, [165]), (57, .aload_n 0, []), (58, .invokevirtual 64, [43, 0, 4, 5110, 5112, 6, 1005]), (61, .aload_n 0, []), (62, .getfield 52, [0, 2013, 4, 2]), (65, .istore 4, []), (67, .aload_n 0, []), (68, .iconst 0, []), (69, .putfield 67, [0, 2015, 4, 4, 0]), (72, .aload_n 0, []), (73, .getfield 52, [0, 2013, 4, 2])]
def ev_b38_1 : List ev_I := [(76, .aload_n 0, []), (77, .getfield 49, [0, 2012, 4, 1]), (80, .if_icmp .lt 12, [92]), (83, .aload_n 0, []), (84, .bipush 114, []), (86, .putfield 61, [0, 2014, 4, 3, 0]), (89, .goto 51, [140]), (140, .aload_n 0, []), (141, .getfield 14, [0, 2016, 4, 5]), (144, .aload_n 0, []), (145, .getfield 61, [0, 2014, 4, 3]), (148, .aload_n 0, []), (149, .getfield 67, [0, 2015, 4, 4]), (152, .iload 4, []), (154, .iconst 0, []), (155, .invokevirtual 86, [17, 4, 10, 5109, 2146, 2147, 1003]), (158, .pop, []), (159, .iinc 3 1, []), (162, .goto (-128), [34]), (165, .return_, [])]
def ev_b38 : List ev_I := ev_b38_0 ++ (ev_b38_1)
/-- PathProver$Lexer.forgetWords()V -/
def ev_b39_0 : List ev_I := [(0, .aload_n 0, []), (1, .iconst 0, []), (2, .putfield 90, [0, 2023, 4, 11, 0]), (5, .aload_n 0, []), (6, .iconst 0, []), (7, .putfield 93, [0, 2020, 4, 8, 0]), (10, .aload_n 0, []), (11, .getfield 39, [0, 2021, 4, 9]), (14, .invokevirtual 55, [37, 0, 10, 5083, 5075, 5076, 1003]), (17, .aload_n 0, []), (18, .getfield 42, [0, 2022, 4, 10]), (21, .iconst (-1), []), (22, .invokestatic 96, [40, 2, 5088, 5089, 1014]), (25, .iconst 0, []), (26, .istore_n 1, []), (27, .iconst 0, []), (28, .istore_n 2, []), (29, .iload_n 2, []), (30, .aload_n 0, []), (31, .getfield 28, [0, 2018, 4, 6]), (34, .arraylength, []), (35, .if_icmp .ge 35, [70]), (38, .aload_n 0, []), (39, .getfield 28, [0, 2018, 4, 6]), (42, .iload_n 2, []), (43, .baload, []), (44, .bipush 32, []), (46, .if_icmp .ne 18, [64]), (49, .aload_n 0, []), (50, .aload_n 0, []), (51, .getfield 28, [0, 2018, 4, 6]), (54, .iload_n 1, []), (55, .iload_n 2, []), (56, .invokevirtual 102, [41, 3, 4, 5091, 5093, 3, 1005]), (59, .pop, []), (60, .iload_n 2, []), (61, .iconst 1, []), (62, .iadd, []), (63, .istore_n 1, []), (64, .iinc 2 1, [])]
def ev_b39_1 : List ev_I := [(67, .goto (-38), [29]), (70, .return_, [])]
def ev_b39 : List ev_I := ev_b39_0 ++ (ev_b39_1)
/-- java/util/Arrays.fill([II)V -/
def ev_b40 : List ev_I := [(0, .iconst 0, []), (1, .istore_n 2, []), (2, .aload_n 0, []), (3, .arraylength, []), (4, .istore_n 3, []), (5, .iload_n 2, []), (6, .iload_n 3, []), (7, .if_icmp .ge 13, [20]), (10, .aload_n 0, []), (11, .iload_n 2, []), (12, .iload_n 1, []), (13, .iastore, []), (14, .iinc 2 1, []), (17, .goto (-12), [5]), (20, .return_, [])]
/-- PathProver$Lexer.numberOf([BII)I -/
def ev_b41_0 : List ev_I := [(0, .iconst 0, []), (1, .istore 4, []), (3, .iload_n 2, []), (4, .istore 5, []), (6, .iload 5, []), (8, .iload_n 3, []), (9, .if_icmp .ge 21, [30]), (12, .iload 4, []), (14, .bipush 31, []), (16, .imul, []), (17, .aload_n 1, []), (18, .iload 5, []), (20, .baload, []), (21, .iadd, []), (22, .istore 4, []), (24, .iinc 5 1, []), (27, .goto (-21), [6]), (30, .iload 4, []), (32, .iload 4, []), (34, .bipush 8, []), (36, .iushr, []), (37, .ixor, []), (38, .sipush 255, []), (41, .iand, []), (42, .istore 5, []), (44, .aload_n 0, []), (45, .getfield 42, [0, 2022, 4, 10]), (48, .iload 5, []), (50, .iaload, []), (51, .istore 6, []), (53, .iconst 0, []), (54, .istore 7, []), (56, .iload 7, []), (58, .aload_n 0, []), (59, .getfield 39, [0, 2021, 4, 9]), (62, .getfield 121, [1, 1072, 10, 2]), (65, .if_icmp .ge 41, [106]), (68, .iload 6, []), (70, .ifCond .lt 36, [106]), (106, .aload_n 0, [])]
def ev_b41_1 : List ev_I := [(107, .aload_n 1, []), (108, .iload_n 2, []), (109, .iload_n 3, []), (110, .iload 5, []), (112, .invokevirtual 131, [42, 4, 4, 5103, 5105, 5, 1005]), (115, .ireturn, [])]
def ev_b41 : List ev_I := ev_b41_0 ++ (ev_b41_1)
/-- PathProver$Lexer.keepWord([BIII)I -/
def ev_b42_0 : List ev_I := [(0, .iload_n 3, []), (1, .iload_n 2, []), (2, .isub, []), (3, .istore 5, []), (5, .aload_n 0, []), (6, .getfield 93, [0, 2020, 4, 8]), (9, .iload 5, []), (11, .iadd, []), (12, .aload_n 0, []), (13, .getfield 36, [0, 2019, 4, 7]), (16, .arraylength, []), (17, .if_icmp .le 24, [41]), (41, .aload_n 1, []), (42, .iload_n 2, []), (43, .aload_n 0, []), (44, .getfield 36, [0, 2019, 4, 7]), (47, .aload_n 0, []), (48, .getfield 93, [0, 2020, 4, 8]), (51, .iload 5, []), (53, .invokestatic 139, [5108]), (56, .aload_n 0, []), (57, .getfield 39, [0, 2021, 4, 9]), (60, .aload_n 0, []), (61, .getfield 93, [0, 2020, 4, 8]), (64, .iload 5, []), (66, .aload_n 0, []), (67, .getfield 42, [0, 2022, 4, 10]), (70, .iload 4, []), (72, .iaload, []), (73, .iconst (-1), []), (74, .invokevirtual 86, [17, 4, 10, 5109, 2146, 2147, 1003]), (77, .istore 6, []), (79, .aload_n 0, []), (80, .getfield 42, [0, 2022, 4, 10]), (83, .iload 4, []), (85, .iload 6, []), (87, .iastore, []), (88, .aload_n 0, []), (89, .dup, []), (90, .getfield 93, [0, 2020, 4, 8])]
def ev_b42_1 : List ev_I := [(93, .iload 5, []), (95, .iadd, []), (96, .putfield 93, [0, 2020, 4, 8, 0]), (99, .iload 6, []), (101, .ireturn, [])]
def ev_b42 : List ev_I := ev_b42_0 ++ (ev_b42_1)
/-- PathProver$Lexer.skipBlanks()V -/
def ev_b43 : List ev_I := [(0, .iconst 0, []), (1, .istore_n 1, []), (2, .aload_n 0, []), (3, .getfield 52, [0, 2013, 4, 2]), (6, .aload_n 0, []), (7, .getfield 49, [0, 2012, 4, 1]), (10, .if_icmp .ge 110, [120]), (120, .return_, [])]
/-- PathProver$Parser.advance()V -/
def ev_b44 : List ev_I := [(0, .aload_n 0, []), (1, .aload_n 0, []), (2, .getfield 41, [0, 2054, 7, 3]), (5, .iconst 1, []), (6, .iadd, []), (7, .aload_n 0, []), (8, .getfield 12, [0, 2051, 7, 0]), (11, .getfield 83, [1, 2017, 4, 5]), (14, .getfield 96, [1, 1068, 10, 2]), (17, .iconst 1, []), (18, .isub, []), (19, .invokestatic 110, [45, 2, 5197, 2160, 1015]), (22, .putfield 41, [0, 2054, 7, 3, 0]), (25, .aload_n 0, []), (26, .aload_n 0, []), (27, .getfield 12, [0, 2051, 7, 0]), (30, .getfield 83, [1, 2017, 4, 5]), (33, .aload_n 0, []), (34, .getfield 41, [0, 2054, 7, 3]), (37, .iconst 0, []), (38, .invokevirtual 86, [46, 2, 10, 5198, 5100, 5101, 1003]), (41, .putfield 56, [0, 2055, 7, 4, 0]), (44, .aload_n 0, []), (45, .aload_n 0, []), (46, .getfield 12, [0, 2051, 7, 0]), (49, .getfield 83, [1, 2017, 4, 5]), (52, .aload_n 0, []), (53, .getfield 41, [0, 2054, 7, 3]), (56, .iconst 1, []), (57, .invokevirtual 86, [46, 2, 10, 5198, 5100, 5101, 1003]), (60, .putfield 115, [0, 2056, 7, 5, 0]), (63, .return_, [])]
/-- java/lang/Math.min(II)I -/
def ev_b45 : List ev_I := [(0, .iload_n 0, []), (1, .iload_n 1, []), (2, .if_icmp .gt 7, [9]), (5, .iload_n 0, []), (6, .goto 4, [10]), (10, .ireturn, [])]
/-- PathProver$Rows.get(II)I -/
def ev_b46 : List ev_I := [(0, .iload_n 1, []), (1, .ifCond .lt 19, [20]), (4, .iload_n 1, []), (5, .aload_n 0, []), (6, .getfield 17, [0, 1063, 10, 2]), (9, .if_icmp .ge 11, [20]), (12, .iload_n 2, []), (13, .aload_n 0, []), (14, .getfield 7, [0, 1061, 10, 0]), (17, .if_icmp .lt 7, [24]), (24, .aload_n 0, []), (25, .getfield 13, [0, 1062, 10, 1]), (28, .iload_n 1, []), (29, .aload_n 0, []), (30, .getfield 7, [0, 1061, 10, 0]), (33, .imul, []), (34, .iload_n 2, []), (35, .iadd, []), (36, .iaload, []), (37, .ireturn, [])]
/-- PathProver$Parser.module()Z -/
def ev_b47 : List ev_I := [(0, .aload_n 0, []), (1, .iconst 0, []), (2, .invokevirtual 118, [48, 1, 7, 5204, 5206, 12, 1004]), (5, .ifCond .ne 5, [10]), (8, .iconst 0, []), (9, .ireturn, [])]
/-- PathProver$Parser.take(I)Z -/
def ev_b48 : List ev_I := [(0, .aload_n 0, []), (1, .getfield 56, [0, 2055, 7, 4]), (4, .iload_n 1, []), (5, .if_icmp .eq 5, [10]), (8, .iconst 0, []), (9, .ireturn, [])]
/-- PathProverModel.read()I -/
def ev_b49 : List ev_I := [(0, .aload_n 0, []), (1, .iconst 0, []), (2, .putfield 226, [0, 12169, 1, 0, 0]), (5, .aload_n 0, []), (6, .iconst (-1), []), (7, .putfield 14, [0, 12172, 1, 3, 0]), (10, .aload_n 0, []), (11, .getfield 495, [0, 12186, 1, 18]), (14, .astore_n 1, []), (15, .aload_n 0, []), (16, .invokevirtual 750, [50, 0, 1, 13110, 13112, 172, 1021]), (89, .astore_n 2, []), (90, .aload_n 0, []), (91, .aload_n 0, []), (92, .getfield 238, [0, 12177, 1, 8]), (95, .putfield 14, [0, 12172, 1, 3, 0]), (98, .aload_n 0, []), (99, .iconst 1, []), (100, .putfield 226, [0, 12169, 1, 0, 0]), (103, .goto 18, [121]), (121, .aload_n 0, []), (122, .iconst 0, []), (123, .putfield 229, [0, 12171, 1, 2, 0]), (126, .aload_n 0, []), (127, .getfield 226, [0, 12169, 1, 0]), (130, .ifCond .le 47, [177]), (133, .aload_n 0, []), (134, .aload_n 1, []), (135, .putfield 495, [0, 12186, 1, 18, 2]), (138, .aload_n 0, []), (139, .getfield 495, [0, 12186, 1, 18]), (142, .ifnull 28, [170]), (170, .aload_n 0, []), (171, .iconst 0, []), (172, .putfield 395, [0, 12185, 1, 17, 0]), (175, .iconst 0, []), (176, .ireturn, [])]
/-- PathProverModel.parse()V -/
def ev_b50 : List ev_I := [(0, .aload_n 0, []), (1, .iconst 0, []), (2, .putfield 443, [0, 12183, 1, 15, 0]), (5, .aload_n 0, []), (6, .bipush 16, []), (8, .anewarray 18, [12096, 3, 12097]), (11, .putfield 146, [0, 12184, 1, 16, 2]), (14, .aload_n 0, []), (15, .iconst 0, []), (16, .putfield 395, [0, 12185, 1, 17, 0]), (19, .aload_n 0, []), (20, .iconst 0, []), (21, .putfield 308, [0, 12180, 1, 12, 0]), (24, .aload_n 0, []), (25, .iconst 0, []), (26, .putfield 232, [0, 12175, 1, 6, 0]), (29, .aload_n 0, []), (30, .invokevirtual 302, [51, 0, 1, 13114, 13116, 173, 1021]), (33, .aload_n 0, []), (34, .getfield 443, [0, 12183, 1, 15]), (37, .aload_n 0, []), (38, .getfield 142, [0, 12182, 1, 14]), (41, .arraylength, []), (42, .if_icmp .ne 43, [85]), (85, .aload_n 0, []), (86, .getfield 142, [0, 12182, 1, 14]), (89, .aload_n 0, []), (90, .dup, []), (91, .getfield 443, [0, 12183, 1, 15]), (94, .dup_x1, []), (95, .iconst 1, []), (96, .iadd, []), (97, .putfield 443, [0, 12183, 1, 15, 0]), (100, .aload_n 0, []), (101, .invokevirtual 446, [53, 0, 1, 13150, 13152, 177, 1021])]
/-- PathProverModel.advance()V -/
def ev_b51 : List ev_I := [(0, .aload_n 0, []), (1, .invokevirtual 235, [52, 0, 1, 13118, 13120, 174, 1021]), (4, .aload_n 0, []), (5, .aload_n 0, []), (6, .getfield 232, [0, 12175, 1, 6]), (9, .putfield 238, [0, 12177, 1, 8, 0]), (12, .aload_n 0, []), (13, .getfield 232, [0, 12175, 1, 6]), (16, .aload_n 0, []), (17, .getfield 229, [0, 12171, 1, 2]), (20, .if_icmp .ne 9, [29]), (23, .aload_n 0, []), (24, .iconst 0, []), (25, .putfield 241, [0, 12176, 1, 7, 0]), (28, .return_, [])]
/-- PathProverModel.skip()V -/
def ev_b52 : List ev_I := [(0, .aload_n 0, []), (1, .getfield 232, [0, 12175, 1, 6]), (4, .aload_n 0, []), (5, .getfield 229, [0, 12171, 1, 2]), (8, .if_icmp .ge 127, [135]), (135, .return_, [])]
/-- PathProverModel.module()LPathProverModel$Module; -/
def ev_b53 : List ev_I := [(0, .aload_n 0, []), (1, .ldc 78, [12125, 0, 28]), (3, .invokevirtual 341, [54, 1, 1, 13154, 13156, 178, 1021])]
/-- PathProverModel.expect(Ljava/lang/String;)V -/
def ev_b54 : List ev_I := [(0, .aload_n 0, []), (1, .aload_n 0, []), (2, .aload_n 1, []), (3, .invokevirtual 294, [55, 1, 1, 13158, 13160, 179, 1021]), (6, .invokevirtual 298, [56, 1, 1, 13170, 13172, 180, 1021])]
/-- PathProverModel.is(Ljava/lang/String;)Z -/
def ev_b55 : List ev_I := [(0, .aload_n 0, []), (1, .getfield 241, [0, 12176, 1, 7]), (4, .iconst 2, []), (5, .if_icmp .ne 12, [17]), (17, .aload_n 0, []), (18, .getfield 241, [0, 12176, 1, 7]), (21, .bipush 10, []), (23, .if_icmp .lt 26, [49]), (49, .iconst 0, []), (50, .ireturn, [])]
/-- PathProverModel.can(Z)Z -/
def ev_b56 : List ev_I := [(0, .iload_n 1, []), (1, .ifCond .ne 11, [12]), (4, .new 291, [13107, 5044, 1027, 0, 0]), (7, .dup, []), (8, .invokespecial 293, [13174, 0]), (11, .athrow, [])]
/-- PathProver.place()I -/
def ev_b57 : List ev_I := [(0, .aload_n 0, []), (1, .getfield 13, [0, 4142, 0, 2]), (4, .ireturn, [])]
/-- PathProverModel.place()I -/
def ev_b58 : List ev_I := [(0, .aload_n 0, []), (1, .iconst 0, []), (2, .putfield 226, [0, 12169, 1, 0, 0]), (5, .aload_n 0, []), (6, .getfield 14, [0, 12172, 1, 3]), (9, .ireturn, [])]
/-- PathProverLaw.check(LPathProver;I[J)I -/
def ev_b59 : List ev_I := [(0, .aload_n 2, []), (1, .iconst 0, []), (2, .aload_n 0, []), (3, .iload_n 1, []), (4, .invokevirtual 27, [60, 1, 0, 7132, 7133, 7134, 1001]), (19, .astore_n 3, []), (20, .iconst 1, []), (21, .ireturn, []), (22, .astore_n 3, []), (23, .iconst 2, []), (24, .ireturn, [])]
/-- PathProver.check(I)Z -/
def ev_b60 : List ev_I := [(0, .aload_n 0, []), (1, .iload_n 1, []), (2, .aload_n 0, []), (3, .getfield 20, [0, 4144, 0, 4]), (6, .getfield 128, [1, 1145, 6, 17]), (9, .getfield 132, [1, 1071, 10, 2]), (12, .invokevirtual 137, [61, 2, 0, 7136, 7138, 78, 1001]), (15, .aload_n 0, []), (16, .invokevirtual 141, [64, 0, 0, 7140, 7142, 79, 1001])]
/-- PathProver.needNumber(II)V -/
def ev_b61 : List ev_I := [(0, .iload_n 1, []), (1, .ifCond .lt 15, [16]), (4, .aload_n 0, []), (5, .getfield 115, [0, 4143, 0, 3]), (8, .ifCond .eq 16, [24]), (16, .new 101, [5043, 5044, 1027, 0, 0]), (19, .dup, []), (20, .invokespecial 103, [5052, 0]), (23, .athrow, []), (24, .return_, [])]
/-- PathProverModel.check(I)Z -/
def ev_b62 : List ev_I := [(0, .aload_n 0, []), (1, .iconst 0, []), (2, .putfield 226, [0, 12169, 1, 0, 0]), (5, .aload_n 0, []), (6, .iload_n 1, []), (7, .invokevirtual 823, [63, 1, 1, 16047, 16049, 261, 1021]), (10, .ifCond .eq 17, [27]), (13, .aload_n 0, []), (14, .iconst 1, []), (15, .invokevirtual 820, [32, 1, 1, 16031, 16033, 260, 1021]), (18, .ifCond .le 7, [25]), (25, .iconst 0, []), (26, .ireturn, []), (27, .aload_n 0, []), (28, .getfield 495, [0, 12186, 1, 18]), (31, .ifnonnull 17, [48]), (34, .aload_n 0, []), (35, .iconst 2, []), (36, .invokevirtual 820, [32, 1, 1, 16031, 16033, 260, 1021]), (39, .ifCond .le 7, [46]), (46, .iconst 0, []), (47, .ireturn, [])]
/-- PathProverModel.noSpec(I)Z -/
def ev_b63 : List ev_I := [(0, .iload_n 1, []), (1, .ifCond .lt 21, [22]), (4, .aload_n 0, []), (5, .getfield 495, [0, 12186, 1, 18]), (8, .ifnull 18, [26]), (22, .iconst 1, []), (23, .goto 4, [27]), (26, .iconst 0, []), (27, .ireturn, [])]
/-- PathProver.needModel()V -/
def ev_b64 : List ev_I := [(0, .aload_n 0, []), (1, .getfield 115, [0, 4143, 0, 3]), (4, .ifCond .ne 11, [15]), (7, .new 317, [7144, 7145, 1038, 0, 1]), (10, .dup, []), (11, .invokespecial 319, [7153, 1]), (14, .athrow, [])]
/-- PathProverLaw.states(LPathProver;II[J)I -/
def ev_b65 : List ev_I := [(0, .aload_n 3, []), (1, .iconst 0, []), (2, .aload_n 0, []), (3, .iload_n 1, []), (4, .iload_n 2, []), (5, .invokevirtual 33, [66, 2, 0, 11179, 11180, 11181, 1001]), (13, .astore 4, []), (15, .iconst 1, []), (16, .ireturn, []), (17, .astore 4, []), (19, .iconst 2, []), (20, .ireturn, [])]
/-- PathProver.states(II)I -/
def ev_b66 : List ev_I := [(0, .iload_n 1, []), (1, .ifCond .lt 21, [22]), (4, .iload_n 1, []), (5, .iconst 5, []), (6, .if_icmp .gt 16, [22]), (9, .iload_n 2, []), (10, .ifCond .lt 12, [22]), (13, .iload_n 1, []), (14, .iconst 5, []), (15, .if_icmp .eq 15, [30]), (18, .iload_n 2, []), (19, .ifCond .eq 11, [30]), (22, .new 101, [5043, 5044, 1027, 0, 0]), (25, .dup, []), (26, .invokespecial 103, [5052, 0]), (29, .athrow, []), (30, .iload_n 1, []), (31, .iconst 5, []), (32, .if_icmp .ne 18, [50]), (35, .aload_n 0, []), (36, .iload_n 2, []), (37, .aload_n 0, []), (38, .getfield 20, [0, 4144, 0, 4]), (41, .getfield 128, [1, 1145, 6, 17]), (44, .getfield 132, [1, 1071, 10, 2]), (47, .invokevirtual 137, [61, 2, 0, 7136, 7138, 78, 1001]), (50, .aload_n 0, []), (51, .invokevirtual 141, [64, 0, 0, 7140, 7142, 79, 1001])]
/-- PathProverModel.states(II)I -/
def ev_b67 : List ev_I := [(0, .aload_n 0, []), (1, .iconst 0, []), (2, .putfield 226, [0, 12169, 1, 0, 0]), (5, .iload_n 1, []), (6, .ifCond .lt 30, [36]), (9, .iload_n 1, []), (10, .iconst 5, []), (11, .if_icmp .gt 25, [36]), (14, .iload_n 1, []), (15, .iconst 5, []), (16, .if_icmp .ge 7, [23]), (19, .iload_n 2, []), (20, .ifCond .ne 16, [36]), (23, .iload_n 1, []), (24, .iconst 5, []), (25, .if_icmp .ne 17, [42]), (28, .aload_n 0, []), (29, .iload_n 2, []), (30, .invokevirtual 823, [63, 1, 1, 16047, 16049, 261, 1021]), (33, .ifCond .eq 9, [42]), (36, .aload_n 0, []), (37, .iconst 1, []), (38, .invokevirtual 820, [32, 1, 1, 16031, 16033, 260, 1021]), (41, .ireturn, []), (42, .aload_n 0, []), (43, .getfield 495, [0, 12186, 1, 18]), (46, .ifnonnull 9, [55]), (49, .aload_n 0, []), (50, .iconst 2, []), (51, .invokevirtual 820, [32, 1, 1, 16031, 16033, 260, 1021]), (54, .ireturn, [])]
/-- PathProverLaw.count(LPathProver;I[J)I -/
def ev_b68 : List ev_I := [(0, .aload_n 2, []), (1, .iconst 0, []), (2, .aload_n 0, []), (3, .iload_n 1, []), (4, .invokevirtual 37, [69, 1, 0, 11202, 11203, 11204, 1001]), (12, .astore_n 3, []), (13, .iconst 1, []), (14, .ireturn, []), (15, .astore_n 3, []), (16, .iconst 2, []), (17, .ireturn, [])]
/-- PathProver.count(I)I -/
def ev_b69 : List ev_I := [(0, .iload_n 1, []), (1, .ifCond .lt 9, [10]), (4, .iload_n 1, []), (5, .bipush 7, []), (7, .if_icmp .le 11, [18]), (10, .new 101, [5043, 5044, 1027, 0, 0]), (13, .dup, []), (14, .invokespecial 103, [5052, 0]), (17, .athrow, []), (18, .aload_n 0, []), (19, .invokevirtual 141, [64, 0, 0, 7140, 7142, 79, 1001])]
/-- PathProverModel.count(I)I -/
def ev_b70 : List ev_I := [(0, .aload_n 0, []), (1, .iconst 0, []), (2, .putfield 226, [0, 12169, 1, 0, 0]), (5, .iload_n 1, []), (6, .ifCond .lt 9, [15]), (9, .iload_n 1, []), (10, .bipush 7, []), (12, .if_icmp .le 9, [21]), (15, .aload_n 0, []), (16, .iconst 1, []), (17, .invokevirtual 820, [32, 1, 1, 16031, 16033, 260, 1021]), (20, .ireturn, []), (21, .aload_n 0, []), (22, .getfield 495, [0, 12186, 1, 18]), (25, .ifnonnull 9, [34]), (28, .aload_n 0, []), (29, .iconst 2, []), (30, .invokevirtual 820, [32, 1, 1, 16031, 16033, 260, 1021]), (33, .ireturn, [])]
/-- PathProverLaw.show(LPathProver;I[J)I -/
def ev_b71 : List ev_I := [(0, .aload_n 2, []), (1, .iconst 0, []), (2, .aload_n 0, []), (3, .iload_n 1, []), (4, .invokevirtual 40, [72, 1, 0, 11210, 11211, 11212, 1001]), (12, .astore_n 3, []), (13, .iconst 1, []), (14, .ireturn, []), (15, .astore_n 3, []), (16, .iconst 2, []), (17, .ireturn, [])]
/-- PathProver.show(I)I -/
def ev_b72 : List ev_I := [(0, .aload_n 0, []), (1, .iload_n 1, []), (2, .aload_n 0, []), (3, .getfield 20, [0, 4144, 0, 4]), (6, .getfield 128, [1, 1145, 6, 17]), (9, .getfield 132, [1, 1071, 10, 2]), (12, .invokevirtual 137, [61, 2, 0, 7136, 7138, 78, 1001]), (15, .aload_n 0, []), (16, .invokevirtual 141, [64, 0, 0, 7140, 7142, 79, 1001])]
/-- PathProverModel.show(I)I -/
def ev_b73 : List ev_I := [(0, .aload_n 0, []), (1, .iconst 0, []), (2, .putfield 226, [0, 12169, 1, 0, 0]), (5, .aload_n 0, []), (6, .iload_n 1, []), (7, .invokevirtual 823, [63, 1, 1, 16047, 16049, 261, 1021]), (10, .ifCond .eq 9, [19]), (13, .aload_n 0, []), (14, .iconst 1, []), (15, .invokevirtual 820, [32, 1, 1, 16031, 16033, 260, 1021]), (18, .ireturn, []), (19, .aload_n 0, []), (20, .getfield 495, [0, 12186, 1, 18]), (23, .ifnonnull 9, [32]), (26, .aload_n 0, []), (27, .iconst 2, []), (28, .invokevirtual 820, [32, 1, 1, 16031, 16033, 260, 1021]), (31, .ireturn, [])]
/-- PathProverLaw.pick(LPathProver;I[J)I -/
def ev_b74 : List ev_I := [(0, .aload_n 2, []), (1, .iconst 0, []), (2, .aload_n 0, []), (3, .iload_n 1, []), (4, .invokevirtual 43, [75, 1, 0, 12006, 12007, 12008, 1001]), (12, .astore_n 3, []), (13, .iconst 1, []), (14, .ireturn, []), (15, .astore_n 3, []), (16, .iconst 2, []), (17, .ireturn, [])]
/-- PathProver.pick(I)I -/
def ev_b75 : List ev_I := [(0, .aload_n 0, []), (1, .iload_n 1, []), (2, .invokevirtual 195, [76, 1, 0, 12010, 12012, 168, 1001]), (5, .aload_n 0, []), (6, .invokevirtual 141, [64, 0, 0, 7140, 7142, 79, 1001])]
/-- PathProver.needPlain(I)V -/
def ev_b76 : List ev_I := [(0, .iload_n 1, []), (1, .ifCond .ge 11, [12]), (4, .new 101, [5043, 5044, 1027, 0, 0]), (7, .dup, []), (8, .invokespecial 103, [5052, 0]), (11, .athrow, []), (12, .return_, [])]
/-- PathProverModel.pick(I)I -/
def ev_b77 : List ev_I := [(0, .aload_n 0, []), (1, .iconst 0, []), (2, .putfield 226, [0, 12169, 1, 0, 0]), (5, .iload_n 1, []), (6, .ifCond .ge 9, [15]), (9, .aload_n 0, []), (10, .iconst 1, []), (11, .invokevirtual 820, [32, 1, 1, 16031, 16033, 260, 1021]), (14, .ireturn, []), (15, .aload_n 0, []), (16, .getfield 495, [0, 12186, 1, 18]), (19, .ifnonnull 9, [28]), (22, .aload_n 0, []), (23, .iconst 2, []), (24, .invokevirtual 820, [32, 1, 1, 16031, 16033, 260, 1021]), (27, .ireturn, [])]
/-- PathProverLaw.first(LPathProver;I[J)I -/
def ev_b78 : List ev_I := [(0, .aload_n 2, []), (1, .iconst 0, []), (2, .aload_n 0, []), (3, .iload_n 1, []), (4, .invokevirtual 46, [79, 1, 0, 12022, 12023, 12024, 1001]), (12, .astore_n 3, []), (13, .iconst 1, []), (14, .ireturn, []), (15, .astore_n 3, []), (16, .iconst 2, []), (17, .ireturn, [])]
/-- PathProver.first(I)I -/
def ev_b79 : List ev_I := [(0, .aload_n 0, []), (1, .iload_n 1, []), (2, .invokevirtual 195, [76, 1, 0, 12010, 12012, 168, 1001]), (5, .aload_n 0, []), (6, .invokevirtual 141, [64, 0, 0, 7140, 7142, 79, 1001])]
/-- PathProverModel.first(I)I -/
def ev_b80 : List ev_I := [(0, .aload_n 0, []), (1, .iconst 0, []), (2, .putfield 226, [0, 12169, 1, 0, 0]), (5, .iload_n 1, []), (6, .ifCond .ge 9, [15]), (9, .aload_n 0, []), (10, .iconst 1, []), (11, .invokevirtual 820, [32, 1, 1, 16031, 16033, 260, 1021]), (14, .ireturn, []), (15, .aload_n 0, []), (16, .getfield 495, [0, 12186, 1, 18]), (19, .ifnonnull 9, [28]), (22, .aload_n 0, []), (23, .iconst 2, []), (24, .invokevirtual 820, [32, 1, 1, 16031, 16033, 260, 1021]), (27, .ireturn, [])]
/-- PathProverLaw.step(LPathProver;I[J)I -/
def ev_b81 : List ev_I := [(0, .aload_n 2, []), (1, .iconst 0, []), (2, .aload_n 0, []), (3, .iload_n 1, []), (4, .invokevirtual 49, [82, 1, 0, 12037, 12038, 12039, 1001]), (12, .astore_n 3, []), (13, .iconst 1, []), (14, .ireturn, []), (15, .astore_n 3, []), (16, .iconst 2, []), (17, .ireturn, [])]
/-- PathProver.step(I)I -/
def ev_b82 : List ev_I := [(0, .aload_n 0, []), (1, .iload_n 1, []), (2, .invokevirtual 195, [76, 1, 0, 12010, 12012, 168, 1001]), (5, .aload_n 0, []), (6, .invokevirtual 141, [64, 0, 0, 7140, 7142, 79, 1001])]
/-- PathProverModel.step(I)I -/
def ev_b83 : List ev_I := [(0, .aload_n 0, []), (1, .iconst 0, []), (2, .putfield 226, [0, 12169, 1, 0, 0]), (5, .iload_n 1, []), (6, .ifCond .ge 9, [15]), (9, .aload_n 0, []), (10, .iconst 1, []), (11, .invokevirtual 820, [32, 1, 1, 16031, 16033, 260, 1021]), (14, .ireturn, []), (15, .aload_n 0, []), (16, .getfield 495, [0, 12186, 1, 18]), (19, .ifnonnull 9, [28]), (22, .aload_n 0, []), (23, .iconst 2, []), (24, .invokevirtual 820, [32, 1, 1, 16031, 16033, 260, 1021]), (27, .ireturn, [])]
/-- PathProverLaw.value(LPathProver;I[J)I -/
def ev_b84 : List ev_I := [(0, .aload_n 2, []), (1, .iconst 0, []), (2, .aload_n 0, []), (3, .iload_n 1, []), (4, .invokevirtual 52, [85, 1, 0, 12053, 12054, 12055, 1001]), (12, .astore_n 3, []), (13, .iconst 1, []), (14, .ireturn, []), (15, .astore_n 3, []), (16, .iconst 2, []), (17, .ireturn, [])]
/-- PathProver.value(I)I -/
def ev_b85 : List ev_I := [(0, .aload_n 0, []), (1, .iload_n 1, []), (2, .aload_n 0, []), (3, .getfield 20, [0, 4144, 0, 4]), (6, .getfield 160, [1, 1138, 6, 15]), (9, .getfield 132, [1, 1071, 10, 2]), (12, .invokevirtual 137, [61, 2, 0, 7136, 7138, 78, 1001]), (15, .aload_n 0, []), (16, .invokevirtual 141, [64, 0, 0, 7140, 7142, 79, 1001])]
/-- PathProverModel.value(I)I -/
def ev_b86 : List ev_I := [(0, .aload_n 0, []), (1, .iconst 0, []), (2, .putfield 226, [0, 12169, 1, 0, 0]), (5, .iload_n 1, []), (6, .ifCond .lt 21, [27]), (9, .aload_n 0, []), (10, .getfield 495, [0, 12186, 1, 18]), (13, .ifnull 20, [33]), (27, .aload_n 0, []), (28, .iconst 1, []), (29, .invokevirtual 820, [32, 1, 1, 16031, 16033, 260, 1021]), (32, .ireturn, []), (33, .aload_n 0, []), (34, .getfield 495, [0, 12186, 1, 18]), (37, .ifnonnull 9, [46]), (40, .aload_n 0, []), (41, .iconst 2, []), (42, .invokevirtual 820, [32, 1, 1, 16031, 16033, 260, 1021]), (45, .ireturn, [])]
/-- PathProverLaw.holds(LPathProver;I[J)I -/
def ev_b87 : List ev_I := [(0, .aload_n 2, []), (1, .iconst 0, []), (2, .aload_n 0, []), (3, .iload_n 1, []), (4, .invokevirtual 55, [88, 1, 0, 12067, 12068, 12069, 1001]), (19, .astore_n 3, []), (20, .iconst 1, []), (21, .ireturn, []), (22, .astore_n 3, []), (23, .iconst 2, []), (24, .ireturn, [])]
/-- PathProver.holds(I)Z -/
def ev_b88 : List ev_I := [(0, .aload_n 0, []), (1, .iload_n 1, []), (2, .aload_n 0, []), (3, .getfield 20, [0, 4144, 0, 4]), (6, .getfield 128, [1, 1145, 6, 17]), (9, .getfield 132, [1, 1071, 10, 2]), (12, .invokevirtual 137, [61, 2, 0, 7136, 7138, 78, 1001]), (15, .aload_n 0, []), (16, .invokevirtual 141, [64, 0, 0, 7140, 7142, 79, 1001])]
/-- PathProverModel.holds(I)Z -/
def ev_b89 : List ev_I := [(0, .aload_n 0, []), (1, .iconst 0, []), (2, .putfield 226, [0, 12169, 1, 0, 0]), (5, .aload_n 0, []), (6, .iload_n 1, []), (7, .invokevirtual 823, [63, 1, 1, 16047, 16049, 261, 1021]), (10, .ifCond .eq 17, [27]), (13, .aload_n 0, []), (14, .iconst 1, []), (15, .invokevirtual 820, [32, 1, 1, 16031, 16033, 260, 1021]), (18, .ifCond .le 7, [25]), (25, .iconst 0, []), (26, .ireturn, []), (27, .aload_n 0, []), (28, .getfield 495, [0, 12186, 1, 18]), (31, .ifnonnull 17, [48]), (34, .aload_n 0, []), (35, .iconst 2, []), (36, .invokevirtual 820, [32, 1, 1, 16031, 16033, 260, 1021]), (39, .ifCond .le 7, [46]), (46, .iconst 0, []), (47, .ireturn, [])]
/-- PathProverLaw.tidy(LPathProver;I[J)I -/
def ev_b90 : List ev_I := [(0, .aload_n 2, []), (1, .iconst 0, []), (2, .aload_n 0, []), (3, .iload_n 1, []), (4, .invokevirtual 58, [91, 1, 0, 12078, 12079, 12080, 1001]), (12, .astore_n 3, []), (13, .iconst 1, []), (14, .ireturn, []), (15, .astore_n 3, []), (16, .iconst 2, []), (17, .ireturn, [])]
/-- PathProver.tidy(I)I -/
def ev_b91 : List ev_I := [(0, .iload_n 1, []), (1, .ifCond .lt 8, [9]), (4, .iload_n 1, []), (5, .iconst 3, []), (6, .if_icmp .le 11, [17]), (9, .new 101, [5043, 5044, 1027, 0, 0]), (12, .dup, []), (13, .invokespecial 103, [5052, 0]), (16, .athrow, []), (17, .aload_n 0, []), (18, .invokevirtual 141, [64, 0, 0, 7140, 7142, 79, 1001])]
/-- PathProverModel.tidy(I)I -/
def ev_b92 : List ev_I := [(0, .aload_n 0, []), (1, .iconst 0, []), (2, .putfield 226, [0, 12169, 1, 0, 0]), (5, .iload_n 1, []), (6, .ifCond .lt 8, [14]), (9, .iload_n 1, []), (10, .iconst 3, []), (11, .if_icmp .le 9, [20]), (14, .aload_n 0, []), (15, .iconst 1, []), (16, .invokevirtual 820, [32, 1, 1, 16031, 16033, 260, 1021]), (19, .ireturn, []), (20, .aload_n 0, []), (21, .getfield 495, [0, 12186, 1, 18]), (24, .ifnonnull 9, [33]), (27, .aload_n 0, []), (28, .iconst 2, []), (29, .invokevirtual 820, [32, 1, 1, 16031, 16033, 260, 1021]), (32, .ireturn, [])]
/-- PathProverLaw.faults(LPathProver;I[J)I -/
def ev_b93 : List ev_I := [(0, .aload_n 2, []), (1, .iconst 0, []), (2, .aload_n 0, []), (3, .iload_n 1, []), (4, .invokevirtual 61, [94, 1, 0, 12085, 12086, 12087, 1001]), (7, .i2l, []), (8, .lastore, []), (9, .goto 6, [15]), (12, .astore_n 3, []), (13, .iconst 1, []), (14, .ireturn, []), (15, .iconst 0, []), (16, .ireturn, [])]
/-- PathProver.faults(I)I -/
def ev_b94 : List ev_I := [(0, .iload_n 1, []), (1, .ifCond .lt 8, [9]), (4, .iload_n 1, []), (5, .iconst 2, []), (6, .if_icmp .le 11, [17]), (9, .new 101, [5043, 5044, 1027, 0, 0]), (12, .dup, []), (13, .invokespecial 103, [5052, 0]), (16, .athrow, []), (17, .iload_n 1, []), (18, .iconst 2, []), (19, .if_icmp .ne 13, [32]), (22, .aload_n 0, []), (23, .getfield 71, [0, 4151, 0, 11]), (26, .getfield 224, [1, 4081, 8, 13]), (29, .goto 4, [33]), (32, .iconst 0, []), (33, .ireturn, [])]
/-- PathProverModel.faults(I)I -/
def ev_b95 : List ev_I := [(0, .aload_n 0, []), (1, .iconst 0, []), (2, .putfield 226, [0, 12169, 1, 0, 0]), (5, .iload_n 1, []), (6, .ifCond .lt 8, [14]), (9, .iload_n 1, []), (10, .iconst 2, []), (11, .if_icmp .le 11, [22]), (14, .aload_n 0, []), (15, .iconst 1, []), (16, .invokevirtual 820, [32, 1, 1, 16031, 16033, 260, 1021]), (19, .goto 4, [23]), (22, .iconst 0, []), (23, .ireturn, [])]
def ev_ms : List ev_M := [(7, (some .boolean), [], ev_b0), (1, none, [], ev_b1), (1, none, [], ev_b2), (3, none, [], ev_b3), (1, none, [], ev_b4), (2, none, [], ev_b5), (1, (some .int), [], ev_b6), (1, (some .byte), [], ev_b7), (2, (some .char), [], ev_b8), (1, (some .boolean), [], ev_b9), (2, (some .char), [], ev_b10), (2, none, [], ev_b11), (3, (some .int), [], ev_b12), (1, none, [], ev_b13), (1, none, [], ev_b14), (1, none, [], ev_b15), (2, none, [], ev_b16), (7, (some .int), [], ev_b17), (1, none, [], ev_b18), (2, none, [], ev_b19), (3, none, [], ev_b20), (3, none, [], ev_b21), (1, none, [], ev_b22), (1, none, [], ev_b23), (8, (some .int), [(0, 16, 19, 3)], ev_b24), (6, (some .int), [], ev_b25), (3, none, [], ev_b26), (8, (some .int), [], ev_b27), (1, (some .int), [], ev_b28), (4, (some .int), [(0, 9, 12, 0)], ev_b29), (2, (some .int), [], ev_b30), (2, (some .int), [], ev_b31), (2, (some .int), [], ev_b32), (3, (some .int), [(0, 8, 11, 0), (0, 8, 14, 2), (0, 8, 17, 3)], ev_b33), (4, (some .int), [], ev_b34), (6, (some .int), [], ev_b35), (1, none, [], ev_b36), (1, none, [], ev_b37), (5, none, [], ev_b38), (3, none, [], ev_b39), (4, none, [], ev_b40), (8, (some .int), [], ev_b41), (7, (some .int), [], ev_b42), (3, none, [], ev_b43), (1, none, [], ev_b44), (2, (some .int), [], ev_b45), (3, (some .int), [], ev_b46), (1, (some .boolean), [], ev_b47), (2, (some .boolean), [], ev_b48), (3, (some .int), [(15, 86, 89, 0), (15, 86, 106, 2), (15, 86, 115, 3)], ev_b49), (3, none, [], ev_b50), (4, none, [], ev_b51), (2, none, [], ev_b52), (5, (some (.object "PathProverModel$Module")), [], ev_b53), (3, none, [], ev_b54), (2, (some .boolean), [], ev_b55), (2, (some .boolean), [], ev_b56), (1, (some .int), [], ev_b57), (1, (some .int), [], ev_b58), (4, (some .int), [(0, 16, 19, 0), (0, 16, 22, 1)], ev_b59), (2, (some .boolean), [], ev_b60), (3, none, [], ev_b61), (4, (some .boolean), [], ev_b62), (2, (some .boolean), [], ev_b63), (1, none, [], ev_b64), (5, (some .int), [(0, 10, 13, 0), (0, 10, 17, 1)], ev_b65), (3, (some .int), [], ev_b66), (7, (some .int), [], ev_b67), (4, (some .int), [(0, 9, 12, 0), (0, 9, 15, 1)], ev_b68), (2, (some .int), [], ev_b69), (2, (some .int), [], ev_b70), (4, (some .int), [(0, 9, 12, 0), (0, 9, 15, 1), (0, 9, 18, 2), (0, 9, 21, 3)], ev_b71), (4, (some .int), [], ev_b72), (6, (some .int), [(132, 185, 205, 3), (186, 201, 205, 3)], ev_b73), (4, (some .int), [(0, 9, 12, 0), (0, 9, 15, 1), (0, 9, 18, 3)], ev_b74), (2, (some .int), [], ev_b75), (2, none, [], ev_b76), (2, (some .int), [], ev_b77), (4, (some .int), [(0, 9, 12, 0), (0, 9, 15, 1), (0, 9, 18, 3)], ev_b78), (2, (some .int), [], ev_b79), (4, (some .int), [], ev_b80), (4, (some .int), [(0, 9, 12, 0), (0, 9, 15, 1), (0, 9, 18, 2), (0, 9, 21, 3)], ev_b81), (2, (some .int), [], ev_b82), (4, (some .int), [], ev_b83), (4, (some .int), [(0, 9, 12, 0), (0, 9, 15, 1), (0, 9, 18, 2)], ev_b84), (2, (some .int), [], ev_b85), (3, (some .int), [], ev_b86), (4, (some .int), [(0, 16, 19, 0), (0, 16, 22, 1), (0, 16, 25, 2)], ev_b87), (2, (some .boolean), [], ev_b88), (3, (some .boolean), [], ev_b89), (4, (some .int), [(0, 9, 12, 0), (0, 9, 15, 1)], ev_b90), (2, (some .int), [], ev_b91), (2, (some .int), [], ev_b92), (4, (some .int), [(0, 9, 12, 0)], ev_b93), (2, (some .int), [], ev_b94), (2, (some .int), [], ev_b95)]
