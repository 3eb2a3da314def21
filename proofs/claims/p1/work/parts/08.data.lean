/-! Printed by wip/p1/gen.py out of javap's listing and the Statement's tables: the classes and their fields, the String constants, the methods and the instructions of theirs (all but a few of kinds that are not taken yet) -/
def ev_R0 : String := "PathProver"
def ev_T0 : u_T := fun k => match k with
  | 0 => ("PathProver", "tape", "[B", false)
  | 1 => ("PathProver", "length", "I", false)
  | 2 => ("PathProver", "place", "I", false)
  | 3 => ("PathProver", "hasModel", "Z", false)
  | 4 => ("PathProver", "model", "LPathProver$Model;", false)
  | 5 => ("PathProver", "spare", "LPathProver$Model;", false)
  | 6 => ("PathProver", "parser", "LPathProver$Parser;", true)
  | 7 => ("PathProver", "judge", "LPathProver$Judge;", true)
  | 8 => ("PathProver", "space", "LPathProver$Space;", true)
  | 9 => ("PathProver", "relation", "LPathProver$Relation;", true)
  | 10 => ("PathProver", "graph", "LPathProver$Graph;", true)
  | 11 => ("PathProver", "prover", "LPathProver$Prover;", true)
  | 12 => ("PathProver", "isReady", "Z", false)
  | _ => ("PathProver", "current", "I", false)
def ev_Y0 : Nat → FieldType := fun k => match k with
  | 0 => (.array .byte)
  | 1 => .int
  | 2 => .int
  | 3 => .boolean
  | 4 => (.object "PathProver$Model")
  | 5 => (.object "PathProver$Model")
  | 6 => (.object "PathProver$Parser")
  | 7 => (.object "PathProver$Judge")
  | 8 => (.object "PathProver$Space")
  | 9 => (.object "PathProver$Relation")
  | 10 => (.object "PathProver$Graph")
  | 11 => (.object "PathProver$Prover")
  | 12 => .boolean
  | _ => .int
def ev_R1 : String := "PathProverModel"
def ev_T1 : u_T := fun k => match k with
  | 0 => ("PathProverModel", "failed", "I", false)
  | 1 => ("PathProverModel", "tape", "[B", true)
  | 2 => ("PathProverModel", "taped", "I", false)
  | 3 => ("PathProverModel", "place", "I", false)
  | 4 => ("PathProverModel", "sign", "[Ljava/lang/String;", true)
  | 5 => ("PathProverModel", "keptWords", "[Ljava/lang/String;", true)
  | 6 => ("PathProverModel", "at", "I", false)
  | 7 => ("PathProverModel", "token", "I", false)
  | 8 => ("PathProverModel", "from", "I", false)
  | 9 => ("PathProverModel", "to", "I", false)
  | 10 => ("PathProverModel", "number", "I", false)
  | 11 => ("PathProverModel", "word", "Ljava/lang/String;", false)
  | 12 => ("PathProverModel", "depth", "I", false)
  | 13 => ("PathProverModel", "pathNames", "[Ljava/lang/String;", false)
  | 14 => ("PathProverModel", "texts", "[LPathProverModel$Module;", false)
  | 15 => ("PathProverModel", "textCount", "I", false)
  | 16 => ("PathProverModel", "symbols", "[Ljava/lang/String;", false)
  | 17 => ("PathProverModel", "symbolCount", "I", false)
  | 18 => ("PathProverModel", "m", "LPathProverModel$Model;", false)
  | 19 => ("PathProverModel", "foundVariable", "I", false)
  | 20 => ("PathProverModel", "foundSymbol", "I", false)
  | 21 => ("PathProverModel", "foundStanding", "I", false)
  | 22 => ("PathProverModel", "order", "[I", false)
  | 23 => ("PathProverModel", "ordered", "I", false)
  | 24 => ("PathProverModel", "met", "[B", false)
  | 25 => ("PathProverModel", "begun", "[I", false)
  | 26 => ("PathProverModel", "heights", "[I", false)
  | 27 => ("PathProverModel", "sorts", "[I", false)
  | 28 => ("PathProverModel", "states", "I", false)
  | 29 => ("PathProverModel", "weights", "[I", false)
  | 30 => ("PathProverModel", "here", "[I", false)
  | 31 => ("PathProverModel", "there", "[I", false)
  | 32 => ("PathProverModel", "allowed", "LPathProverModel$Bits;", true)
  | 33 => ("PathProverModel", "initial", "LPathProverModel$Bits;", true)
  | 34 => ("PathProverModel", "fairStates", "LPathProverModel$Bits;", true)
  | 35 => ("PathProverModel", "reached", "LPathProverModel$Bits;", true)
  | 36 => ("PathProverModel", "current", "I", false)
  | 37 => ("PathProverModel", "shown", "[I", false)
  | 38 => ("PathProverModel", "shownSize", "I", false)
  | 39 => ("PathProverModel", "loop", "I", false)
  | 40 => ("PathProverModel", "kept", "[I", false)
  | 41 => ("PathProverModel", "keptAt", "[J", false)
  | 42 => ("PathProverModel", "stamp", "J", false)
  | 43 => ("PathProverModel", "starts", "[I", false)
  | 44 => ("PathProverModel", "edges", "[I", true)
  | 45 => ("PathProverModel", "big", "Z", false)
  | 46 => ("PathProverModel", "edge", "I", false)
  | 47 => ("PathProverModel", "lastEdge", "I", false)
  | 48 => ("PathProverModel", "from1", "I", false)
  | 49 => ("PathProverModel", "may", "[[Z", false)
  | 50 => ("PathProverModel", "anyTrans", "Z", false)
  | 51 => ("PathProverModel", "rows", "[LPathProverModel$Bits;", false)
  | 52 => ("PathProverModel", "rowCount", "I", false)
  | 53 => ("PathProverModel", "distances", "[I", false)
  | 54 => ("PathProverModel", "path", "[I", false)
  | 55 => ("PathProverModel", "pathSize", "I", false)
  | _ => ("PathProverModel", "loopAt", "I", false)
def ev_Y1 : Nat → FieldType := fun k => match k with
  | 0 => .int
  | 1 => (.array .byte)
  | 2 => .int
  | 3 => .int
  | 4 => (.array (.object "java/lang/String"))
  | 5 => (.array (.object "java/lang/String"))
  | 6 => .int
  | 7 => .int
  | 8 => .int
  | 9 => .int
  | 10 => .int
  | 11 => (.object "java/lang/String")
  | 12 => .int
  | 13 => (.array (.object "java/lang/String"))
  | 14 => (.array (.object "PathProverModel$Module"))
  | 15 => .int
  | 16 => (.array (.object "java/lang/String"))
  | 17 => .int
  | 18 => (.object "PathProverModel$Model")
  | 19 => .int
  | 20 => .int
  | 21 => .int
  | 22 => (.array .int)
  | 23 => .int
  | 24 => (.array .byte)
  | 25 => (.array .int)
  | 26 => (.array .int)
  | 27 => (.array .int)
  | 28 => .int
  | 29 => (.array .int)
  | 30 => (.array .int)
  | 31 => (.array .int)
  | 32 => (.object "PathProverModel$Bits")
  | 33 => (.object "PathProverModel$Bits")
  | 34 => (.object "PathProverModel$Bits")
  | 35 => (.object "PathProverModel$Bits")
  | 36 => .int
  | 37 => (.array .int)
  | 38 => .int
  | 39 => .int
  | 40 => (.array .int)
  | 41 => (.array .long)
  | 42 => .long
  | 43 => (.array .int)
  | 44 => (.array .int)
  | 45 => .boolean
  | 46 => .int
  | 47 => .int
  | 48 => .int
  | 49 => (.array (.array .boolean))
  | 50 => .boolean
  | 51 => (.array (.object "PathProverModel$Bits"))
  | 52 => .int
  | 53 => (.array .int)
  | 54 => (.array .int)
  | 55 => .int
  | _ => .int
def ev_R2 : String := "PathProver$Graph"
def ev_T2 : u_T := fun k => match k with
  | 0 => ("PathProver$Graph", "space", "LPathProver$Space;", true)
  | 1 => ("PathProver$Graph", "relation", "LPathProver$Relation;", true)
  | 2 => ("PathProver$Graph", "fairStates", "[J", true)
  | 3 => ("PathProver$Graph", "reached", "[J", true)
  | 4 => ("PathProver$Graph", "unseen", "[J", true)
  | 5 => ("PathProver$Graph", "piled", "[J", true)
  | 6 => ("PathProver$Graph", "around", "[J", true)
  | 7 => ("PathProver$Graph", "among", "[J", true)
  | 8 => ("PathProver$Graph", "goal", "[J", false)
  | 9 => ("PathProver$Graph", "endless", "Z", false)
  | 10 => ("PathProver$Graph", "nodes", "[I", false)
  | 11 => ("PathProver$Graph", "members", "[I", false)
  | 12 => ("PathProver$Graph", "queue", "[I", false)
  | 13 => ("PathProver$Graph", "parent", "[I", false)
  | 14 => ("PathProver$Graph", "job", "I", false)
  | 15 => ("PathProver$Graph", "wanted", "I", false)
  | 16 => ("PathProver$Graph", "cursor", "I", false)
  | 17 => ("PathProver$Graph", "head", "I", false)
  | 18 => ("PathProver$Graph", "tail", "I", false)
  | 19 => ("PathProver$Graph", "told", "I", false)
  | 20 => ("PathProver$Graph", "pathSize", "I", false)
  | 21 => ("PathProver$Graph", "pileSize", "I", false)
  | _ => ("PathProver$Graph", "entered", "I", false)
def ev_Y2 : Nat → FieldType := fun k => match k with
  | 0 => (.object "PathProver$Space")
  | 1 => (.object "PathProver$Relation")
  | 2 => (.array .long)
  | 3 => (.array .long)
  | 4 => (.array .long)
  | 5 => (.array .long)
  | 6 => (.array .long)
  | 7 => (.array .long)
  | 8 => (.array .long)
  | 9 => .boolean
  | 10 => (.array .int)
  | 11 => (.array .int)
  | 12 => (.array .int)
  | 13 => (.array .int)
  | 14 => .int
  | 15 => .int
  | 16 => .int
  | 17 => .int
  | 18 => .int
  | 19 => .int
  | 20 => .int
  | 21 => .int
  | _ => .int
def ev_R3 : String := "PathProver$Judge"
def ev_T3 : u_T := fun k => match k with
  | 0 => ("PathProver$Judge", "sound", "LPathProver$Sound;", true)
  | 1 => ("PathProver$Judge", "open", "LPathProver$Rows;", true)
  | 2 => ("PathProver$Judge", "stack", "[I", false)
  | _ => ("PathProver$Judge", "model", "LPathProver$Model;", false)
def ev_Y3 : Nat → FieldType := fun k => match k with
  | 0 => (.object "PathProver$Sound")
  | 1 => (.object "PathProver$Rows")
  | 2 => (.array .int)
  | _ => (.object "PathProver$Model")
def ev_R4 : String := "PathProver$Lexer"
def ev_T4 : u_T := fun k => match k with
  | 0 => ("PathProver$Lexer", "tape", "[B", false)
  | 1 => ("PathProver$Lexer", "length", "I", false)
  | 2 => ("PathProver$Lexer", "at", "I", false)
  | 3 => ("PathProver$Lexer", "kind", "I", false)
  | 4 => ("PathProver$Lexer", "datum", "I", false)
  | 5 => ("PathProver$Lexer", "tokens", "LPathProver$Rows;", true)
  | 6 => ("PathProver$Lexer", "known", "[B", true)
  | 7 => ("PathProver$Lexer", "letters", "[B", false)
  | 8 => ("PathProver$Lexer", "lettersUsed", "I", false)
  | 9 => ("PathProver$Lexer", "words", "LPathProver$Rows;", true)
  | 10 => ("PathProver$Lexer", "heads", "[I", true)
  | _ => ("PathProver$Lexer", "symbols", "I", false)
def ev_Y4 : Nat → FieldType := fun k => match k with
  | 0 => (.array .byte)
  | 1 => .int
  | 2 => .int
  | 3 => .int
  | 4 => .int
  | 5 => (.object "PathProver$Rows")
  | 6 => (.array .byte)
  | 7 => (.array .byte)
  | 8 => .int
  | 9 => (.object "PathProver$Rows")
  | 10 => (.array .int)
  | _ => .int
def ev_R5 : String := "PathProver$Machine"
def ev_T5 : u_T := fun k => match k with
  | 0 => ("PathProver$Machine", "space", "LPathProver$Space;", false)
  | 1 => ("PathProver$Machine", "program", "LPathProver$Rows;", true)
  | 2 => ("PathProver$Machine", "sides", "LPathProver$Rows;", true)
  | 3 => ("PathProver$Machine", "slotOf", "[I", false)
  | 4 => ("PathProver$Machine", "mask", "I", false)
  | 5 => ("PathProver$Machine", "choiceParts", "I", false)
  | 6 => ("PathProver$Machine", "widestChoice", "I", false)
  | 7 => ("PathProver$Machine", "openSlot", "I", false)
  | 8 => ("PathProver$Machine", "cells", "[I", false)
  | 9 => ("PathProver$Machine", "left", "[I", true)
  | 10 => ("PathProver$Machine", "right", "[I", true)
  | 11 => ("PathProver$Machine", "made", "[I", true)
  | 12 => ("PathProver$Machine", "wide", "[I", false)
  | 13 => ("PathProver$Machine", "items", "[I", false)
  | 14 => ("PathProver$Machine", "top", "I", false)
  | 15 => ("PathProver$Machine", "setFrom", "[I", false)
  | 16 => ("PathProver$Machine", "setCount", "I", false)
  | 17 => ("PathProver$Machine", "width", "I", false)
  | 18 => ("PathProver$Machine", "lanes", "I", false)
  | 19 => ("PathProver$Machine", "at", "I", false)
  | 20 => ("PathProver$Machine", "total", "I", false)
  | _ => ("PathProver$Machine", "stale", "Z", false)
def ev_Y5 : Nat → FieldType := fun k => match k with
  | 0 => (.object "PathProver$Space")
  | 1 => (.object "PathProver$Rows")
  | 2 => (.object "PathProver$Rows")
  | 3 => (.array .int)
  | 4 => .int
  | 5 => .int
  | 6 => .int
  | 7 => .int
  | 8 => (.array .int)
  | 9 => (.array .int)
  | 10 => (.array .int)
  | 11 => (.array .int)
  | 12 => (.array .int)
  | 13 => (.array .int)
  | 14 => .int
  | 15 => (.array .int)
  | 16 => .int
  | 17 => .int
  | 18 => .int
  | 19 => .int
  | 20 => .int
  | _ => .boolean
def ev_R6 : String := "PathProver$Model"
def ev_T6 : u_T := fun k => match k with
  | 0 => ("PathProver$Model", "code", "LPathProver$Rows;", true)
  | 1 => ("PathProver$Model", "modules", "LPathProver$Rows;", true)
  | 2 => ("PathProver$Model", "params", "LPathProver$Rows;", true)
  | 3 => ("PathProver$Model", "vars", "LPathProver$Rows;", true)
  | 4 => ("PathProver$Model", "values", "LPathProver$Rows;", true)
  | 5 => ("PathProver$Model", "given", "LPathProver$Rows;", true)
  | 6 => ("PathProver$Model", "defs", "LPathProver$Rows;", true)
  | 7 => ("PathProver$Model", "lines", "LPathProver$Rows;", true)
  | 8 => ("PathProver$Model", "claims", "LPathProver$Rows;", true)
  | 9 => ("PathProver$Model", "refs", "LPathProver$Rows;", true)
  | 10 => ("PathProver$Model", "steps", "LPathProver$Rows;", true)
  | 11 => ("PathProver$Model", "instances", "LPathProver$Rows;", true)
  | 12 => ("PathProver$Model", "slots", "LPathProver$Rows;", true)
  | 13 => ("PathProver$Model", "entries", "LPathProver$Rows;", true)
  | 14 => ("PathProver$Model", "order", "LPathProver$Rows;", true)
  | 15 => ("PathProver$Model", "variables", "LPathProver$Rows;", true)
  | 16 => ("PathProver$Model", "fairs", "LPathProver$Rows;", true)
  | 17 => ("PathProver$Model", "specs", "LPathProver$Rows;", true)
  | _ => ("PathProver$Model", "open", "LPathProver$Rows;", true)
def ev_Y6 : Nat → FieldType := fun k => match k with
  | 0 => (.object "PathProver$Rows")
  | 1 => (.object "PathProver$Rows")
  | 2 => (.object "PathProver$Rows")
  | 3 => (.object "PathProver$Rows")
  | 4 => (.object "PathProver$Rows")
  | 5 => (.object "PathProver$Rows")
  | 6 => (.object "PathProver$Rows")
  | 7 => (.object "PathProver$Rows")
  | 8 => (.object "PathProver$Rows")
  | 9 => (.object "PathProver$Rows")
  | 10 => (.object "PathProver$Rows")
  | 11 => (.object "PathProver$Rows")
  | 12 => (.object "PathProver$Rows")
  | 13 => (.object "PathProver$Rows")
  | 14 => (.object "PathProver$Rows")
  | 15 => (.object "PathProver$Rows")
  | 16 => (.object "PathProver$Rows")
  | 17 => (.object "PathProver$Rows")
  | _ => (.object "PathProver$Rows")
def ev_R7 : String := "PathProver$Parser"
def ev_T7 : u_T := fun k => match k with
  | 0 => ("PathProver$Parser", "lexer", "LPathProver$Lexer;", true)
  | 1 => ("PathProver$Parser", "stack", "LPathProver$Rows;", true)
  | 2 => ("PathProver$Parser", "model", "LPathProver$Model;", false)
  | 3 => ("PathProver$Parser", "at", "I", false)
  | 4 => ("PathProver$Parser", "kind", "I", false)
  | 5 => ("PathProver$Parser", "datum", "I", false)
  | 6 => ("PathProver$Parser", "mode", "I", false)
  | 7 => ("PathProver$Parser", "cap", "I", false)
  | 8 => ("PathProver$Parser", "open", "I", false)
  | 9 => ("PathProver$Parser", "from", "I", false)
  | 10 => ("PathProver$Parser", "name", "I", false)
  | _ => ("PathProver$Parser", "form", "I", false)
def ev_Y7 : Nat → FieldType := fun k => match k with
  | 0 => (.object "PathProver$Lexer")
  | 1 => (.object "PathProver$Rows")
  | 2 => (.object "PathProver$Model")
  | 3 => .int
  | 4 => .int
  | 5 => .int
  | 6 => .int
  | 7 => .int
  | 8 => .int
  | 9 => .int
  | 10 => .int
  | _ => .int
def ev_R8 : String := "PathProver$Prover"
def ev_T8 : u_T := fun k => match k with
  | 0 => ("PathProver$Prover", "space", "LPathProver$Space;", true)
  | 1 => ("PathProver$Prover", "graph", "LPathProver$Graph;", true)
  | 2 => ("PathProver$Prover", "items", "LPathProver$Rows;", true)
  | 3 => ("PathProver$Prover", "sets", "[[J", true)
  | 4 => ("PathProver$Prover", "setCount", "I", false)
  | 5 => ("PathProver$Prover", "spare", "[J", true)
  | 6 => ("PathProver$Prover", "kept", "[[J", true)
  | 7 => ("PathProver$Prover", "keptSpec", "[I", true)
  | 8 => ("PathProver$Prover", "trail", "[I", true)
  | 9 => ("PathProver$Prover", "shown", "[I", true)
  | 10 => ("PathProver$Prover", "trailCount", "I", false)
  | 11 => ("PathProver$Prover", "shownCount", "I", false)
  | 12 => ("PathProver$Prover", "loop", "I", false)
  | 13 => ("PathProver$Prover", "strayPaths", "I", false)
  | 14 => ("PathProver$Prover", "task", "I", false)
  | 15 => ("PathProver$Prover", "asked", "I", false)
  | 16 => ("PathProver$Prover", "at", "I", false)
  | 17 => ("PathProver$Prover", "stop", "I", false)
  | 18 => ("PathProver$Prover", "where", "I", false)
  | 19 => ("PathProver$Prover", "into", "I", false)
  | 20 => ("PathProver$Prover", "stage", "I", false)
  | 21 => ("PathProver$Prover", "begun", "I", false)
  | _ => ("PathProver$Prover", "truth", "[J", false)
def ev_Y8 : Nat → FieldType := fun k => match k with
  | 0 => (.object "PathProver$Space")
  | 1 => (.object "PathProver$Graph")
  | 2 => (.object "PathProver$Rows")
  | 3 => (.array (.array .long))
  | 4 => .int
  | 5 => (.array .long)
  | 6 => (.array (.array .long))
  | 7 => (.array .int)
  | 8 => (.array .int)
  | 9 => (.array .int)
  | 10 => .int
  | 11 => .int
  | 12 => .int
  | 13 => .int
  | 14 => .int
  | 15 => .int
  | 16 => .int
  | 17 => .int
  | 18 => .int
  | 19 => .int
  | 20 => .int
  | 21 => .int
  | _ => (.array .long)
def ev_R9 : String := "PathProver$Relation"
def ev_T9 : u_T := fun k => match k with
  | 0 => ("PathProver$Relation", "space", "LPathProver$Space;", true)
  | 1 => ("PathProver$Relation", "factors", "LPathProver$Rows;", true)
  | 2 => ("PathProver$Relation", "pieces", "LPathProver$Rows;", true)
  | 3 => ("PathProver$Relation", "wide", "LPathProver$Rows;", true)
  | 4 => ("PathProver$Relation", "outs", "[I", false)
  | 5 => ("PathProver$Relation", "outsUsed", "I", false)
  | 6 => ("PathProver$Relation", "rowOf", "[I", false)
  | 7 => ("PathProver$Relation", "classOf", "[I", false)
  | 8 => ("PathProver$Relation", "keys", "[I", false)
  | 9 => ("PathProver$Relation", "buckets", "[I", false)
  | 10 => ("PathProver$Relation", "list", "[I", false)
  | 11 => ("PathProver$Relation", "listed", "I", false)
  | 12 => ("PathProver$Relation", "options", "[I", false)
  | 13 => ("PathProver$Relation", "optionCount", "[I", true)
  | 14 => ("PathProver$Relation", "widest", "[I", true)
  | 15 => ("PathProver$Relation", "levels", "[I", true)
  | 16 => ("PathProver$Relation", "digits", "[I", true)
  | 17 => ("PathProver$Relation", "alive", "[J", true)
  | 18 => ("PathProver$Relation", "bits", "[J", true)
  | 19 => ("PathProver$Relation", "bitsFrom", "I", false)
  | 20 => ("PathProver$Relation", "bitsTo", "I", false)
  | 21 => ("PathProver$Relation", "branch", "I", false)
  | 22 => ("PathProver$Relation", "branching", "I", false)
  | _ => ("PathProver$Relation", "branches", "LPathProver$Rows;", true)
def ev_Y9 : Nat → FieldType := fun k => match k with
  | 0 => (.object "PathProver$Space")
  | 1 => (.object "PathProver$Rows")
  | 2 => (.object "PathProver$Rows")
  | 3 => (.object "PathProver$Rows")
  | 4 => (.array .int)
  | 5 => .int
  | 6 => (.array .int)
  | 7 => (.array .int)
  | 8 => (.array .int)
  | 9 => (.array .int)
  | 10 => (.array .int)
  | 11 => .int
  | 12 => (.array .int)
  | 13 => (.array .int)
  | 14 => (.array .int)
  | 15 => (.array .int)
  | 16 => (.array .int)
  | 17 => (.array .long)
  | 18 => (.array .long)
  | 19 => .int
  | 20 => .int
  | 21 => .int
  | 22 => .int
  | _ => (.object "PathProver$Rows")
def ev_R10 : String := "PathProver$Rows"
def ev_T10 : u_T := fun k => match k with
  | 0 => ("PathProver$Rows", "width", "I", true)
  | 1 => ("PathProver$Rows", "cells", "[I", false)
  | _ => ("PathProver$Rows", "size", "I", false)
def ev_Y10 : Nat → FieldType := fun k => match k with
  | 0 => .int
  | 1 => (.array .int)
  | _ => .int
def ev_R11 : String := "PathProver$Sets"
def ev_T11 : u_T := fun k => match k with
  | 0 => ("PathProver$Sets", "chunks", "[[J", true)
  | 1 => ("PathProver$Sets", "used", "I", false)
  | 2 => ("PathProver$Sets", "number", "I", false)
  | 3 => ("PathProver$Sets", "start", "[I", false)
  | 4 => ("PathProver$Sets", "heads", "[I", true)
  | 5 => ("PathProver$Sets", "headMask", "I", false)
  | 6 => ("PathProver$Sets", "work", "[J", true)
  | 7 => ("PathProver$Sets", "oldUsed", "I", false)
  | _ => ("PathProver$Sets", "oldNumber", "I", false)
def ev_Y11 : Nat → FieldType := fun k => match k with
  | 0 => (.array (.array .long))
  | 1 => .int
  | 2 => .int
  | 3 => (.array .int)
  | 4 => (.array .int)
  | 5 => .int
  | 6 => (.array .long)
  | 7 => .int
  | _ => .int
def ev_R12 : String := "PathProver$Sound"
def ev_T12 : u_T := fun k => match k with
  | 0 => ("PathProver$Sound", "members", "LPathProver$Rows;", true)
  | 1 => ("PathProver$Sound", "heads", "[I", true)
  | 2 => ("PathProver$Sound", "model", "LPathProver$Model;", false)
  | _ => ("PathProver$Sound", "main", "I", false)
def ev_Y12 : Nat → FieldType := fun k => match k with
  | 0 => (.object "PathProver$Rows")
  | 1 => (.array .int)
  | 2 => (.object "PathProver$Model")
  | _ => .int
def ev_R13 : String := "PathProver$Space"
def ev_T13 : u_T := fun k => match k with
  | 0 => ("PathProver$Space", "model", "LPathProver$Model;", false)
  | 1 => ("PathProver$Space", "machine", "LPathProver$Machine;", true)
  | 2 => ("PathProver$Space", "store", "LPathProver$Sets;", true)
  | 3 => ("PathProver$Space", "tasks", "LPathProver$Rows;", true)
  | 4 => ("PathProver$Space", "places", "I", false)
  | 5 => ("PathProver$Space", "size", "[I", true)
  | 6 => ("PathProver$Space", "stride", "[I", true)
  | 7 => ("PathProver$Space", "first", "[I", true)
  | 8 => ("PathProver$Space", "worth", "[I", false)
  | 9 => ("PathProver$Space", "ranges", "I", false)
  | 10 => ("PathProver$Space", "values", "I", false)
  | 11 => ("PathProver$Space", "total", "I", false)
  | 12 => ("PathProver$Space", "words", "I", false)
  | 13 => ("PathProver$Space", "known", "Z", false)
  | 14 => ("PathProver$Space", "every", "[J", true)
  | 15 => ("PathProver$Space", "initial", "[J", true)
  | 16 => ("PathProver$Space", "scratch", "[J", true)
  | 17 => ("PathProver$Space", "table", "[J", true)
  | 18 => ("PathProver$Space", "projected", "[I", false)
  | _ => ("PathProver$Space", "fairSets", "I", false)
def ev_Y13 : Nat → FieldType := fun k => match k with
  | 0 => (.object "PathProver$Model")
  | 1 => (.object "PathProver$Machine")
  | 2 => (.object "PathProver$Sets")
  | 3 => (.object "PathProver$Rows")
  | 4 => .int
  | 5 => (.array .int)
  | 6 => (.array .int)
  | 7 => (.array .int)
  | 8 => (.array .int)
  | 9 => .int
  | 10 => .int
  | 11 => .int
  | 12 => .int
  | 13 => .boolean
  | 14 => (.array .long)
  | 15 => (.array .long)
  | 16 => (.array .long)
  | 17 => (.array .long)
  | 18 => (.array .int)
  | _ => .int
def ev_R14 : String := "PathProverModel$Bits"
def ev_T14 : u_T := fun k => match k with
  | _ => ("PathProverModel$Bits", "row", "[I", true)
def ev_Y14 : Nat → FieldType := fun k => match k with
  | _ => (.array .int)
def ev_R15 : String := "PathProverModel$Instance"
def ev_T15 : u_T := fun k => match k with
  | 0 => ("PathProverModel$Instance", "module", "LPathProverModel$Module;", true)
  | 1 => ("PathProverModel$Instance", "parent", "LPathProverModel$Instance;", true)
  | 2 => ("PathProverModel$Instance", "firstGiven", "I", false)
  | 3 => ("PathProverModel$Instance", "variable", "[I", true)
  | 4 => ("PathProverModel$Instance", "inner", "[LPathProverModel$Instance;", true)
  | _ => ("PathProverModel$Instance", "definition", "[I", true)
def ev_Y15 : Nat → FieldType := fun k => match k with
  | 0 => (.object "PathProverModel$Module")
  | 1 => (.object "PathProverModel$Instance")
  | 2 => .int
  | 3 => (.array .int)
  | 4 => (.array (.object "PathProverModel$Instance"))
  | _ => (.array .int)
def ev_R16 : String := "PathProverModel$Model"
def ev_T16 : u_T := fun k => match k with
  | 0 => ("PathProverModel$Model", "instances", "[LPathProverModel$Instance;", true)
  | 1 => ("PathProverModel$Model", "instanceCount", "I", false)
  | 2 => ("PathProverModel$Model", "entries", "I", false)
  | 3 => ("PathProverModel$Model", "owners", "[LPathProverModel$Instance;", false)
  | 4 => ("PathProverModel$Model", "types", "[LPathProverModel$Node;", false)
  | 5 => ("PathProverModel$Model", "variables", "I", false)
  | 6 => ("PathProverModel$Model", "bits", "I", false)
  | 7 => ("PathProverModel$Model", "stands", "[LPathProverModel$Node;", false)
  | 8 => ("PathProverModel$Model", "standsIn", "[LPathProverModel$Instance;", false)
  | 9 => ("PathProverModel$Model", "standing", "I", false)
  | 10 => ("PathProverModel$Model", "specs", "[LPathProverModel$Node;", false)
  | 11 => ("PathProverModel$Model", "specOwners", "[LPathProverModel$Instance;", false)
  | 12 => ("PathProverModel$Model", "specCount", "I", false)
  | 13 => ("PathProverModel$Model", "fair", "[LPathProverModel$Node;", false)
  | 14 => ("PathProverModel$Model", "fairOwners", "[LPathProverModel$Instance;", false)
  | 15 => ("PathProverModel$Model", "fairCount", "I", false)
  | 16 => ("PathProverModel$Model", "symbols", "[Ljava/lang/String;", false)
  | _ => ("PathProverModel$Model", "symbolCount", "I", false)
def ev_Y16 : Nat → FieldType := fun k => match k with
  | 0 => (.array (.object "PathProverModel$Instance"))
  | 1 => .int
  | 2 => .int
  | 3 => (.array (.object "PathProverModel$Instance"))
  | 4 => (.array (.object "PathProverModel$Node"))
  | 5 => .int
  | 6 => .int
  | 7 => (.array (.object "PathProverModel$Node"))
  | 8 => (.array (.object "PathProverModel$Instance"))
  | 9 => .int
  | 10 => (.array (.object "PathProverModel$Node"))
  | 11 => (.array (.object "PathProverModel$Instance"))
  | 12 => .int
  | 13 => (.array (.object "PathProverModel$Node"))
  | 14 => (.array (.object "PathProverModel$Instance"))
  | 15 => .int
  | 16 => (.array (.object "java/lang/String"))
  | _ => .int
def ev_R17 : String := "PathProverModel$Module"
def ev_T17 : u_T := fun k => match k with
  | 0 => ("PathProverModel$Module", "name", "Ljava/lang/String;", true)
  | 1 => ("PathProverModel$Module", "params", "LPathProverModel$Node;", true)
  | _ => ("PathProverModel$Module", "parts", "LPathProverModel$Node;", true)
def ev_Y17 : Nat → FieldType := fun k => match k with
  | 0 => (.object "java/lang/String")
  | 1 => (.object "PathProverModel$Node")
  | _ => (.object "PathProverModel$Node")
def ev_R18 : String := "PathProverModel$Node"
def ev_T18 : u_T := fun k => match k with
  | 0 => ("PathProverModel$Node", "kind", "Ljava/lang/String;", true)
  | 1 => ("PathProverModel$Node", "parts", "[LPathProverModel$Node;", false)
  | 2 => ("PathProverModel$Node", "size", "I", false)
  | 3 => ("PathProverModel$Node", "number", "I", false)
  | 4 => ("PathProverModel$Node", "names", "[Ljava/lang/String;", false)
  | 5 => ("PathProverModel$Node", "sort", "I", false)
  | 6 => ("PathProverModel$Node", "height", "I", false)
  | _ => ("PathProverModel$Node", "code", "I", true)
def ev_Y18 : Nat → FieldType := fun k => match k with
  | 0 => (.object "java/lang/String")
  | 1 => (.array (.object "PathProverModel$Node"))
  | 2 => .int
  | 3 => .int
  | 4 => (.array (.object "java/lang/String"))
  | 5 => .int
  | 6 => .int
  | _ => .int
def ev_cl : List vw_C := [(ev_R0, ev_T0, 14), (ev_R1, ev_T1, 57), (ev_R2, ev_T2, 23), (ev_R3, ev_T3, 4), (ev_R4, ev_T4, 12), (ev_R5, ev_T5, 22), (ev_R6, ev_T6, 19), (ev_R7, ev_T7, 12), (ev_R8, ev_T8, 23), (ev_R9, ev_T9, 24), (ev_R10, ev_T10, 3), (ev_R11, ev_T11, 9), (ev_R12, ev_T12, 4), (ev_R13, ev_T13, 20), (ev_R14, ev_T14, 1), (ev_R15, ev_T15, 6), (ev_R16, ev_T16, 18), (ev_R17, ev_T17, 3), (ev_R18, ev_T18, 8)]
def ev_Y (ci : Nat) : Nat → FieldType := match ci with
  | 0 => ev_Y0
  | 1 => ev_Y1
  | 2 => ev_Y2
  | 3 => ev_Y3
  | 4 => ev_Y4
  | 5 => ev_Y5
  | 6 => ev_Y6
  | 7 => ev_Y7
  | 8 => ev_Y8
  | 9 => ev_Y9
  | 10 => ev_Y10
  | 11 => ev_Y11
  | 12 => ev_Y12
  | 13 => ev_Y13
  | 14 => ev_Y14
  | 15 => ev_Y15
  | 16 => ev_Y16
  | 17 => ev_Y17
  | _ => ev_Y18
/-- a new object's fields -/
def ev_fds : List (List ev_V) := [[.inl .null, .inl (.int 0), .inl (.int 0), .inl (.int 0), .inl .null, .inl .null, .inl .null, .inl .null, .inl .null, .inl .null, .inl .null, .inl .null, .inl (.int 0), .inl (.int 0)], [.inl (.int 0), .inl .null, .inl (.int 0), .inl (.int 0), .inl .null, .inl .null, .inl (.int 0), .inl (.int 0), .inl (.int 0), .inl (.int 0), .inl (.int 0), .inl .null, .inl (.int 0), .inl .null, .inl .null, .inl (.int 0), .inl .null, .inl (.int 0), .inl .null, .inl (.int 0), .inl (.int 0), .inl (.int 0), .inl .null, .inl (.int 0), .inl .null, .inl .null, .inl .null, .inl .null, .inl (.int 0), .inl .null, .inl .null, .inl .null, .inl .null, .inl .null, .inl .null, .inl .null, .inl (.int 0), .inl .null, .inl (.int 0), .inl (.int 0), .inl .null, .inl .null, .inl (.long 0), .inl .null, .inl .null, .inl (.int 0), .inl (.int 0), .inl (.int 0), .inl (.int 0), .inl .null, .inl (.int 0), .inl .null, .inl (.int 0), .inl .null, .inl .null, .inl (.int 0), .inl (.int 0)], [.inl .null, .inl .null, .inl .null, .inl .null, .inl .null, .inl .null, .inl .null, .inl .null, .inl .null, .inl (.int 0), .inl .null, .inl .null, .inl .null, .inl .null, .inl (.int 0), .inl (.int 0), .inl (.int 0), .inl (.int 0), .inl (.int 0), .inl (.int 0), .inl (.int 0), .inl (.int 0), .inl (.int 0)], [.inl .null, .inl .null, .inl .null, .inl .null], [.inl .null, .inl (.int 0), .inl (.int 0), .inl (.int 0), .inl (.int 0), .inl .null, .inl .null, .inl .null, .inl (.int 0), .inl .null, .inl .null, .inl (.int 0)], [.inl .null, .inl .null, .inl .null, .inl .null, .inl (.int 0), .inl (.int 0), .inl (.int 0), .inl (.int 0), .inl .null, .inl .null, .inl .null, .inl .null, .inl .null, .inl .null, .inl (.int 0), .inl .null, .inl (.int 0), .inl (.int 0), .inl (.int 0), .inl (.int 0), .inl (.int 0), .inl (.int 0)], [.inl .null, .inl .null, .inl .null, .inl .null, .inl .null, .inl .null, .inl .null, .inl .null, .inl .null, .inl .null, .inl .null, .inl .null, .inl .null, .inl .null, .inl .null, .inl .null, .inl .null, .inl .null, .inl .null], [.inl .null, .inl .null, .inl .null, .inl (.int 0), .inl (.int 0), .inl (.int 0), .inl (.int 0), .inl (.int 0), .inl (.int 0), .inl (.int 0), .inl (.int 0), .inl (.int 0)], [.inl .null, .inl .null, .inl .null, .inl .null, .inl (.int 0), .inl .null, .inl .null, .inl .null, .inl .null, .inl .null, .inl (.int 0), .inl (.int 0), .inl (.int 0), .inl (.int 0), .inl (.int 0), .inl (.int 0), .inl (.int 0), .inl (.int 0), .inl (.int 0), .inl (.int 0), .inl (.int 0), .inl (.int 0), .inl .null], [.inl .null, .inl .null, .inl .null, .inl .null, .inl .null, .inl (.int 0), .inl .null, .inl .null, .inl .null, .inl .null, .inl .null, .inl (.int 0), .inl .null, .inl .null, .inl .null, .inl .null, .inl .null, .inl .null, .inl .null, .inl (.int 0), .inl (.int 0), .inl (.int 0), .inl (.int 0), .inl .null], [.inl (.int 0), .inl .null, .inl (.int 0)], [.inl .null, .inl (.int 0), .inl (.int 0), .inl .null, .inl .null, .inl (.int 0), .inl .null, .inl (.int 0), .inl (.int 0)], [.inl .null, .inl .null, .inl .null, .inl (.int 0)], [.inl .null, .inl .null, .inl .null, .inl .null, .inl (.int 0), .inl .null, .inl .null, .inl .null, .inl .null, .inl (.int 0), .inl (.int 0), .inl (.int 0), .inl (.int 0), .inl (.int 0), .inl .null, .inl .null, .inl .null, .inl .null, .inl .null, .inl (.int 0)], [.inl .null], [.inl .null, .inl .null, .inl (.int 0), .inl .null, .inl .null, .inl .null], [.inl .null, .inl (.int 0), .inl (.int 0), .inl .null, .inl .null, .inl (.int 0), .inl (.int 0), .inl .null, .inl .null, .inl (.int 0), .inl .null, .inl .null, .inl (.int 0), .inl .null, .inl .null, .inl (.int 0), .inl .null, .inl (.int 0)], [.inl .null, .inl .null, .inl .null], [.inl .null, .inl .null, .inl (.int 0), .inl (.int 0), .inl .null, .inl (.int 0), .inl (.int 0), .inl (.int 0)]]
/-- the String constants: class, entry, text -/
def ev_strs : List (String × Nat × String) := [("PathProver$Lexer", 20, "MODULE VAR DEFINE ASSIGN INIT INVAR TRANS FAIRNESS SPEC init next boolean xor EX EF EG AX AF AG E A U in mod case esac TRUE FALSE main "), ("PathProverModel", 20, "<->"), ("PathProverModel", 22, "->"), ("PathProverModel", 24, ":="), ("PathProverModel", 26, ".."), ("PathProverModel", 28, "!="), ("PathProverModel", 30, "<="), ("PathProverModel", 32, ">="), ("PathProverModel", 34, "("), ("PathProverModel", 36, ")"), ("PathProverModel", 38, "{"), ("PathProverModel", 40, "}"), ("PathProverModel", 42, "["), ("PathProverModel", 44, "]"), ("PathProverModel", 46, ","), ("PathProverModel", 48, ";"), ("PathProverModel", 50, ":"), ("PathProverModel", 52, "."), ("PathProverModel", 54, "!"), ("PathProverModel", 56, "&"), ("PathProverModel", 58, "|"), ("PathProverModel", 60, "="), ("PathProverModel", 62, "<"), ("PathProverModel", 64, ">"), ("PathProverModel", 66, "+"), ("PathProverModel", 68, "-"), ("PathProverModel", 70, "*"), ("PathProverModel", 72, "/"), ("PathProverModel", 78, "MODULE"), ("PathProverModel", 80, "VAR"), ("PathProverModel", 82, "DEFINE"), ("PathProverModel", 84, "ASSIGN"), ("PathProverModel", 86, "init"), ("PathProverModel", 88, "next"), ("PathProverModel", 90, "INIT"), ("PathProverModel", 92, "INVAR"), ("PathProverModel", 94, "TRANS"), ("PathProverModel", 96, "FAIRNESS"), ("PathProverModel", 98, "SPEC"), ("PathProverModel", 100, "boolean"), ("PathProverModel", 102, "xor"), ("PathProverModel", 104, "EX"), ("PathProverModel", 106, "EF"), ("PathProverModel", 108, "EG"), ("PathProverModel", 110, "AX"), ("PathProverModel", 112, "AF"), ("PathProverModel", 114, "AG"), ("PathProverModel", 116, "E"), ("PathProverModel", 118, "A"), ("PathProverModel", 120, "U"), ("PathProverModel", 122, "in"), ("PathProverModel", 124, "mod"), ("PathProverModel", 126, "case"), ("PathProverModel", 128, "esac"), ("PathProverModel", 130, "TRUE"), ("PathProverModel", 132, "FALSE"), ("PathProver$Lexer", 113, "->:=..!=<=>="), ("PathProver$Lexer", 115, "(){}[],;:.!&|=<>+-*/"), ("java/util/Arrays", 48, "fromIndex("), ("java/util/Arrays", 57, ") > toIndex("), ("java/util/Arrays", 59, ")"), ("java/util/Arrays", 337, " > "), ("java/lang/ArrayIndexOutOfBoundsException", 13, "Array index out of range: "), ("PathProverModel$Module", 9, "params"), ("PathProverModel$Node", 25, "number"), ("PathProverModel$Node", 33, "TRUE"), ("PathProverModel$Node", 35, "FALSE"), ("PathProverModel$Node", 37, "name"), ("PathProverModel$Node", 39, "next"), ("PathProverModel$Node", 41, "!"), ("PathProverModel$Node", 43, "minus"), ("PathProverModel$Node", 45, "->"), ("PathProverModel$Node", 47, "&"), ("PathProverModel$Node", 49, "<->"), ("PathProverModel$Node", 51, "case"), ("PathProverModel$Node", 53, "chain"), ("PathProverModel$Node", 55, "="), ("PathProverModel$Node", 57, "!="), ("PathProverModel$Node", 59, "<"), ("PathProverModel$Node", 61, "<="), ("PathProverModel$Node", 63, ">"), ("PathProverModel$Node", 65, ">="), ("PathProverModel$Node", 67, "in"), ("PathProverModel$Node", 69, "|"), ("PathProverModel$Node", 71, "xor"), ("PathProverModel$Node", 73, "+"), ("PathProverModel$Node", 75, "-"), ("PathProverModel$Node", 77, "*"), ("PathProverModel$Node", 79, "/"), ("PathProverModel$Node", 81, "mod"), ("PathProverModel$Node", 83, "EX"), ("PathProverModel$Node", 85, "AX"), ("PathProverModel$Node", 87, "EF"), ("PathProverModel$Node", 89, "AG"), ("PathProverModel$Node", 91, "EG"), ("PathProverModel$Node", 93, "AF"), ("PathProverModel$Node", 95, "E"), ("PathProverModel$Node", 97, "A"), ("PathProverModel$Module", 19, "parts"), ("PathProverModel", 429, "param"), ("PathProverModel", 386, "set"), ("PathProverModel", 377, "symbol"), ("PathProverModel", 364, "number"), ("PathProverModel", 391, "range"), ("PathProverModel", 393, "instance"), ("PathProverModel", 362, "minus"), ("PathProverModel", 373, "name"), ("PathProverModel", 333, "chain"), ("PathProverModel", 419, "var"), ("PathProverModel", 421, "define"), ("PathProverModel", 423, "alone"), ("PathProverModel", 441, ""), ("PathProverModel", 460, "all"), ("PathProverModel", 490, "main")]
/-- which text each has: texts are numbered, one address for each -/
def ev_nums : List Nat := [0, 1, 2, 3, 4, 5, 6, 7, 8, 9, 10, 11, 12, 13, 14, 15, 16, 17, 18, 19, 20, 21, 22, 23, 24, 25, 26, 27, 28, 29, 30, 31, 32, 33, 34, 35, 36, 37, 38, 39, 40, 41, 42, 43, 44, 45, 46, 47, 48, 49, 50, 51, 52, 53, 54, 55, 56, 57, 58, 59, 9, 60, 61, 62, 63, 54, 55, 64, 33, 18, 65, 2, 19, 1, 52, 66, 21, 5, 22, 6, 23, 7, 50, 20, 40, 24, 25, 26, 27, 51, 41, 44, 42, 46, 43, 45, 47, 48, 67, 68, 69, 70, 63, 71, 72, 65, 64, 66, 73, 74, 75, 76, 77, 78]
/-- the first constant with a text -/
def ev_reps : List Nat := [0, 1, 2, 3, 4, 5, 6, 7, 8, 9, 10, 11, 12, 13, 14, 15, 16, 17, 18, 19, 20, 21, 22, 23, 24, 25, 26, 27, 28, 29, 30, 31, 32, 33, 34, 35, 36, 37, 38, 39, 40, 41, 42, 43, 44, 45, 46, 47, 48, 49, 50, 51, 52, 53, 54, 55, 56, 57, 58, 59, 61, 62, 63, 64, 67, 70, 75, 98, 99, 100, 101, 103, 104, 108, 109, 110, 111, 112, 113]
def ev_jk : Nat := 79
/-- the bytes of the texts; the ints of LEVEL -/
def ev_kb : List (List Int32) := [[77, 79, 68, 85, 76, 69, 32, 86, 65, 82, 32, 68, 69, 70, 73, 78, 69, 32, 65, 83, 83, 73, 71, 78, 32, 73, 78, 73, 84, 32, 73, 78, 86, 65, 82, 32, 84, 82, 65, 78, 83, 32, 70, 65, 73, 82, 78, 69, 83, 83, 32, 83, 80, 69, 67, 32, 105, 110, 105, 116, 32, 110, 101, 120, 116, 32, 98, 111, 111, 108, 101, 97, 110, 32, 120, 111, 114, 32, 69, 88, 32, 69, 70, 32, 69, 71, 32, 65, 88, 32, 65, 70, 32, 65, 71, 32, 69, 32, 65, 32, 85, 32, 105, 110, 32, 109, 111, 100, 32, 99, 97, 115, 101, 32, 101, 115, 97, 99, 32, 84, 82, 85, 69, 32, 70, 65, 76, 83, 69, 32, 109, 97, 105, 110, 32], [60, 45, 62], [45, 62], [58, 61], [46, 46], [33, 61], [60, 61], [62, 61], [40], [41], [123], [125], [91], [93], [44], [59], [58], [46], [33], [38], [124], [61], [60], [62], [43], [45], [42], [47], [77, 79, 68, 85, 76, 69], [86, 65, 82], [68, 69, 70, 73, 78, 69], [65, 83, 83, 73, 71, 78], [105, 110, 105, 116], [110, 101, 120, 116], [73, 78, 73, 84], [73, 78, 86, 65, 82], [84, 82, 65, 78, 83], [70, 65, 73, 82, 78, 69, 83, 83], [83, 80, 69, 67], [98, 111, 111, 108, 101, 97, 110], [120, 111, 114], [69, 88], [69, 70], [69, 71], [65, 88], [65, 70], [65, 71], [69], [65], [85], [105, 110], [109, 111, 100], [99, 97, 115, 101], [101, 115, 97, 99], [84, 82, 85, 69], [70, 65, 76, 83, 69], [45, 62, 58, 61, 46, 46, 33, 61, 60, 61, 62, 61], [40, 41, 123, 125, 91, 93, 44, 59, 58, 46, 33, 38, 124, 61, 60, 62, 43, 45, 42, 47], [102, 114, 111, 109, 73, 110, 100, 101, 120, 40], [41, 32, 62, 32, 116, 111, 73, 110, 100, 101, 120, 40], [32, 62, 32], [65, 114, 114, 97, 121, 32, 105, 110, 100, 101, 120, 32, 111, 117, 116, 32, 111, 102, 32, 114, 97, 110, 103, 101, 58, 32], [112, 97, 114, 97, 109, 115], [110, 117, 109, 98, 101, 114], [110, 97, 109, 101], [109, 105, 110, 117, 115], [99, 104, 97, 105, 110], [112, 97, 114, 116, 115], [112, 97, 114, 97, 109], [115, 101, 116], [115, 121, 109, 98, 111, 108], [114, 97, 110, 103, 101], [105, 110, 115, 116, 97, 110, 99, 101], [118, 97, 114], [100, 101, 102, 105, 110, 101], [97, 108, 111, 110, 101], [], [97, 108, 108], [109, 97, 105, 110], [0, 0, 0, 0, 1, 2, 3, 3, 4, 5, 5, 5, 5, 5, 5, 5, 6, 6, 6, 6, 6, 6, 7, 7, 8, 8, 8, 9, 0, 0, 0, 0, 0, 0, 0, 0, 0, 0, 0, 0, 0, 0, 0, 0, 0, 0, 0, 0, 0, 0, 0, 0, 0, 0]]
/-- PathProverLaw.law([I)Z -/
def ev_b0_0 : List ev_I := [(0, .new 8, [1041, 1042, 1001, 0]), (3, .dup, []), (4, .invokespecial 64, [0, 1, 0, 1043, 1044, 1001]), (7, .astore_n 1, []), (8, .new 65, [12186, 12187, 1021, 1]), (11, .dup, []), (12, .invokespecial 67, [0, 22, 0, 12188, 12189, 1021]), (15, .astore_n 2, []), (16, .iconst 1, []), (17, .newarray .long, [3041, 2]), (19, .astore_n 3, []), (20, .iconst 0, []), (21, .istore 4, []), (23, .iload 4, []), (25, .aload_n 0, []), (26, .arraylength, []), (27, .bipush 6, []), (29, .isub, []), (30, .if_icmp .gt 951, [981]), (33, .aload_n 0, []), (34, .iload 4, []), (36, .iaload, []), (37, .bipush 15, []), (39, .iand, []), (40, .tableswitch 935 0 14 #[76, 180, 236, 280, 293, 356, 424, 480, 536, 592, 648, 704, 760, 823, 879], [975, 116, 220, 276, 320, 333, 396, 464, 520, 576, 632, 688, 744, 800, 863, 919]), (116, .aload_n 1, []), (117, .aload_n 0, []), (118, .iload 4, []), (120, .iconst 1, []), (121, .iadd, []), (122, .iaload, []), (123, .aload_n 0, []), (124, .iload 4, []), (126, .iconst 2, []), (127, .iadd, []), (128, .iaload, []), (129, .aload_n 0, []), (130, .iload 4, []), (132, .iconst 3, []), (133, .iadd, [])]
def ev_b0_1 : List ev_I := [(134, .iaload, []), (135, .aload_n 0, []), (136, .iload 4, []), (138, .iconst 4, []), (139, .iadd, []), (140, .iaload, []), (141, .aload_n 0, []), (142, .iload 4, []), (144, .iconst 5, []), (145, .iadd, []), (146, .iaload, []), (147, .aload_n 3, []), (148, .invokestatic 68, [24, 7, 4198, 4199, 1000]), (151, .istore 5, []), (153, .aload_n 2, []), (154, .aload_n 0, []), (155, .iload 4, []), (157, .iconst 1, []), (158, .iadd, []), (159, .iaload, []), (160, .aload_n 0, []), (161, .iload 4, []), (163, .iconst 2, []), (164, .iadd, []), (165, .iaload, []), (166, .aload_n 0, []), (167, .iload 4, []), (169, .iconst 3, []), (170, .iadd, []), (171, .iaload, []), (172, .aload_n 0, []), (173, .iload 4, []), (175, .iconst 4, []), (176, .iadd, []), (177, .iaload, []), (178, .aload_n 0, []), (179, .iload 4, []), (181, .iconst 5, []), (182, .iadd, []), (183, .iaload, [])]
def ev_b0_2 : List ev_I := [(184, .invokevirtual 73, [27, 5, 1, 16124, 16125, 16126, 1021]), (187, .istore 6, []), (189, .aload_n 2, []), (190, .invokevirtual 74, [28, 0, 1, 13196, 13197, 13198, 1021]), (193, .iload 5, []), (195, .if_icmp .eq 5, [200]), (198, .iconst 0, []), (199, .ireturn, []), (200, .iload 5, []), (202, .ifCond .ne 15, [217]), (205, .aload_n 3, []), (206, .iconst 0, []), (207, .laload, []), (208, .iload 6, []), (210, .i2l, []), (211, .lcmp, []), (212, .ifCond .eq 5, [217]), (215, .iconst 0, []), (216, .ireturn, []), (217, .goto 758, [975]), (220, .aload_n 1, []), (221, .aload_n 0, []), (222, .iload 4, []), (224, .iconst 1, []), (225, .iadd, []), (226, .iaload, []), (227, .aload_n 3, []), (228, .invokestatic 77, [29, 3, 5046, 5047, 1000]), (231, .istore 5, []), (233, .aload_n 2, []), (234, .aload_n 0, []), (235, .iload 4, []), (237, .iconst 1, []), (238, .iadd, []), (239, .iaload, []), (240, .invokevirtual 80, [31, 1, 1, 16132, 16133, 16134, 1021]), (243, .istore 6, []), (245, .aload_n 2, []), (246, .invokevirtual 74, [28, 0, 1, 13196, 13197, 13198, 1021]), (249, .iload 5, [])]
def ev_b0_3 : List ev_I := [(251, .if_icmp .eq 5, [256]), (254, .iconst 0, []), (255, .ireturn, []), (256, .iload 5, []), (258, .ifCond .ne 15, [273]), (261, .aload_n 3, []), (262, .iconst 0, []), (263, .laload, []), (264, .iload 6, []), (266, .i2l, []), (267, .lcmp, []), (268, .ifCond .eq 5, [273]), (271, .iconst 0, []), (272, .ireturn, []), (273, .goto 702, [975]), (276, .aload_n 1, []), (277, .aload_n 3, []), (278, .invokestatic 81, [33, 2, 5069, 5070, 1000]), (281, .istore 5, []), (283, .aload_n 2, []), (284, .invokevirtual 84, [49, 0, 1, 13200, 13201, 13202, 1021]), (287, .istore 6, []), (289, .aload_n 2, []), (290, .invokevirtual 74, [28, 0, 1, 13196, 13197, 13198, 1021]), (293, .iload 5, []), (295, .if_icmp .eq 5, [300]), (298, .iconst 0, []), (299, .ireturn, []), (300, .iload 5, []), (302, .ifCond .ne 15, [317]), (305, .aload_n 3, []), (306, .iconst 0, []), (307, .laload, []), (308, .iload 6, []), (310, .i2l, []), (311, .lcmp, []), (312, .ifCond .eq 5, [317]), (315, .iconst 0, []), (316, .ireturn, []), (317, .goto 658, [975])]
def ev_b0_4 : List ev_I := [(320, .aload_n 1, []), (321, .invokevirtual 85, [57, 0, 0, 4194, 4195, 4196, 1001]), (324, .aload_n 2, []), (325, .invokevirtual 88, [58, 0, 1, 16136, 16137, 16138, 1021]), (328, .if_icmp .eq 647, [975]), (331, .iconst 0, []), (332, .ireturn, []), (333, .aload_n 1, []), (334, .aload_n 0, []), (335, .iload 4, []), (337, .iconst 1, []), (338, .iadd, []), (339, .iaload, []), (340, .aload_n 3, []), (341, .invokestatic 89, [59, 3, 7139, 7140, 1000]), (344, .istore 5, []), (346, .aload_n 2, []), (347, .aload_n 0, []), (348, .iload 4, []), (350, .iconst 1, []), (351, .iadd, []), (352, .iaload, []), (353, .invokevirtual 91, [62, 1, 1, 16140, 16141, 16142, 1021]), (356, .istore 6, []), (358, .aload_n 2, []), (359, .invokevirtual 74, [28, 0, 1, 13196, 13197, 13198, 1021]), (362, .iload 5, []), (364, .if_icmp .eq 5, [369]), (367, .iconst 0, []), (368, .ireturn, []), (369, .iload 5, []), (371, .ifCond .ne 22, [393]), (374, .aload_n 3, []), (375, .iconst 0, []), (376, .laload, []), (377, .iload 6, []), (379, .ifCond .eq 7, [386]), (382, .lconst 1, []), (383, .goto 4, [387]), (386, .lconst 0, [])]
def ev_b0_5 : List ev_I := [(387, .lcmp, []), (388, .ifCond .eq 5, [393]), (391, .iconst 0, []), (392, .ireturn, []), (393, .goto 582, [975]), (396, .aload_n 1, []), (397, .aload_n 0, []), (398, .iload 4, []), (400, .iconst 1, []), (401, .iadd, []), (402, .iaload, []), (403, .aload_n 0, []), (404, .iload 4, []), (406, .iconst 2, []), (407, .iadd, []), (408, .iaload, []), (409, .aload_n 3, []), (410, .invokestatic 92, [65, 4, 12037, 12038, 1000]), (413, .istore 5, []), (415, .aload_n 2, []), (416, .aload_n 0, []), (417, .iload 4, []), (419, .iconst 1, []), (420, .iadd, []), (421, .iaload, []), (422, .aload_n 0, []), (423, .iload 4, []), (425, .iconst 2, []), (426, .iadd, []), (427, .iaload, []), (428, .invokevirtual 95, [67, 2, 1, 16184, 16185, 16186, 1021]), (431, .istore 6, []), (433, .aload_n 2, []), (434, .invokevirtual 74, [28, 0, 1, 13196, 13197, 13198, 1021]), (437, .iload 5, []), (439, .if_icmp .eq 5, [444]), (442, .iconst 0, []), (443, .ireturn, []), (444, .iload 5, []), (446, .ifCond .ne 15, [461])]
def ev_b0_6 : List ev_I := [(449, .aload_n 3, []), (450, .iconst 0, []), (451, .laload, []), (452, .iload 6, []), (454, .i2l, []), (455, .lcmp, []), (456, .ifCond .eq 5, [461]), (459, .iconst 0, []), (460, .ireturn, []), (461, .goto 514, [975]), (464, .aload_n 1, []), (465, .aload_n 0, []), (466, .iload 4, []), (468, .iconst 1, []), (469, .iadd, []), (470, .iaload, []), (471, .aload_n 3, []), (472, .invokestatic 96, [68, 3, 12056, 12057, 1000]), (475, .istore 5, []), (477, .aload_n 2, []), (478, .aload_n 0, []), (479, .iload 4, []), (481, .iconst 1, []), (482, .iadd, []), (483, .iaload, []), (484, .invokevirtual 98, [70, 1, 1, 16192, 16193, 16194, 1021]), (487, .istore 6, []), (489, .aload_n 2, []), (490, .invokevirtual 74, [28, 0, 1, 13196, 13197, 13198, 1021]), (493, .iload 5, []), (495, .if_icmp .eq 5, [500]), (498, .iconst 0, []), (499, .ireturn, []), (500, .iload 5, []), (502, .ifCond .ne 15, [517]), (505, .aload_n 3, []), (506, .iconst 0, []), (507, .laload, []), (508, .iload 6, []), (510, .i2l, [])]
def ev_b0_7 : List ev_I := [(511, .lcmp, []), (512, .ifCond .eq 5, [517]), (515, .iconst 0, []), (516, .ireturn, []), (517, .goto 458, [975]), (520, .aload_n 1, []), (521, .aload_n 0, []), (522, .iload 4, []), (524, .iconst 1, []), (525, .iadd, []), (526, .iaload, []), (527, .aload_n 3, []), (528, .invokestatic 99, [71, 3, 12064, 12065, 1000]), (531, .istore 5, []), (533, .aload_n 2, []), (534, .aload_n 0, []), (535, .iload 4, []), (537, .iconst 1, []), (538, .iadd, []), (539, .iaload, []), (540, .invokevirtual 101, [73, 1, 1, 16196, 16197, 16198, 1021]), (543, .istore 6, []), (545, .aload_n 2, []), (546, .invokevirtual 74, [28, 0, 1, 13196, 13197, 13198, 1021]), (549, .iload 5, []), (551, .if_icmp .eq 5, [556]), (554, .iconst 0, []), (555, .ireturn, []), (556, .iload 5, []), (558, .ifCond .ne 15, [573]), (561, .aload_n 3, []), (562, .iconst 0, []), (563, .laload, []), (564, .iload 6, []), (566, .i2l, []), (567, .lcmp, []), (568, .ifCond .eq 5, [573]), (571, .iconst 0, []), (572, .ireturn, []), (573, .goto 402, [975])]
def ev_b0_8 : List ev_I := [(576, .aload_n 1, []), (577, .aload_n 0, []), (578, .iload 4, []), (580, .iconst 1, []), (581, .iadd, []), (582, .iaload, []), (583, .aload_n 3, []), (584, .invokestatic 102, [74, 3, 12100, 12101, 1000]), (587, .istore 5, []), (589, .aload_n 2, []), (590, .aload_n 0, []), (591, .iload 4, []), (593, .iconst 1, []), (594, .iadd, []), (595, .iaload, []), (596, .invokevirtual 104, [77, 1, 1, 17000, 17001, 17002, 1021]), (599, .istore 6, []), (601, .aload_n 2, []), (602, .invokevirtual 74, [28, 0, 1, 13196, 13197, 13198, 1021]), (605, .iload 5, []), (607, .if_icmp .eq 5, [612]), (610, .iconst 0, []), (611, .ireturn, []), (612, .iload 5, []), (614, .ifCond .ne 15, [629]), (617, .aload_n 3, []), (618, .iconst 0, []), (619, .laload, []), (620, .iload 6, []), (622, .i2l, []), (623, .lcmp, []), (624, .ifCond .eq 5, [629]), (627, .iconst 0, []), (628, .ireturn, []), (629, .goto 346, [975]), (632, .aload_n 1, []), (633, .aload_n 0, []), (634, .iload 4, []), (636, .iconst 1, []), (637, .iadd, [])]
def ev_b0_9 : List ev_I := [(638, .iaload, []), (639, .aload_n 3, []), (640, .invokestatic 105, [78, 3, 12116, 12117, 1000]), (643, .istore 5, []), (645, .aload_n 2, []), (646, .aload_n 0, []), (647, .iload 4, []), (649, .iconst 1, []), (650, .iadd, []), (651, .iaload, []), (652, .invokevirtual 107, [80, 1, 1, 17008, 17009, 17010, 1021]), (655, .istore 6, []), (657, .aload_n 2, []), (658, .invokevirtual 74, [28, 0, 1, 13196, 13197, 13198, 1021]), (661, .iload 5, []), (663, .if_icmp .eq 5, [668]), (666, .iconst 0, []), (667, .ireturn, []), (668, .iload 5, []), (670, .ifCond .ne 15, [685]), (673, .aload_n 3, []), (674, .iconst 0, []), (675, .laload, []), (676, .iload 6, []), (678, .i2l, []), (679, .lcmp, []), (680, .ifCond .eq 5, [685]), (683, .iconst 0, []), (684, .ireturn, []), (685, .goto 290, [975]), (688, .aload_n 1, []), (689, .aload_n 0, []), (690, .iload 4, []), (692, .iconst 1, []), (693, .iadd, []), (694, .iaload, []), (695, .aload_n 3, []), (696, .invokestatic 108, [81, 3, 12131, 12132, 1000]), (699, .istore 5, []), (701, .aload_n 2, [])]
def ev_b0_10 : List ev_I := [(702, .aload_n 0, []), (703, .iload 4, []), (705, .iconst 1, []), (706, .iadd, []), (707, .iaload, []), (708, .invokevirtual 110, [83, 1, 1, 17012, 17013, 17014, 1021]), (711, .istore 6, []), (713, .aload_n 2, []), (714, .invokevirtual 74, [28, 0, 1, 13196, 13197, 13198, 1021]), (717, .iload 5, []), (719, .if_icmp .eq 5, [724]), (722, .iconst 0, []), (723, .ireturn, []), (724, .iload 5, []), (726, .ifCond .ne 15, [741]), (729, .aload_n 3, []), (730, .iconst 0, []), (731, .laload, []), (732, .iload 6, []), (734, .i2l, []), (735, .lcmp, []), (736, .ifCond .eq 5, [741]), (739, .iconst 0, []), (740, .ireturn, []), (741, .goto 234, [975]), (744, .aload_n 1, []), (745, .aload_n 0, []), (746, .iload 4, []), (748, .iconst 1, []), (749, .iadd, []), (750, .iaload, []), (751, .aload_n 3, []), (752, .invokestatic 111, [84, 3, 12147, 12148, 1000]), (755, .istore 5, []), (757, .aload_n 2, []), (758, .aload_n 0, []), (759, .iload 4, []), (761, .iconst 1, []), (762, .iadd, []), (763, .iaload, [])]
def ev_b0_11 : List ev_I := [(764, .invokevirtual 113, [86, 1, 1, 17016, 17017, 17018, 1021]), (767, .istore 6, []), (769, .aload_n 2, []), (770, .invokevirtual 74, [28, 0, 1, 13196, 13197, 13198, 1021]), (773, .iload 5, []), (775, .if_icmp .eq 5, [780]), (778, .iconst 0, []), (779, .ireturn, []), (780, .iload 5, []), (782, .ifCond .ne 15, [797]), (785, .aload_n 3, []), (786, .iconst 0, []), (787, .laload, []), (788, .iload 6, []), (790, .i2l, []), (791, .lcmp, []), (792, .ifCond .eq 5, [797]), (795, .iconst 0, []), (796, .ireturn, []), (797, .goto 178, [975]), (800, .aload_n 1, []), (801, .aload_n 0, []), (802, .iload 4, []), (804, .iconst 1, []), (805, .iadd, []), (806, .iaload, []), (807, .aload_n 3, []), (808, .invokestatic 114, [87, 3, 12161, 12162, 1000]), (811, .istore 5, []), (813, .aload_n 2, []), (814, .aload_n 0, []), (815, .iload 4, []), (817, .iconst 1, []), (818, .iadd, []), (819, .iaload, []), (820, .invokevirtual 116, [89, 1, 1, 17020, 17021, 17022, 1021]), (823, .istore 6, []), (825, .aload_n 2, []), (826, .invokevirtual 74, [28, 0, 1, 13196, 13197, 13198, 1021]), (829, .iload 5, [])]
def ev_b0_12 : List ev_I := [(831, .if_icmp .eq 5, [836]), (834, .iconst 0, []), (835, .ireturn, []), (836, .iload 5, []), (838, .ifCond .ne 22, [860]), (841, .aload_n 3, []), (842, .iconst 0, []), (843, .laload, []), (844, .iload 6, []), (846, .ifCond .eq 7, [853]), (849, .lconst 1, []), (850, .goto 4, [854]), (853, .lconst 0, []), (854, .lcmp, []), (855, .ifCond .eq 5, [860]), (858, .iconst 0, []), (859, .ireturn, []), (860, .goto 115, [975]), (863, .aload_n 1, []), (864, .aload_n 0, []), (865, .iload 4, []), (867, .iconst 1, []), (868, .iadd, []), (869, .iaload, []), (870, .aload_n 3, []), (871, .invokestatic 117, [90, 3, 12172, 12173, 1000]), (874, .istore 5, []), (876, .aload_n 2, []), (877, .aload_n 0, []), (878, .iload 4, []), (880, .iconst 1, []), (881, .iadd, []), (882, .iaload, []), (883, .invokevirtual 119, [92, 1, 1, 17024, 17025, 17026, 1021]), (886, .istore 6, []), (888, .aload_n 2, []), (889, .invokevirtual 74, [28, 0, 1, 13196, 13197, 13198, 1021]), (892, .iload 5, []), (894, .if_icmp .eq 5, [899]), (897, .iconst 0, [])]
def ev_b0_13 : List ev_I := [(898, .ireturn, []), (899, .iload 5, []), (901, .ifCond .ne 15, [916]), (904, .aload_n 3, []), (905, .iconst 0, []), (906, .laload, []), (907, .iload 6, []), (909, .i2l, []), (910, .lcmp, []), (911, .ifCond .eq 5, [916]), (914, .iconst 0, []), (915, .ireturn, []), (916, .goto 59, [975]), (919, .aload_n 1, []), (920, .aload_n 0, []), (921, .iload 4, []), (923, .iconst 1, []), (924, .iadd, []), (925, .iaload, []), (926, .aload_n 3, []), (927, .invokestatic 120, [93, 3, 12179, 12180, 1000]), (930, .istore 5, []), (932, .aload_n 2, []), (933, .aload_n 0, []), (934, .iload 4, []), (936, .iconst 1, []), (937, .iadd, []), (938, .iaload, []), (939, .invokevirtual 122, [95, 1, 1, 17028, 17029, 17030, 1021]), (942, .istore 6, []), (944, .aload_n 2, []), (945, .invokevirtual 74, [28, 0, 1, 13196, 13197, 13198, 1021]), (948, .iload 5, []), (950, .if_icmp .eq 5, [955]), (953, .iconst 0, []), (954, .ireturn, []), (955, .iload 5, []), (957, .ifCond .ne 15, [972]), (960, .aload_n 3, []), (961, .iconst 0, [])]
def ev_b0_14 : List ev_I := [(962, .laload, []), (963, .iload 6, []), (965, .i2l, []), (966, .lcmp, []), (967, .ifCond .eq 5, [972]), (970, .iconst 0, []), (971, .ireturn, []), (972, .goto 3, [975]), (975, .iinc 4 6, []), (978, .goto (-955), [23]), (981, .iconst 1, []), (982, .ireturn, [])]
def ev_b0 : List ev_I := ev_b0_0 ++ (ev_b0_1 ++ (ev_b0_2 ++ (ev_b0_3 ++ (ev_b0_4 ++ (ev_b0_5 ++ (ev_b0_6 ++ (ev_b0_7 ++ (ev_b0_8 ++ (ev_b0_9 ++ (ev_b0_10 ++ (ev_b0_11 ++ (ev_b0_12 ++ (ev_b0_13 ++ (ev_b0_14))))))))))))))
/-- PathProver.<init>()V -/
def ev_b1_0 : List ev_I := [(0, .aload_n 0, []), (1, .invokespecial 3, [1046]), (4, .aload_n 0, []), (5, .sipush 256, []), (8, .newarray .byte, [1081, 1]), (10, .putfield 9, [0, 4151, 0, 0, 2]), (13, .aload_n 0, []), (14, .iconst (-1), []), (15, .putfield 13, [0, 4153, 0, 2, 0]), (18, .aload_n 0, []), (19, .new 17, [1049, 1050, 1002, 6]), (22, .dup, []), (23, .invokespecial 19, [0, 2, 0, 1051, 1052, 1002]), (26, .putfield 20, [0, 4155, 0, 4, 2]), (29, .aload_n 0, []), (30, .new 17, [1049, 1050, 1002, 6]), (33, .dup, []), (34, .invokespecial 19, [0, 2, 0, 1051, 1052, 1002]), (37, .putfield 24, [0, 4156, 0, 5, 2]), (40, .aload_n 0, []), (41, .new 27, [1188, 1189, 1004, 7]), (44, .dup, []), (45, .invokespecial 29, [0, 4, 0, 1190, 1191, 1004]), (48, .putfield 30, [0, 4157, 0, 6, 2]), (51, .aload_n 0, []), (52, .new 34, [2088, 2089, 1010, 3]), (55, .dup, []), (56, .invokespecial 36, [0, 13, 0, 2090, 2091, 1010]), (59, .putfield 37, [0, 4158, 0, 7, 2]), (62, .aload_n 0, []), (63, .new 41, [2131, 2132, 1012, 13]), (66, .dup, []), (67, .invokespecial 43, [0, 15, 0, 2133, 2134, 1012]), (70, .putfield 44, [0, 4159, 0, 8, 2]), (73, .aload_n 0, []), (74, .new 48, [3139, 3140, 1018, 9]), (77, .dup, []), (78, .aload_n 0, []), (79, .getfield 44, [0, 4159, 0, 8]), (82, .invokespecial 50, [0, 19, 1, 3141, 3142, 1018])]
def ev_b1_1 : List ev_I := [(85, .putfield 53, [0, 4160, 0, 9, 2]), (88, .aload_n 0, []), (89, .new 57, [3227, 3228, 1019, 2]), (92, .dup, []), (93, .aload_n 0, []), (94, .getfield 44, [0, 4159, 0, 8]), (97, .aload_n 0, []), (98, .getfield 53, [0, 4160, 0, 9]), (101, .invokespecial 59, [0, 20, 2, 3229, 3230, 1019]), (104, .putfield 62, [0, 4161, 0, 10, 2]), (107, .aload_n 0, []), (108, .new 66, [4067, 4068, 1020, 8]), (111, .dup, []), (112, .aload_n 0, []), (113, .getfield 44, [0, 4159, 0, 8]), (116, .aload_n 0, []), (117, .getfield 62, [0, 4161, 0, 10]), (120, .invokespecial 68, [0, 21, 2, 4069, 4070, 1020]), (123, .putfield 71, [0, 4162, 0, 11, 2]), (126, .aload_n 0, []), (127, .iconst (-1), []), (128, .putfield 75, [0, 4164, 0, 13, 0]), (131, .return_, [])]
def ev_b1 : List ev_I := ev_b1_0 ++ (ev_b1_1)
/-- PathProver$Model.<init>()V -/
def ev_b2_0 : List ev_I := [(0, .aload_n 0, []), (1, .invokespecial 3, [1054]), (4, .aload_n 0, []), (5, .new 9, [1055, 1056, 1003, 10]), (8, .dup, []), (9, .iconst 2, []), (10, .bipush 64, []), (12, .invokespecial 11, [0, 3, 2, 1057, 1058, 1003]), (15, .putfield 14, [0, 1083, 6, 0, 2]), (18, .aload_n 0, []), (19, .new 9, [1055, 1056, 1003, 10]), (22, .dup, []), (23, .bipush 11, []), (25, .iconst 4, []), (26, .invokespecial 11, [0, 3, 2, 1057, 1058, 1003]), (29, .putfield 20, [0, 1089, 6, 1, 2]), (32, .aload_n 0, []), (33, .new 9, [1055, 1056, 1003, 10]), (36, .dup, []), (37, .iconst 1, []), (38, .iconst 4, []), (39, .invokespecial 11, [0, 3, 2, 1057, 1058, 1003]), (42, .putfield 23, [0, 1092, 6, 2, 2]), (45, .aload_n 0, []), (46, .new 9, [1055, 1056, 1003, 10]), (49, .dup, []), (50, .bipush 6, []), (52, .bipush 8, []), (54, .invokespecial 11, [0, 3, 2, 1057, 1058, 1003]), (57, .putfield 26, [0, 1095, 6, 3, 2]), (60, .aload_n 0, []), (61, .new 9, [1055, 1056, 1003, 10]), (64, .dup, []), (65, .iconst 2, []), (66, .bipush 8, []), (68, .invokespecial 11, [0, 3, 2, 1057, 1058, 1003]), (71, .putfield 29, [0, 1099, 6, 4, 2]), (74, .aload_n 0, []), (75, .new 9, [1055, 1056, 1003, 10]), (78, .dup, [])]
def ev_b2_1 : List ev_I := [(79, .iconst 2, []), (80, .iconst 4, []), (81, .invokespecial 11, [0, 3, 2, 1057, 1058, 1003]), (84, .putfield 32, [0, 1102, 6, 5, 2]), (87, .aload_n 0, []), (88, .new 9, [1055, 1056, 1003, 10]), (91, .dup, []), (92, .iconst 3, []), (93, .bipush 8, []), (95, .invokespecial 11, [0, 3, 2, 1057, 1058, 1003]), (98, .putfield 35, [0, 1104, 6, 6, 2]), (101, .aload_n 0, []), (102, .new 9, [1055, 1056, 1003, 10]), (105, .dup, []), (106, .iconst 4, []), (107, .bipush 8, []), (109, .invokespecial 11, [0, 3, 2, 1057, 1058, 1003]), (112, .putfield 38, [0, 1107, 6, 7, 2]), (115, .aload_n 0, []), (116, .new 9, [1055, 1056, 1003, 10]), (119, .dup, []), (120, .iconst 3, []), (121, .bipush 8, []), (123, .invokespecial 11, [0, 3, 2, 1057, 1058, 1003]), (126, .putfield 41, [0, 1111, 6, 8, 2]), (129, .aload_n 0, []), (130, .new 9, [1055, 1056, 1003, 10]), (133, .dup, []), (134, .iconst 4, []), (135, .bipush 32, []), (137, .invokespecial 11, [0, 3, 2, 1057, 1058, 1003]), (140, .putfield 44, [0, 1115, 6, 9, 2]), (143, .aload_n 0, []), (144, .new 9, [1055, 1056, 1003, 10]), (147, .dup, []), (148, .iconst 1, []), (149, .bipush 32, []), (151, .invokespecial 11, [0, 3, 2, 1057, 1058, 1003]), (154, .putfield 47, [0, 1120, 6, 10, 2]), (157, .aload_n 0, [])]
def ev_b2_2 : List ev_I := [(158, .new 9, [1055, 1056, 1003, 10]), (161, .dup, []), (162, .iconst 4, []), (163, .iconst 4, []), (164, .invokespecial 11, [0, 3, 2, 1057, 1058, 1003]), (167, .putfield 50, [0, 1123, 6, 11, 2]), (170, .aload_n 0, []), (171, .new 9, [1055, 1056, 1003, 10]), (174, .dup, []), (175, .iconst 1, []), (176, .bipush 8, []), (178, .invokespecial 11, [0, 3, 2, 1057, 1058, 1003]), (181, .putfield 53, [0, 1126, 6, 12, 2]), (184, .aload_n 0, []), (185, .new 9, [1055, 1056, 1003, 10]), (188, .dup, []), (189, .bipush 6, []), (191, .bipush 8, []), (193, .invokespecial 11, [0, 3, 2, 1057, 1058, 1003]), (196, .putfield 56, [0, 1127, 6, 13, 2]), (199, .aload_n 0, []), (200, .new 9, [1055, 1056, 1003, 10]), (203, .dup, []), (204, .iconst 1, []), (205, .bipush 8, []), (207, .invokespecial 11, [0, 3, 2, 1057, 1058, 1003]), (210, .putfield 59, [0, 1130, 6, 14, 2]), (213, .aload_n 0, []), (214, .new 9, [1055, 1056, 1003, 10]), (217, .dup, []), (218, .iconst 4, []), (219, .bipush 8, []), (221, .invokespecial 11, [0, 3, 2, 1057, 1058, 1003]), (224, .putfield 62, [0, 1133, 6, 15, 2]), (227, .aload_n 0, []), (228, .new 9, [1055, 1056, 1003, 10]), (231, .dup, []), (232, .iconst 4, []), (233, .iconst 4, []), (234, .invokespecial 11, [0, 3, 2, 1057, 1058, 1003])]
def ev_b2_3 : List ev_I := [(237, .putfield 65, [0, 1140, 6, 16, 2]), (240, .aload_n 0, []), (241, .new 9, [1055, 1056, 1003, 10]), (244, .dup, []), (245, .iconst 3, []), (246, .iconst 4, []), (247, .invokespecial 11, [0, 3, 2, 1057, 1058, 1003]), (250, .putfield 68, [0, 1144, 6, 17, 2]), (253, .aload_n 0, []), (254, .new 9, [1055, 1056, 1003, 10]), (257, .dup, []), (258, .iconst 2, []), (259, .bipush 8, []), (261, .invokespecial 11, [0, 3, 2, 1057, 1058, 1003]), (264, .putfield 71, [0, 1147, 6, 18, 2]), (267, .return_, [])]
def ev_b2 : List ev_I := ev_b2_0 ++ (ev_b2_1 ++ (ev_b2_2 ++ (ev_b2_3)))
/-- PathProver$Rows.<init>(II)V -/
def ev_b3 : List ev_I := [(0, .aload_n 0, []), (1, .invokespecial 1, [1060]), (4, .aload_n 0, []), (5, .iload_n 1, []), (6, .putfield 7, [0, 1061, 10, 0, 0]), (9, .aload_n 0, []), (10, .iload_n 1, []), (11, .iload_n 2, []), (12, .imul, []), (13, .newarray .int, [1082, 0]), (15, .putfield 13, [0, 1062, 10, 1, 2]), (18, .return_, [])]
/-- PathProver$Parser.<init>()V -/
def ev_b4 : List ev_I := [(0, .aload_n 0, []), (1, .invokespecial 3, [1193]), (4, .aload_n 0, []), (5, .new 9, [1194, 1195, 1005, 4]), (8, .dup, []), (9, .invokespecial 11, [0, 5, 0, 1196, 1197, 1005]), (12, .putfield 12, [0, 2051, 7, 0, 2]), (15, .aload_n 0, []), (16, .new 18, [2049, 1056, 1003, 10]), (19, .dup, []), (20, .iconst 2, []), (21, .bipush 32, []), (23, .invokespecial 20, [0, 3, 2, 2050, 1058, 1003]), (26, .putfield 23, [0, 2052, 7, 1, 2]), (29, .return_, [])]
/-- PathProver$Lexer.<init>()V -/
def ev_b5_0 : List ev_I := [(0, .aload_n 0, []), (1, .invokespecial 3, [1199]), (4, .aload_n 0, []), (5, .new 9, [1200, 1056, 1003, 10]), (8, .dup, []), (9, .iconst 3, []), (10, .bipush 64, []), (12, .invokespecial 11, [0, 3, 2, 1201, 1058, 1003]), (15, .putfield 14, [0, 2016, 4, 5, 2]), (18, .aload_n 0, []), (19, .ldc 20, [1202, 0, 0]), (21, .invokevirtual 22, [6, 0, 999, 1203, 1204, 1205, 1006]), (24, .newarray .byte, [1081, 1]), (26, .putfield 28, [0, 2018, 4, 6, 2]), (29, .iconst 0, []), (30, .istore_n 1, []), (31, .iload_n 1, []), (32, .aload_n 0, []), (33, .getfield 28, [0, 2018, 4, 6]), (36, .arraylength, []), (37, .if_icmp .ge 22, [59]), (40, .aload_n 0, []), (41, .getfield 28, [0, 2018, 4, 6]), (44, .iload_n 1, []), (45, .ldc 20, [1202, 0, 0]), (47, .iload_n 1, []), (48, .invokevirtual 32, [8, 1, 999, 1213, 1214, 1215, 1006]), (51, .i2b, []), (52, .bastore, []), (53, .iinc 1 1, []), (56, .goto (-25), [31]), (59, .aload_n 0, []), (60, .sipush 512, []), (63, .newarray .byte, [1081, 1]), (65, .putfield 36, [0, 2019, 4, 7, 2]), (68, .aload_n 0, []), (69, .new 9, [1200, 1056, 1003, 10]), (72, .dup, []), (73, .iconst 4, []), (74, .bipush 64, [])]
def ev_b5_1 : List ev_I := [(76, .invokespecial 11, [0, 3, 2, 1201, 1058, 1003]), (79, .putfield 39, [0, 2021, 4, 9, 2]), (82, .aload_n 0, []), (83, .sipush 256, []), (86, .newarray .int, [1082, 0]), (88, .putfield 42, [0, 2022, 4, 10, 2]), (91, .aload_n 0, []), (92, .aload_n 0, []), (93, .getfield 28, [0, 2018, 4, 6]), (96, .putfield 46, [0, 2011, 4, 0, 2]), (99, .return_, [])]
def ev_b5 : List ev_I := ev_b5_0 ++ (ev_b5_1)
/-- java/lang/String.length()I -/
def ev_b6 : List ev_I := [(0, .aload_n 0, []), (1, .getfield 9, [8153, 0]), (4, .arraylength, []), (5, .aload_n 0, []), (6, .invokevirtual 335, [7, 0, 999, 1207, 1208, 1209, 1006]), (9, .ishr, []), (10, .ireturn, [])]
/-- java/lang/String.coder()B -/
def ev_b7 : List ev_I := [(0, .getstatic 38, [1211]), (3, .ifCond .eq 10, [13]), (6, .aload_n 0, []), (7, .getfield 15, [8154, 1]), (10, .goto 4, [14]), (13, .iconst 1, []), (14, .ireturn, [])]
/-- java/lang/String.charAt(I)C -/
def ev_b8 : List ev_I := [(0, .aload_n 0, []), (1, .invokevirtual 492, [9, 0, 999, 1217, 1218, 1219, 1006]), (4, .ifCond .eq 12, [16]), (7, .aload_n 0, []), (8, .getfield 9, [8153, 0]), (11, .iload_n 1, []), (12, .invokestatic 495, [10, 2, 1221, 1222, 1007]), (15, .ireturn, []), (16, .aload_n 0, []), (17, .getfield 9, [8153, 0]), (20, .iload_n 1, []), (24, .ireturn, [])]
/-- java/lang/String.isLatin1()Z -/
def ev_b9 : List ev_I := [(0, .getstatic 38, [1211]), (3, .ifCond .eq 14, [17]), (6, .aload_n 0, []), (7, .getfield 15, [8154, 1]), (10, .ifCond .ne 7, [17]), (13, .iconst 1, []), (14, .goto 4, [18]), (17, .iconst 0, []), (18, .ireturn, [])]
/-- java/lang/StringLatin1.charAt([BI)C -/
def ev_b10 : List ev_I := [(0, .iload_n 1, []), (1, .aload_n 0, []), (2, .arraylength, []), (3, .invokestatic 9, [11, 2, 1224, 1225, 1006]), (6, .aload_n 0, []), (7, .iload_n 1, []), (8, .baload, []), (9, .sipush 255, []), (12, .iand, []), (13, .i2c, []), (14, .ireturn, [])]
/-- java/lang/String.checkIndex(II)V -/
def ev_b11 : List ev_I := [(0, .iload_n 0, []), (1, .iload_n 1, []), (2, .getstatic 1053, [1227, 0]), (5, .invokestatic 1059, [12, 3, 1229, 1230, 1008]), (8, .pop, []), (9, .return_, [])]
/-- jdk/internal/util/Preconditions.checkIndex(IILjava/util/function/BiFunction;)I -/
def ev_b12 : List ev_I := [(0, .iload_n 0, []), (1, .ifCond .lt 8, [9]), (4, .iload_n 0, []), (5, .iload_n 1, []), (6, .if_icmp .lt 10, [16]), (9, .aload_n 2, []), (10, .iload_n 0, []), (11, .iload_n 1, []), (15, .athrow, []), (16, .iload_n 0, []), (17, .ireturn, [])]
/-- PathProver$Judge.<init>()V -/
def ev_b13 : List ev_I := [(0, .aload_n 0, []), (1, .invokespecial 3, [2093]), (4, .aload_n 0, []), (5, .new 9, [2094, 2095, 1011, 12]), (8, .dup, []), (9, .invokespecial 11, [0, 14, 0, 2096, 2097, 1011]), (12, .putfield 12, [0, 2118, 3, 0, 2]), (15, .aload_n 0, []), (16, .new 18, [2116, 1056, 1003, 10]), (19, .dup, []), (20, .iconst 2, []), (21, .bipush 16, []), (23, .invokespecial 20, [0, 3, 2, 2117, 1058, 1003]), (26, .putfield 23, [0, 2119, 3, 1, 2]), (29, .aload_n 0, []), (30, .bipush 64, []), (32, .newarray .int, [1082, 0]), (34, .putfield 27, [0, 2120, 3, 2, 2]), (37, .return_, [])]
/-- PathProver$Sound.<init>()V -/
def ev_b14 : List ev_I := [(0, .aload_n 0, []), (1, .invokespecial 3, [2099]), (4, .aload_n 0, []), (5, .new 9, [2100, 1056, 1003, 10]), (8, .dup, []), (9, .iconst 5, []), (10, .bipush 32, []), (12, .invokespecial 11, [0, 3, 2, 2101, 1058, 1003]), (15, .putfield 14, [0, 2102, 12, 0, 2]), (18, .aload_n 0, []), (19, .sipush 512, []), (22, .newarray .int, [1082, 0]), (24, .putfield 20, [0, 2103, 12, 1, 2]), (27, .return_, [])]
/-- PathProver$Space.<init>()V -/
def ev_b15_0 : List ev_I := [(0, .aload_n 0, []), (1, .invokespecial 3, [2136]), (4, .aload_n 0, []), (5, .new 9, [2137, 2138, 1013, 5]), (8, .dup, []), (9, .invokespecial 11, [0, 16, 0, 2139, 2140, 1013]), (12, .putfield 12, [0, 3048, 13, 1, 2]), (15, .aload_n 0, []), (16, .new 18, [3000, 3001, 1017, 11]), (19, .dup, []), (20, .invokespecial 20, [0, 18, 0, 3002, 3003, 1017]), (23, .putfield 21, [0, 3051, 13, 2, 2]), (26, .aload_n 0, []), (27, .new 25, [3042, 1056, 1003, 10]), (30, .dup, []), (31, .iconst 5, []), (32, .bipush 8, []), (34, .invokespecial 27, [0, 3, 2, 3043, 1058, 1003]), (37, .putfield 30, [0, 3055, 13, 3, 2]), (40, .aload_n 0, []), (41, .bipush 14, []), (43, .newarray .int, [1082, 0]), (45, .putfield 34, [0, 3059, 13, 5, 2]), (48, .aload_n 0, []), (49, .bipush 14, []), (51, .newarray .int, [1082, 0]), (53, .putfield 38, [0, 3062, 13, 6, 2]), (56, .aload_n 0, []), (57, .bipush 14, []), (59, .newarray .int, [1082, 0]), (61, .putfield 41, [0, 3065, 13, 7, 2]), (64, .aload_n 0, []), (65, .bipush 64, []), (67, .newarray .int, [1082, 0]), (69, .putfield 44, [0, 3068, 13, 8, 2]), (72, .aload_n 0, []), (73, .sipush 256, []), (76, .newarray .long, [3041, 2]), (78, .putfield 47, [0, 3084, 13, 14, 2]), (81, .aload_n 0, [])]
def ev_b15_1 : List ev_I := [(82, .sipush 256, []), (85, .newarray .long, [3041, 2]), (87, .putfield 51, [0, 3088, 13, 15, 2]), (90, .aload_n 0, []), (91, .sipush 256, []), (94, .newarray .long, [3041, 2]), (96, .putfield 54, [0, 3091, 13, 16, 2]), (99, .aload_n 0, []), (100, .sipush 256, []), (103, .newarray .long, [3041, 2]), (105, .putfield 57, [0, 3093, 13, 17, 2]), (108, .aload_n 0, []), (109, .bipush 64, []), (111, .newarray .int, [1082, 0]), (113, .putfield 60, [0, 3094, 13, 18, 2]), (116, .return_, [])]
def ev_b15 : List ev_I := ev_b15_0 ++ (ev_b15_1)
/-- PathProver$Machine.<init>()V -/
def ev_b16_0 : List ev_I := [(0, .aload_n 0, []), (1, .invokespecial 3, [2142]), (4, .aload_n 0, []), (5, .new 9, [2143, 1056, 1003, 10]), (8, .dup, []), (9, .iconst 4, []), (10, .bipush 16, []), (12, .invokespecial 11, [0, 3, 2, 2144, 1058, 1003]), (15, .putfield 14, [0, 2166, 5, 1, 2]), (18, .aload_n 0, []), (19, .new 9, [2143, 1056, 1003, 10]), (22, .dup, []), (23, .iconst 4, []), (24, .bipush 28, []), (26, .invokespecial 11, [0, 3, 2, 2144, 1058, 1003]), (29, .putfield 20, [0, 2168, 5, 2, 2]), (32, .aload_n 0, []), (33, .bipush 16, []), (35, .newarray .int, [1082, 0]), (37, .putfield 23, [0, 2169, 5, 3, 2]), (40, .aload_n 0, []), (41, .bipush 64, []), (43, .newarray .int, [1082, 0]), (45, .putfield 27, [0, 2177, 5, 8, 2]), (48, .aload_n 0, []), (49, .sipush 1024, []), (52, .newarray .int, [1082, 0]), (54, .putfield 30, [0, 2178, 5, 9, 2]), (57, .aload_n 0, []), (58, .sipush 1024, []), (61, .newarray .int, [1082, 0]), (63, .putfield 33, [0, 2179, 5, 10, 2]), (66, .aload_n 0, []), (67, .sipush 1024, []), (70, .newarray .int, [1082, 0]), (72, .putfield 36, [0, 2180, 5, 11, 2]), (75, .aload_n 0, []), (76, .bipush 64, []), (78, .newarray .int, [1082, 0]), (80, .putfield 39, [0, 2181, 5, 12, 2])]
def ev_b16_1 : List ev_I := [(83, .aload_n 0, []), (84, .bipush 32, []), (86, .newarray .int, [1082, 0]), (88, .putfield 42, [0, 2182, 5, 13, 2]), (91, .aload_n 0, []), (92, .bipush 16, []), (94, .newarray .int, [1082, 0]), (96, .putfield 45, [0, 2184, 5, 15, 2]), (99, .iconst 0, []), (100, .istore_n 1, []), (101, .iload_n 1, []), (102, .bipush 28, []), (104, .if_icmp .ge 21, [125]), (107, .aload_n 0, []), (108, .getfield 20, [0, 2168, 5, 2]), (111, .iconst 0, []), (112, .iconst 0, []), (113, .iconst 0, []), (114, .iconst (-1), []), (115, .invokevirtual 48, [17, 4, 10, 2145, 2146, 2147, 1003]), (118, .pop, []), (119, .iinc 1 1, []), (122, .goto (-21), [101]), (125, .return_, [])]
def ev_b16 : List ev_I := ev_b16_0 ++ (ev_b16_1)
/-- PathProver$Rows.put(IIII)I -/
def ev_b17_0 : List ev_I := [(0, .aload_n 0, []), (1, .getfield 17, [0, 1063, 10, 2]), (4, .aload_n 0, []), (5, .getfield 7, [0, 1061, 10, 0]), (8, .imul, []), (9, .istore 5, []), (11, .iload 5, []), (13, .aload_n 0, []), (14, .getfield 7, [0, 1061, 10, 0]), (17, .iadd, []), (18, .aload_n 0, []), (19, .getfield 13, [0, 1062, 10, 1]), (22, .arraylength, []), (23, .if_icmp .le 26, [49]), (26, .aload_n 0, []), (27, .aload_n 0, []), (28, .getfield 13, [0, 1062, 10, 1]), (31, .iconst 2, []), (32, .aload_n 0, []), (33, .getfield 13, [0, 1062, 10, 1]), (36, .arraylength, []), (37, .imul, []), (38, .aload_n 0, []), (39, .getfield 7, [0, 1061, 10, 0]), (42, .iadd, []), (43, .invokestatic 29, [101, 2, 2149, 2150, 1014]), (46, .putfield 13, [0, 1062, 10, 1, 2]), (49, .iconst 0, []), (50, .istore 6, []), (52, .iload 6, []), (54, .aload_n 0, []), (55, .getfield 7, [0, 1061, 10, 0]), (58, .if_icmp .ge 60, [118]), (61, .aload_n 0, []), (62, .getfield 13, [0, 1062, 10, 1]), (65, .iload 5, []), (67, .iload 6, []), (69, .iadd, []), (70, .iload 6, []), (72, .ifCond .ne 7, [79])]
def ev_b17_1 : List ev_I := [(75, .iload_n 1, []), (76, .goto 35, [111]), (79, .iload 6, []), (81, .iconst 1, []), (82, .if_icmp .ne 7, [89]), (85, .iload_n 2, []), (86, .goto 25, [111]), (89, .iload 6, []), (91, .iconst 2, []), (92, .if_icmp .ne 7, [99]), (95, .iload_n 3, []), (96, .goto 15, [111]), (99, .iload 6, []), (101, .iconst 3, []), (102, .if_icmp .ne 8, [110]), (105, .iload 4, []), (107, .goto 4, [111]), (110, .iconst 0, []), (111, .iastore, []), (112, .iinc 6 1, []), (115, .goto (-63), [52]), (118, .aload_n 0, []), (119, .dup, []), (120, .getfield 17, [0, 1063, 10, 2]), (123, .iconst 1, []), (124, .iadd, []), (125, .putfield 17, [0, 1063, 10, 2, 0]), (128, .aload_n 0, []), (129, .getfield 17, [0, 1063, 10, 2]), (132, .iconst 1, []), (133, .isub, []), (134, .ireturn, [])]
def ev_b17 : List ev_I := ev_b17_0 ++ (ev_b17_1)
/-- PathProver$Sets.<init>()V -/
def ev_b18 : List ev_I := [(0, .aload_n 0, []), (1, .invokespecial 5, [3005]), (4, .aload_n 0, []), (5, .sipush 184, []), (8, .anewarray 11, [3006, 4, 3007]), (11, .putfield 13, [0, 3008, 11, 0, 2]), (14, .aload_n 0, []), (15, .bipush 64, []), (17, .newarray .int, [1082, 0]), (19, .putfield 17, [0, 3018, 11, 3, 2]), (22, .aload_n 0, []), (23, .sipush 4096, []), (26, .newarray .int, [1082, 0]), (28, .putfield 21, [0, 3019, 11, 4, 2]), (31, .aload_n 0, []), (32, .sipush 4095, []), (35, .putfield 24, [0, 3020, 11, 5, 0]), (38, .aload_n 0, []), (39, .sipush 257, []), (42, .newarray .long, [3041, 2]), (44, .putfield 28, [0, 3021, 11, 6, 2]), (47, .return_, [])]
/-- PathProver$Relation.<init>(LPathProver$Space;)V -/
def ev_b19_0 : List ev_I := [(0, .aload_n 0, []), (1, .invokespecial 3, [3144]), (4, .aload_n 0, []), (5, .new 9, [3145, 1056, 1003, 10]), (8, .dup, []), (9, .bipush 6, []), (11, .bipush 8, []), (13, .invokespecial 11, [0, 3, 2, 3146, 1058, 1003]), (16, .putfield 14, [0, 3148, 9, 1, 2]), (19, .aload_n 0, []), (20, .new 9, [3145, 1056, 1003, 10]), (23, .dup, []), (24, .iconst 5, []), (25, .iconst 4, []), (26, .invokespecial 11, [0, 3, 2, 3146, 1058, 1003]), (29, .putfield 20, [0, 3150, 9, 3, 2]), (32, .aload_n 0, []), (33, .new 9, [3145, 1056, 1003, 10]), (36, .dup, []), (37, .iconst 5, []), (38, .iconst 4, []), (39, .invokespecial 11, [0, 3, 2, 3146, 1058, 1003]), (42, .putfield 23, [0, 3151, 9, 23, 2]), (45, .aload_n 0, []), (46, .bipush 64, []), (48, .newarray .int, [1082, 0]), (50, .putfield 26, [0, 3155, 9, 4, 2]), (53, .aload_n 0, []), (54, .bipush 64, []), (56, .newarray .int, [1082, 0]), (58, .putfield 30, [0, 3157, 9, 6, 2]), (61, .aload_n 0, []), (62, .bipush 64, []), (64, .newarray .int, [1082, 0]), (66, .putfield 33, [0, 3160, 9, 7, 2]), (69, .aload_n 0, []), (70, .bipush 64, []), (72, .newarray .int, [1082, 0]), (74, .putfield 36, [0, 3161, 9, 8, 2]), (77, .aload_n 0, [])]
def ev_b19_1 : List ev_I := [(78, .bipush 64, []), (80, .newarray .int, [1082, 0]), (82, .putfield 39, [0, 3162, 9, 9, 2]), (85, .aload_n 0, []), (86, .bipush 64, []), (88, .newarray .int, [1082, 0]), (90, .putfield 42, [0, 3163, 9, 10, 2]), (93, .aload_n 0, []), (94, .bipush 64, []), (96, .newarray .int, [1082, 0]), (98, .putfield 45, [0, 3165, 9, 12, 2]), (101, .aload_n 0, []), (102, .bipush 14, []), (104, .newarray .int, [1082, 0]), (106, .putfield 48, [0, 3166, 9, 13, 2]), (109, .aload_n 0, []), (110, .bipush 28, []), (112, .newarray .int, [1082, 0]), (114, .putfield 51, [0, 3167, 9, 14, 2]), (117, .aload_n 0, []), (118, .bipush 14, []), (120, .newarray .int, [1082, 0]), (122, .putfield 54, [0, 3168, 9, 15, 2]), (125, .aload_n 0, []), (126, .bipush 14, []), (128, .newarray .int, [1082, 0]), (130, .putfield 57, [0, 3169, 9, 16, 2]), (133, .aload_n 0, []), (134, .sipush 256, []), (137, .newarray .long, [3041, 2]), (139, .putfield 60, [0, 3170, 9, 17, 2]), (142, .aload_n 0, []), (143, .sipush 256, []), (146, .newarray .long, [3041, 2]), (148, .putfield 64, [0, 3171, 9, 18, 2]), (151, .aload_n 0, []), (152, .aload_n 1, []), (153, .putfield 67, [0, 3147, 9, 0, 2]), (156, .aload_n 0, []), (157, .aload_n 1, [])]
def ev_b19_2 : List ev_I := [(158, .getfield 71, [1, 3056, 13, 3]), (161, .putfield 76, [0, 3149, 9, 2, 2]), (164, .return_, [])]
def ev_b19 : List ev_I := ev_b19_0 ++ (ev_b19_1 ++ (ev_b19_2))
/-- PathProver$Graph.<init>(LPathProver$Space;LPathProver$Relation;)V -/
def ev_b20_0 : List ev_I := [(0, .aload_n 0, []), (1, .invokespecial 3, [3232]), (4, .aload_n 0, []), (5, .sipush 256, []), (8, .newarray .long, [3041, 2]), (10, .putfield 9, [0, 3236, 2, 2, 2]), (13, .aload_n 0, []), (14, .sipush 256, []), (17, .newarray .long, [3041, 2]), (19, .putfield 15, [0, 3238, 2, 3, 2]), (22, .aload_n 0, []), (23, .sipush 256, []), (26, .newarray .long, [3041, 2]), (28, .putfield 18, [0, 4000, 2, 4, 2]), (31, .aload_n 0, []), (32, .sipush 256, []), (35, .newarray .long, [3041, 2]), (37, .putfield 21, [0, 4001, 2, 5, 2]), (40, .aload_n 0, []), (41, .sipush 256, []), (44, .newarray .long, [3041, 2]), (46, .putfield 24, [0, 4002, 2, 6, 2]), (49, .aload_n 0, []), (50, .sipush 256, []), (53, .newarray .long, [3041, 2]), (55, .putfield 27, [0, 4003, 2, 7, 2]), (58, .aload_n 0, []), (59, .bipush 64, []), (61, .newarray .int, [1082, 0]), (63, .putfield 30, [0, 4006, 2, 10, 2]), (66, .aload_n 0, []), (67, .bipush 64, []), (69, .newarray .int, [1082, 0]), (71, .putfield 34, [0, 4007, 2, 11, 2]), (74, .aload_n 0, []), (75, .bipush 64, []), (77, .newarray .int, [1082, 0]), (79, .putfield 37, [0, 4008, 2, 12, 2]), (82, .aload_n 0, []), (83, .bipush 64, [])]
def ev_b20_1 : List ev_I := [(85, .newarray .int, [1082, 0]), (87, .putfield 40, [0, 4009, 2, 13, 2]), (90, .aload_n 0, []), (91, .iconst (-1), []), (92, .putfield 43, [0, 4011, 2, 15, 0]), (95, .aload_n 0, []), (96, .aload_n 1, []), (97, .putfield 47, [0, 3233, 2, 0, 2]), (100, .aload_n 0, []), (101, .aload_n 2, []), (102, .putfield 51, [0, 3234, 2, 1, 2]), (105, .aload_n 0, []), (106, .aload_n 0, []), (107, .getfield 15, [0, 3238, 2, 3]), (110, .putfield 55, [0, 4004, 2, 8, 2]), (113, .return_, [])]
def ev_b20 : List ev_I := ev_b20_0 ++ (ev_b20_1)
/-- PathProver$Prover.<init>(LPathProver$Space;LPathProver$Graph;)V -/
def ev_b21_0 : List ev_I := [(0, .aload_n 0, []), (1, .invokespecial 3, [4072]), (4, .aload_n 0, []), (5, .new 9, [4073, 1056, 1003, 10]), (8, .dup, []), (9, .iconst 2, []), (10, .bipush 32, []), (12, .invokespecial 11, [0, 3, 2, 4074, 1058, 1003]), (15, .putfield 14, [0, 4078, 8, 2, 2]), (18, .aload_n 0, []), (19, .sipush 248, []), (22, .anewarray 20, [4075, 4, 3007]), (25, .putfield 22, [0, 4079, 8, 3, 2]), (28, .aload_n 0, []), (29, .sipush 256, []), (32, .newarray .long, [3041, 2]), (34, .putfield 26, [0, 4081, 8, 5, 2]), (37, .aload_n 0, []), (38, .bipush 64, []), (40, .anewarray 20, [4075, 4, 3007]), (43, .putfield 29, [0, 4082, 8, 6, 2]), (46, .aload_n 0, []), (47, .bipush 64, []), (49, .newarray .int, [1082, 0]), (51, .putfield 32, [0, 4083, 8, 7, 2]), (54, .aload_n 0, []), (55, .sipush 2001, []), (58, .newarray .int, [1082, 0]), (60, .putfield 36, [0, 4084, 8, 8, 2]), (63, .aload_n 0, []), (64, .sipush 2000, []), (67, .newarray .int, [1082, 0]), (69, .putfield 39, [0, 4085, 8, 9, 2]), (72, .aload_n 0, []), (73, .iconst (-1), []), (74, .putfield 42, [0, 4090, 8, 12, 0]), (77, .aload_n 0, []), (78, .aload_n 1, []), (79, .putfield 46, [0, 4076, 8, 0, 2]), (82, .aload_n 0, [])]
def ev_b21_1 : List ev_I := [(83, .aload_n 2, []), (84, .putfield 50, [0, 4077, 8, 1, 2]), (87, .return_, [])]
def ev_b21 : List ev_I := ev_b21_0 ++ (ev_b21_1)
/-- PathProverModel.<init>()V -/
def ev_b22_0 : List ev_I := [(0, .aload_n 0, []), (1, .invokespecial 1, [12191]), (4, .aload_n 0, []), (5, .ldc 7, [12192, 65536]), (7, .newarray .byte, [1081, 1]), (9, .putfield 8, [0, 13027, 1, 1, 2]), (12, .aload_n 0, []), (13, .iconst (-1), []), (14, .putfield 14, [0, 13029, 1, 3, 0]), (17, .aload_n 0, []), (18, .bipush 27, []), (20, .anewarray 18, [12193, 3, 12194]), (23, .dup, []), (24, .iconst 0, []), (25, .ldc 20, [12195, 1, 1]), (27, .aastore, []), (28, .dup, []), (29, .iconst 1, []), (30, .ldc 22, [12196, 2, 2]), (32, .aastore, []), (33, .dup, []), (34, .iconst 2, []), (35, .ldc 24, [12197, 3, 3]), (37, .aastore, []), (38, .dup, []), (39, .iconst 3, []), (40, .ldc 26, [12198, 4, 4]), (42, .aastore, []), (43, .dup, []), (44, .iconst 4, []), (45, .ldc 28, [12199, 5, 5]), (47, .aastore, []), (48, .dup, []), (49, .iconst 5, []), (50, .ldc 30, [12200, 6, 6]), (52, .aastore, []), (53, .dup, []), (54, .bipush 6, []), (56, .ldc 32, [12201, 7, 7]), (58, .aastore, [])]
def ev_b22_1 : List ev_I := [(59, .dup, []), (60, .bipush 7, []), (62, .ldc 34, [12202, 8, 8]), (64, .aastore, []), (65, .dup, []), (66, .bipush 8, []), (68, .ldc 36, [12203, 9, 9]), (70, .aastore, []), (71, .dup, []), (72, .bipush 9, []), (74, .ldc 38, [12204, 10, 10]), (76, .aastore, []), (77, .dup, []), (78, .bipush 10, []), (80, .ldc 40, [12205, 11, 11]), (82, .aastore, []), (83, .dup, []), (84, .bipush 11, []), (86, .ldc 42, [12206, 12, 12]), (88, .aastore, []), (89, .dup, []), (90, .bipush 12, []), (92, .ldc 44, [12207, 13, 13]), (94, .aastore, []), (95, .dup, []), (96, .bipush 13, []), (98, .ldc 46, [12208, 14, 14]), (100, .aastore, []), (101, .dup, []), (102, .bipush 14, []), (104, .ldc 48, [12209, 15, 15]), (106, .aastore, []), (107, .dup, []), (108, .bipush 15, []), (110, .ldc 50, [12210, 16, 16]), (112, .aastore, []), (113, .dup, []), (114, .bipush 16, []), (116, .ldc 52, [12211, 17, 17]), (118, .aastore, [])]
def ev_b22_2 : List ev_I := [(119, .dup, []), (120, .bipush 17, []), (122, .ldc 54, [12212, 18, 18]), (124, .aastore, []), (125, .dup, []), (126, .bipush 18, []), (128, .ldc 56, [12213, 19, 19]), (130, .aastore, []), (131, .dup, []), (132, .bipush 19, []), (134, .ldc 58, [12214, 20, 20]), (136, .aastore, []), (137, .dup, []), (138, .bipush 20, []), (140, .ldc 60, [12215, 21, 21]), (142, .aastore, []), (143, .dup, []), (144, .bipush 21, []), (146, .ldc 62, [12216, 22, 22]), (148, .aastore, []), (149, .dup, []), (150, .bipush 22, []), (152, .ldc 64, [12217, 23, 23]), (154, .aastore, []), (155, .dup, []), (156, .bipush 23, []), (158, .ldc 66, [12218, 24, 24]), (160, .aastore, []), (161, .dup, []), (162, .bipush 24, []), (164, .ldc 68, [12219, 25, 25]), (166, .aastore, []), (167, .dup, []), (168, .bipush 25, []), (170, .ldc 70, [12220, 26, 26]), (172, .aastore, []), (173, .dup, []), (174, .bipush 26, []), (176, .ldc 72, [12221, 27, 27]), (178, .aastore, [])]
def ev_b22_3 : List ev_I := [(179, .putfield 74, [0, 13030, 1, 4, 2]), (182, .aload_n 0, []), (183, .bipush 28, []), (185, .anewarray 18, [12193, 3, 12194]), (188, .dup, []), (189, .iconst 0, []), (190, .ldc 78, [12222, 28, 28]), (192, .aastore, []), (193, .dup, []), (194, .iconst 1, []), (195, .ldc 80, [12223, 29, 29]), (197, .aastore, []), (198, .dup, []), (199, .iconst 2, []), (200, .ldc 82, [12224, 30, 30]), (202, .aastore, []), (203, .dup, []), (204, .iconst 3, []), (205, .ldc 84, [12225, 31, 31]), (207, .aastore, []), (208, .dup, []), (209, .iconst 4, []), (210, .ldc 86, [12226, 32, 32]), (212, .aastore, []), (213, .dup, []), (214, .iconst 5, []), (215, .ldc 88, [12227, 33, 33]), (217, .aastore, []), (218, .dup, []), (219, .bipush 6, []), (221, .ldc 90, [12228, 34, 34]), (223, .aastore, []), (224, .dup, []), (225, .bipush 7, []), (227, .ldc 92, [12229, 35, 35]), (229, .aastore, []), (230, .dup, []), (231, .bipush 8, []), (233, .ldc 94, [12230, 36, 36]), (235, .aastore, [])]
def ev_b22_4 : List ev_I := [(236, .dup, []), (237, .bipush 9, []), (239, .ldc 96, [12231, 37, 37]), (241, .aastore, []), (242, .dup, []), (243, .bipush 10, []), (245, .ldc 98, [12232, 38, 38]), (247, .aastore, []), (248, .dup, []), (249, .bipush 11, []), (251, .ldc 100, [12233, 39, 39]), (253, .aastore, []), (254, .dup, []), (255, .bipush 12, []), (257, .ldc 102, [12234, 40, 40]), (259, .aastore, []), (260, .dup, []), (261, .bipush 13, []), (263, .ldc 104, [12235, 41, 41]), (265, .aastore, []), (266, .dup, []), (267, .bipush 14, []), (269, .ldc 106, [12236, 42, 42]), (271, .aastore, []), (272, .dup, []), (273, .bipush 15, []), (275, .ldc 108, [12237, 43, 43]), (277, .aastore, []), (278, .dup, []), (279, .bipush 16, []), (281, .ldc 110, [12238, 44, 44]), (283, .aastore, []), (284, .dup, []), (285, .bipush 17, []), (287, .ldc 112, [12239, 45, 45]), (289, .aastore, []), (290, .dup, []), (291, .bipush 18, []), (293, .ldc 114, [13000, 46, 46]), (295, .aastore, [])]
def ev_b22_5 : List ev_I := [(296, .dup, []), (297, .bipush 19, []), (299, .ldc 116, [13001, 47, 47]), (301, .aastore, []), (302, .dup, []), (303, .bipush 20, []), (305, .ldc 118, [13002, 48, 48]), (307, .aastore, []), (308, .dup, []), (309, .bipush 21, []), (311, .ldc 120, [13003, 49, 49]), (313, .aastore, []), (314, .dup, []), (315, .bipush 22, []), (317, .ldc 122, [13004, 50, 50]), (319, .aastore, []), (320, .dup, []), (321, .bipush 23, []), (323, .ldc 124, [13005, 51, 51]), (325, .aastore, []), (326, .dup, []), (327, .bipush 24, []), (329, .ldc 126, [13006, 52, 52]), (331, .aastore, []), (332, .dup, []), (333, .bipush 25, []), (335, .ldc 128, [13007, 53, 53]), (337, .aastore, []), (338, .dup, []), (339, .bipush 26, []), (341, .ldc 130, [13008, 54, 54]), (343, .aastore, []), (344, .dup, []), (345, .bipush 27, []), (347, .ldc 132, [13009, 55, 55]), (349, .aastore, []), (350, .putfield 134, [0, 13031, 1, 5, 2]), (353, .aload_n 0, []), (354, .bipush 16, []), (356, .anewarray 18, [12193, 3, 12194])]
def ev_b22_6 : List ev_I := [(359, .putfield 137, [0, 13038, 1, 13, 2]), (362, .aload_n 0, []), (363, .bipush 8, []), (365, .anewarray 140, [13010, 6, 13011]), (368, .putfield 142, [0, 13039, 1, 14, 2]), (371, .aload_n 0, []), (372, .bipush 16, []), (374, .anewarray 18, [12193, 3, 12194]), (377, .putfield 146, [0, 13041, 1, 16, 2]), (380, .aload_n 0, []), (381, .bipush 64, []), (383, .newarray .int, [1082, 0]), (385, .putfield 149, [0, 13047, 1, 22, 2]), (388, .aload_n 0, []), (389, .bipush 64, []), (391, .newarray .byte, [1081, 1]), (393, .putfield 153, [0, 13049, 1, 24, 2]), (396, .aload_n 0, []), (397, .bipush 64, []), (399, .newarray .int, [1082, 0]), (401, .putfield 156, [0, 13050, 1, 25, 2]), (404, .aload_n 0, []), (405, .bipush 64, []), (407, .newarray .int, [1082, 0]), (409, .putfield 159, [0, 13051, 1, 26, 2]), (412, .aload_n 0, []), (413, .bipush 64, []), (415, .newarray .int, [1082, 0]), (417, .putfield 162, [0, 13052, 1, 27, 2]), (420, .aload_n 0, []), (421, .iconst 0, []), (422, .newarray .int, [1082, 0]), (424, .putfield 165, [0, 13054, 1, 30, 2]), (427, .aload_n 0, []), (428, .iconst 0, []), (429, .newarray .int, [1082, 0]), (431, .putfield 168, [0, 13055, 1, 31, 2]), (434, .aload_n 0, []), (435, .new 171, [13012, 13013, 1022, 14]), (438, .dup, [])]
def ev_b22_7 : List ev_I := [(439, .invokespecial 173, [1, 23, 0, 13014, 13015, 1022]), (442, .putfield 174, [0, 13056, 1, 32, 2]), (445, .aload_n 0, []), (446, .new 171, [13012, 13013, 1022, 14]), (449, .dup, []), (450, .invokespecial 173, [1, 23, 0, 13014, 13015, 1022]), (453, .putfield 178, [0, 13057, 1, 33, 2]), (456, .aload_n 0, []), (457, .new 171, [13012, 13013, 1022, 14]), (460, .dup, []), (461, .invokespecial 173, [1, 23, 0, 13014, 13015, 1022]), (464, .putfield 181, [0, 13058, 1, 34, 2]), (467, .aload_n 0, []), (468, .new 171, [13012, 13013, 1022, 14]), (471, .dup, []), (472, .invokespecial 173, [1, 23, 0, 13014, 13015, 1022]), (475, .putfield 184, [0, 13059, 1, 35, 2]), (478, .aload_n 0, []), (479, .iconst (-1), []), (480, .putfield 187, [0, 13060, 1, 36, 0]), (483, .aload_n 0, []), (484, .sipush 2000, []), (487, .newarray .int, [1082, 0]), (489, .putfield 190, [0, 13061, 1, 37, 2]), (492, .aload_n 0, []), (493, .iconst (-1), []), (494, .putfield 193, [0, 13063, 1, 39, 0]), (497, .aload_n 0, []), (498, .iconst 0, []), (499, .newarray .int, [1082, 0]), (501, .putfield 196, [0, 13064, 1, 40, 2]), (504, .aload_n 0, []), (505, .iconst 0, []), (506, .newarray .long, [3041, 2]), (508, .putfield 199, [0, 13065, 1, 41, 2]), (511, .aload_n 0, []), (512, .iconst 0, []), (513, .newarray .int, [1082, 0]), (515, .putfield 203, [0, 13067, 1, 43, 2]), (518, .aload_n 0, [])]
def ev_b22_8 : List ev_I := [(519, .ldc 206, [13022, 200000]), (521, .newarray .int, [1082, 0]), (523, .putfield 207, [0, 13068, 1, 44, 2]), (526, .aload_n 0, []), (527, .iconst 0, []), (528, .anewarray 210, [13023, 5, 13024]), (531, .putfield 212, [0, 13073, 1, 49, 2]), (534, .aload_n 0, []), (535, .bipush 8, []), (537, .anewarray 171, [13012, 7, 13025]), (540, .putfield 216, [0, 13075, 1, 51, 2]), (543, .aload_n 0, []), (544, .iconst 0, []), (545, .newarray .int, [1082, 0]), (547, .putfield 220, [0, 13077, 1, 53, 2]), (550, .aload_n 0, []), (551, .sipush 2001, []), (554, .newarray .int, [1082, 0]), (556, .putfield 223, [0, 13078, 1, 54, 2]), (559, .return_, [])]
def ev_b22 : List ev_I := ev_b22_0 ++ (ev_b22_1 ++ (ev_b22_2 ++ (ev_b22_3 ++ (ev_b22_4 ++ (ev_b22_5 ++ (ev_b22_6 ++ (ev_b22_7 ++ (ev_b22_8))))))))
/-- PathProverModel$Bits.<init>()V -/
def ev_b23 : List ev_I := [(0, .aload_n 0, []), (1, .invokespecial 1, [13017]), (4, .aload_n 0, []), (5, .sipush 512, []), (8, .newarray .int, [1082, 0]), (10, .putfield 7, [0, 13018, 14, 0, 2]), (13, .return_, [])]
/-- PathProverLaw.feed(LPathProver;IIIII[J)I -/
def ev_b24 : List ev_I := [(0, .aload 6, []), (2, .iconst 0, []), (3, .aload_n 0, []), (4, .iload_n 1, []), (5, .iload_n 2, []), (6, .iload_n 3, []), (7, .iload 4, []), (9, .iload 5, []), (11, .invokevirtual 7, [25, 5, 0, 4202, 4203, 4204, 1001]), (14, .i2l, []), (15, .lastore, []), (16, .goto 7, [23]), (19, .astore 7, []), (21, .iconst 1, []), (22, .ireturn, []), (23, .iconst 0, []), (24, .ireturn, [])]
/-- PathProver.feed(IIIII)I -/
def ev_b25_0 : List ev_I := [(0, .aload_n 0, []), (1, .getfield 78, [0, 4152, 0, 1]), (4, .bipush 20, []), (6, .iadd, []), (7, .ldc 81, [4206, 65536]), (9, .if_icmp .le 11, [20]), (12, .new 82, [4207, 4208, 1026, 0, 3]), (15, .dup, []), (16, .invokespecial 84, [5010, 3]), (19, .athrow, []), (20, .aload_n 0, []), (21, .getfield 78, [0, 4152, 0, 1]), (24, .bipush 20, []), (26, .iadd, []), (27, .aload_n 0, []), (28, .getfield 9, [0, 4151, 0, 0]), (31, .arraylength, []), (32, .if_icmp .le 26, [58]), (35, .aload_n 0, []), (36, .aload_n 0, []), (37, .getfield 9, [0, 4151, 0, 0]), (40, .iconst 2, []), (41, .aload_n 0, []), (42, .getfield 9, [0, 4151, 0, 0]), (45, .arraylength, []), (46, .imul, []), (47, .ldc 81, [4206, 65536]), (49, .invokestatic 85, [45, 2, 5033, 2160, 1015]), (52, .invokestatic 91, [102, 2, 5034, 5035, 1014]), (55, .putfield 9, [0, 4151, 0, 0, 2]), (58, .aload_n 0, []), (59, .iload_n 1, []), (60, .invokevirtual 97, [26, 1, 0, 5042, 5044, 1, 1001]), (63, .aload_n 0, []), (64, .iload_n 2, []), (65, .invokevirtual 97, [26, 1, 0, 5042, 5044, 1, 1001]), (68, .aload_n 0, []), (69, .iload_n 3, []), (70, .invokevirtual 97, [26, 1, 0, 5042, 5044, 1, 1001]), (73, .aload_n 0, [])]
def ev_b25_1 : List ev_I := [(74, .iload 4, []), (76, .invokevirtual 97, [26, 1, 0, 5042, 5044, 1, 1001]), (79, .aload_n 0, []), (80, .iload 5, []), (82, .invokevirtual 97, [26, 1, 0, 5042, 5044, 1, 1001]), (85, .aload_n 0, []), (86, .getfield 78, [0, 4152, 0, 1]), (89, .ireturn, [])]
def ev_b25 : List ev_I := ev_b25_0 ++ (ev_b25_1)
/-- PathProver.write(I)V -/
def ev_b26 : List ev_I := [(0, .bipush 24, []), (2, .istore_n 2, []), (3, .iload_n 2, []), (4, .ifCond .lt 32, [36]), (7, .aload_n 0, []), (8, .getfield 9, [0, 4151, 0, 0]), (11, .aload_n 0, []), (12, .getfield 78, [0, 4152, 0, 1]), (15, .iload_n 1, []), (16, .iload_n 2, []), (17, .ishr, []), (18, .i2b, []), (19, .bastore, []), (20, .aload_n 0, []), (21, .dup, []), (22, .getfield 78, [0, 4152, 0, 1]), (25, .iconst 1, []), (26, .iadd, []), (27, .putfield 78, [0, 4152, 0, 1, 0]), (30, .iinc 2 (-8), []), (33, .goto (-30), [3]), (36, .return_, [])]
/-- PathProverModel.feed(IIIII)I -/
def ev_b27_0 : List ev_I := [(0, .aload_n 0, []), (1, .iconst 0, []), (2, .putfield 226, [0, 13026, 1, 0, 0]), (5, .aload_n 0, []), (6, .getfield 229, [0, 13028, 1, 2]), (9, .bipush 20, []), (11, .iadd, []), (12, .ldc 7, [12192, 65536]), (14, .if_icmp .le 9, [23]), (17, .aload_n 0, []), (18, .iconst 1, []), (19, .invokevirtual 820, [32, 1, 1, 16128, 16130, 272, 1021]), (22, .ireturn, []), (23, .iconst 0, []), (24, .istore 6, []), (26, .iload 6, []), (28, .bipush 20, []), (30, .if_icmp .ge 90, [120]), (33, .iload 6, []), (35, .iconst 4, []), (36, .if_icmp .ge 7, [43]), (39, .iload_n 1, []), (40, .goto 39, [79]), (43, .iload 6, []), (45, .bipush 8, []), (47, .if_icmp .ge 7, [54]), (50, .iload_n 2, []), (51, .goto 28, [79]), (54, .iload 6, []), (56, .bipush 12, []), (58, .if_icmp .ge 7, [65]), (61, .iload_n 3, []), (62, .goto 17, [79]), (65, .iload 6, []), (67, .bipush 16, []), (69, .if_icmp .ge 8, [77]), (72, .iload 4, []), (74, .goto 5, [79]), (77, .iload 5, []), (79, .istore 7, [])]
def ev_b27_1 : List ev_I := [(81, .aload_n 0, []), (82, .getfield 8, [0, 13027, 1, 1]), (85, .aload_n 0, []), (86, .getfield 229, [0, 13028, 1, 2]), (89, .iload 7, []), (91, .bipush 24, []), (93, .bipush 8, []), (95, .iload 6, []), (97, .iconst 4, []), (98, .irem, []), (99, .imul, []), (100, .isub, []), (101, .ishr, []), (102, .i2b, []), (103, .bastore, []), (104, .aload_n 0, []), (105, .dup, []), (106, .getfield 229, [0, 13028, 1, 2]), (109, .iconst 1, []), (110, .iadd, []), (111, .putfield 229, [0, 13028, 1, 2, 0]), (114, .iinc 6 1, []), (117, .goto (-91), [26]), (120, .aload_n 0, []), (121, .getfield 229, [0, 13028, 1, 2]), (124, .ireturn, [])]
def ev_b27 : List ev_I := ev_b27_0 ++ (ev_b27_1)
/-- PathProverModel.thrown()I -/
def ev_b28 : List ev_I := [(0, .aload_n 0, []), (1, .getfield 226, [0, 13026, 1, 0]), (4, .ireturn, [])]
/-- PathProverLaw.end(LPathProver;I[J)I -/
def ev_b29 : List ev_I := [(0, .aload_n 2, []), (1, .iconst 0, []), (2, .aload_n 0, []), (3, .iload_n 1, []), (4, .invokevirtual 15, [30, 1, 0, 5050, 5051, 5052, 1001]), (7, .i2l, []), (8, .lastore, []), (9, .goto 6, [15]), (12, .astore_n 3, []), (13, .iconst 1, []), (14, .ireturn, []), (15, .iconst 0, []), (16, .ireturn, [])]
/-- PathProver.end(I)I -/
def ev_b30 : List ev_I := [(0, .iload_n 1, []), (1, .ifCond .lt 11, [12]), (4, .iload_n 1, []), (5, .aload_n 0, []), (6, .getfield 78, [0, 4152, 0, 1]), (9, .if_icmp .le 11, [20]), (12, .new 101, [5054, 5055, 1027, 0, 0]), (15, .dup, []), (16, .invokespecial 103, [5063, 0]), (19, .athrow, []), (20, .aload_n 0, []), (21, .iload_n 1, []), (22, .putfield 78, [0, 4152, 0, 1, 0]), (25, .iload_n 1, []), (26, .ireturn, [])]
/-- PathProverModel.end(I)I -/
def ev_b31 : List ev_I := [(0, .aload_n 0, []), (1, .iconst 0, []), (2, .putfield 226, [0, 13026, 1, 0, 0]), (5, .iload_n 1, []), (6, .ifCond .lt 11, [17]), (9, .iload_n 1, []), (10, .aload_n 0, []), (11, .getfield 229, [0, 13028, 1, 2]), (14, .if_icmp .le 9, [23]), (17, .aload_n 0, []), (18, .iconst 1, []), (19, .invokevirtual 820, [32, 1, 1, 16128, 16130, 272, 1021]), (22, .ireturn, []), (23, .aload_n 0, []), (24, .iload_n 1, []), (25, .putfield 229, [0, 13028, 1, 2, 0]), (28, .iload_n 1, []), (29, .ireturn, [])]
/-- PathProverModel.fail(I)I -/
def ev_b32 : List ev_I := [(0, .aload_n 0, []), (1, .iload_n 1, []), (2, .putfield 226, [0, 13026, 1, 0, 0]), (5, .iconst 0, []), (6, .ireturn, [])]
/-- PathProverLaw.read(LPathProver;[J)I -/
def ev_b33 : List ev_I := [(0, .aload_n 1, []), (1, .iconst 0, []), (2, .aload_n 0, []), (3, .invokevirtual 21, [34, 0, 0, 5073, 5074, 5075, 1001]), (6, .i2l, []), (7, .lastore, []), (8, .goto 12, [20]), (11, .astore_n 2, []), (12, .iconst 1, []), (13, .ireturn, []), (14, .astore_n 2, []), (15, .iconst 2, []), (16, .ireturn, []), (17, .astore_n 2, []), (18, .iconst 3, []), (19, .ireturn, []), (20, .iconst 0, []), (21, .ireturn, [])]
/-- PathProver.read()I -/
def ev_b34_0 : List ev_I := [(0, .aload_n 0, []), (1, .getfield 78, [0, 4152, 0, 1]), (4, .istore_n 1, []), (5, .aload_n 0, []), (6, .iconst 0, []), (7, .putfield 78, [0, 4152, 0, 1, 0]), (10, .aload_n 0, []), (11, .aload_n 0, []), (12, .getfield 30, [0, 4157, 0, 6]), (15, .aload_n 0, []), (16, .getfield 24, [0, 4156, 0, 5]), (19, .aload_n 0, []), (20, .getfield 9, [0, 4151, 0, 0]), (23, .iload_n 1, []), (24, .invokevirtual 104, [35, 3, 7, 5077, 5078, 5079, 1004]), (27, .putfield 13, [0, 4153, 0, 2, 0]), (30, .aload_n 0, []), (31, .getfield 13, [0, 4153, 0, 2]), (34, .ifCond .lt 11, [45]), (37, .new 101, [5054, 5055, 1027, 0, 0]), (40, .dup, []), (41, .invokespecial 103, [5063, 0]), (44, .athrow, []), (45, .aload_n 0, []), (46, .getfield 37, [0, 4158, 0, 7]), (49, .aload_n 0, []), (50, .getfield 24, [0, 4156, 0, 5]), (56, .istore_n 2, []), (57, .iload_n 2, []), (58, .iconst 1, []), (59, .if_icmp .ne 11, [70]), (62, .new 112, [7100, 7101, 1030, 0, 2]), (65, .dup, []), (66, .invokespecial 114, [7109, 2]), (69, .athrow, []), (70, .iload_n 2, []), (71, .iconst 2, []), (72, .if_icmp .ne 11, [83]), (75, .new 82, [4207, 4208, 1026, 0, 3]), (78, .dup, [])]
def ev_b34_1 : List ev_I := [(79, .invokespecial 84, [5010, 3]), (82, .athrow, []), (83, .aload_n 0, []), (84, .getfield 20, [0, 4155, 0, 4]), (87, .astore_n 3, []), (88, .aload_n 0, []), (89, .aload_n 0, []), (90, .getfield 24, [0, 4156, 0, 5]), (93, .putfield 20, [0, 4155, 0, 4, 2]), (96, .aload_n 0, []), (97, .aload_n 3, []), (98, .putfield 24, [0, 4156, 0, 5, 2]), (101, .aload_n 0, []), (102, .iconst 1, []), (103, .putfield 115, [0, 4154, 0, 3, 1]), (106, .aload_n 0, []), (107, .iconst 0, []), (108, .putfield 119, [0, 4163, 0, 12, 1]), (111, .aload_n 0, []), (112, .iconst (-1), []), (113, .putfield 75, [0, 4164, 0, 13, 0]), (116, .aload_n 0, []), (117, .getfield 44, [0, 4159, 0, 8]), (120, .aload_n 0, []), (121, .getfield 20, [0, 4155, 0, 4]), (127, .aload_n 0, []), (128, .getfield 71, [0, 4162, 0, 11]), (134, .aload_n 0, []), (135, .getfield 20, [0, 4155, 0, 4]), (138, .getfield 128, [1, 1145, 6, 17]), (141, .getfield 132, [1, 1071, 10, 2]), (144, .ireturn, [])]
def ev_b34 : List ev_I := ev_b34_0 ++ (ev_b34_1)
/-- PathProver$Parser.parse(LPathProver$Model;[BI)I -/
def ev_b35_0 : List ev_I := [(0, .aload_n 0, []), (1, .aload_n 1, []), (2, .putfield 27, [0, 2053, 7, 2, 2]), (5, .aload_n 0, []), (6, .getfield 27, [0, 2053, 7, 2]), (9, .invokevirtual 31, [36, 0, 6, 5081, 5082, 5083, 1002]), (12, .aload_n 0, []), (13, .getfield 23, [0, 2052, 7, 1]), (16, .invokevirtual 36, [37, 0, 10, 5089, 5086, 5087, 1003]), (19, .aload_n 0, []), (20, .getfield 12, [0, 2051, 7, 0]), (23, .aload_n 2, []), (24, .iload_n 3, []), (25, .invokevirtual 37, [38, 2, 4, 5090, 5091, 5092, 1005]), (28, .aload_n 0, []), (29, .iconst (-1), []), (30, .putfield 41, [0, 2054, 7, 3, 0]), (33, .aload_n 0, []), (34, .invokevirtual 45, [44, 0, 7, 5204, 5206, 10, 1004]), (37, .aload_n 0, []), (38, .iconst 0, []), (39, .putfield 48, [0, 2057, 7, 6, 0]), (42, .iconst 1, []), (43, .istore 4, []), (45, .iconst 0, []), (46, .istore 5, []), (48, .iload 5, []), (50, .ldc 51, [5210, 524288]), (52, .if_icmp .ge 226, [278]), (55, .iload 4, []), (57, .ifCond .eq 221, [278]), (60, .aload_n 0, []), (61, .getfield 48, [0, 2057, 7, 6]), (64, .bipush 10, []), (66, .if_icmp .eq 212, [278]), (69, .aload_n 0, []), (70, .getfield 48, [0, 2057, 7, 6]), (73, .tableswitch 193 0 9 #[55, 157, 64, 89, 114, 193, 193, 184, 166, 175], [266, 128, 230, 137, 162, 187, 266, 266, 257, 239, 248]), (128, .aload_n 0, []), (129, .invokevirtual 52, [47, 0, 7, 5211, 5213, 11, 1004])]
def ev_b35_1 : List ev_I := [(132, .istore 4, []), (134, .goto 138, [272]), (137, .aload_n 0, []), (138, .getfield 56, [0, 2055, 7, 4]), (141, .bipush 112, []), (143, .if_icmp .ne 10, [153]), (146, .aload_n 0, []), (150, .goto 7, [157]), (153, .aload_n 0, []), (157, .istore 4, []), (159, .goto 113, [272]), (162, .aload_n 0, []), (163, .getfield 56, [0, 2055, 7, 4]), (166, .bipush 112, []), (168, .if_icmp .ne 10, [178]), (171, .aload_n 0, []), (175, .goto 7, [182]), (178, .aload_n 0, []), (182, .istore 4, []), (184, .goto 88, [272]), (187, .aload_n 0, []), (188, .getfield 56, [0, 2055, 7, 4]), (191, .bipush 112, []), (193, .if_icmp .eq 21, [214]), (196, .aload_n 0, []), (197, .getfield 56, [0, 2055, 7, 4]), (200, .bipush 9, []), (202, .if_icmp .eq 12, [214]), (205, .aload_n 0, []), (206, .getfield 56, [0, 2055, 7, 4]), (209, .bipush 10, []), (211, .if_icmp .ne 10, [221]), (214, .aload_n 0, []), (218, .goto 7, [225]), (221, .aload_n 0, []), (225, .istore 4, []), (227, .goto 45, [272]), (230, .aload_n 0, []), (234, .istore 4, []), (236, .goto 36, [272])]
def ev_b35_2 : List ev_I := [(239, .aload_n 0, []), (243, .istore 4, []), (245, .goto 27, [272]), (248, .aload_n 0, []), (252, .istore 4, []), (254, .goto 18, [272]), (257, .aload_n 0, []), (261, .istore 4, []), (263, .goto 9, [272]), (266, .aload_n 0, []), (270, .istore 4, []), (272, .iinc 5 1, []), (275, .goto (-227), [48]), (278, .iload 4, []), (280, .ifCond .ne 19, [299]), (283, .aload_n 0, []), (284, .getfield 12, [0, 2051, 7, 0]), (287, .getfield 83, [1, 2017, 4, 5]), (290, .aload_n 0, []), (291, .getfield 41, [0, 2054, 7, 3]), (294, .iconst 2, []), (295, .invokevirtual 86, [46, 2, 10, 5209, 5111, 5112, 1003]), (298, .ireturn, []), (299, .aload_n 0, []), (303, .iconst (-1), []), (304, .ireturn, [])]
def ev_b35 : List ev_I := ev_b35_0 ++ (ev_b35_1 ++ (ev_b35_2))
/-- PathProver$Model.clear()V -/
def ev_b36_0 : List ev_I := [(0, .aload_n 0, []), (1, .getfield 14, [0, 1083, 6, 0]), (4, .invokevirtual 74, [37, 0, 10, 5085, 5086, 5087, 1003]), (7, .aload_n 0, []), (8, .getfield 20, [0, 1089, 6, 1]), (11, .invokevirtual 74, [37, 0, 10, 5085, 5086, 5087, 1003]), (14, .aload_n 0, []), (15, .getfield 23, [0, 1092, 6, 2]), (18, .invokevirtual 74, [37, 0, 10, 5085, 5086, 5087, 1003]), (21, .aload_n 0, []), (22, .getfield 26, [0, 1095, 6, 3]), (25, .invokevirtual 74, [37, 0, 10, 5085, 5086, 5087, 1003]), (28, .aload_n 0, []), (29, .getfield 29, [0, 1099, 6, 4]), (32, .invokevirtual 74, [37, 0, 10, 5085, 5086, 5087, 1003]), (35, .aload_n 0, []), (36, .getfield 32, [0, 1102, 6, 5]), (39, .invokevirtual 74, [37, 0, 10, 5085, 5086, 5087, 1003]), (42, .aload_n 0, []), (43, .getfield 35, [0, 1104, 6, 6]), (46, .invokevirtual 74, [37, 0, 10, 5085, 5086, 5087, 1003]), (49, .aload_n 0, []), (50, .getfield 38, [0, 1107, 6, 7]), (53, .invokevirtual 74, [37, 0, 10, 5085, 5086, 5087, 1003]), (56, .aload_n 0, []), (57, .getfield 41, [0, 1111, 6, 8]), (60, .invokevirtual 74, [37, 0, 10, 5085, 5086, 5087, 1003]), (63, .aload_n 0, []), (64, .getfield 44, [0, 1115, 6, 9]), (67, .invokevirtual 74, [37, 0, 10, 5085, 5086, 5087, 1003]), (70, .aload_n 0, []), (71, .getfield 47, [0, 1120, 6, 10]), (74, .invokevirtual 74, [37, 0, 10, 5085, 5086, 5087, 1003]), (77, .aload_n 0, []), (78, .getfield 50, [0, 1123, 6, 11]), (81, .invokevirtual 74, [37, 0, 10, 5085, 5086, 5087, 1003]), (84, .aload_n 0, []), (85, .getfield 53, [0, 1126, 6, 12]), (88, .invokevirtual 74, [37, 0, 10, 5085, 5086, 5087, 1003]), (91, .aload_n 0, [])]
def ev_b36_1 : List ev_I := [(92, .getfield 56, [0, 1127, 6, 13]), (95, .invokevirtual 74, [37, 0, 10, 5085, 5086, 5087, 1003]), (98, .aload_n 0, []), (99, .getfield 59, [0, 1130, 6, 14]), (102, .invokevirtual 74, [37, 0, 10, 5085, 5086, 5087, 1003]), (105, .aload_n 0, []), (106, .getfield 62, [0, 1133, 6, 15]), (109, .invokevirtual 74, [37, 0, 10, 5085, 5086, 5087, 1003]), (112, .aload_n 0, []), (113, .getfield 65, [0, 1140, 6, 16]), (116, .invokevirtual 74, [37, 0, 10, 5085, 5086, 5087, 1003]), (119, .aload_n 0, []), (120, .getfield 68, [0, 1144, 6, 17]), (123, .invokevirtual 74, [37, 0, 10, 5085, 5086, 5087, 1003]), (126, .return_, [])]
def ev_b36 : List ev_I := ev_b36_0 ++ (ev_b36_1)
/-- PathProver$Rows.clear()V -/
def ev_b37 : List ev_I := [(0, .aload_n 0, []), (1, .iconst 0, []), (2, .putfield 17, [0, 1063, 10, 2, 0]), (5, .return_, [])]
/-- PathProver$Lexer.scan([BI)V -/
def ev_b38_0 : List ev_I := [(0, .aload_n 0, []), (1, .aload_n 1, []), (2, .putfield 46, [0, 2011, 4, 0, 2]), (5, .aload_n 0, []), (6, .iload_n 2, []), (7, .putfield 49, [0, 2012, 4, 1, 0]), (10, .aload_n 0, []), (11, .iconst 0, []), (12, .putfield 52, [0, 2013, 4, 2, 0]), (15, .aload_n 0, []), (16, .getfield 14, [0, 2016, 4, 5]), (19, .invokevirtual 55, [37, 0, 10, 5094, 5086, 5087, 1003]), (22, .aload_n 0, []), (23, .invokevirtual 58, [39, 0, 4, 5095, 5097, 2, 1005]), (26, .aload_n 0, []), (27, .bipush 112, []), (29, .putfield 61, [0, 2014, 4, 3, 0]), (32, .iconst 0, []), (33, .istore_n 3, []), (34, .iload_n 3, []), (35, .iload_n 2, []), (36, .if_icmp .gt 129, [165]), (39, .aload_n 0, []), (40, .getfield 61, [0, 2014, 4, 3]), (43, .bipush 114, []), (45, .if_icmp .eq 120, [165]), (48, .aload_n 0, []), (49, .getfield 61, [0, 2014, 4, 3]), (52, .bipush 115, []), (54, .if_icmp .eq 111, [165]), (57, .aload_n 0, []), (58, .invokevirtual 64, [43, 0, 4, 5121, 5123, 6, 1005]), (61, .aload_n 0, []), (62, .getfield 52, [0, 2013, 4, 2]), (65, .istore 4, []), (67, .aload_n 0, []), (68, .iconst 0, []), (69, .putfield 67, [0, 2015, 4, 4, 0]), (72, .aload_n 0, []), (73, .getfield 52, [0, 2013, 4, 2])]
def ev_b38_1 : List ev_I := [(76, .aload_n 0, []), (77, .getfield 49, [0, 2012, 4, 1]), (80, .if_icmp .lt 12, [92]), (83, .aload_n 0, []), (84, .bipush 114, []), (86, .putfield 61, [0, 2014, 4, 3, 0]), (89, .goto 51, [140]), (92, .aload_n 0, []), (93, .getfield 46, [0, 2011, 4, 0]), (96, .aload_n 0, []), (97, .getfield 52, [0, 2013, 4, 2]), (100, .baload, []), (104, .ifCond .eq 10, [114]), (107, .aload_n 0, []), (111, .goto 29, [140]), (114, .aload_n 0, []), (115, .getfield 46, [0, 2011, 4, 0]), (118, .aload_n 0, []), (119, .getfield 52, [0, 2013, 4, 2]), (122, .baload, []), (126, .ifCond .eq 10, [136]), (129, .aload_n 0, []), (133, .goto 7, [140]), (136, .aload_n 0, []), (140, .aload_n 0, []), (141, .getfield 14, [0, 2016, 4, 5]), (144, .aload_n 0, []), (145, .getfield 61, [0, 2014, 4, 3]), (148, .aload_n 0, []), (149, .getfield 67, [0, 2015, 4, 4]), (152, .iload 4, []), (154, .iconst 0, []), (155, .invokevirtual 86, [17, 4, 10, 5120, 2146, 2147, 1003]), (158, .pop, []), (159, .iinc 3 1, []), (162, .goto (-128), [34]), (165, .return_, [])]
def ev_b38 : List ev_I := ev_b38_0 ++ (ev_b38_1)
/-- PathProver$Lexer.forgetWords()V -/
def ev_b39_0 : List ev_I := [(0, .aload_n 0, []), (1, .iconst 0, []), (2, .putfield 90, [0, 2023, 4, 11, 0]), (5, .aload_n 0, []), (6, .iconst 0, []), (7, .putfield 93, [0, 2020, 4, 8, 0]), (10, .aload_n 0, []), (11, .getfield 39, [0, 2021, 4, 9]), (14, .invokevirtual 55, [37, 0, 10, 5094, 5086, 5087, 1003]), (17, .aload_n 0, []), (18, .getfield 42, [0, 2022, 4, 10]), (21, .iconst (-1), []), (22, .invokestatic 96, [40, 2, 5099, 5100, 1014]), (25, .iconst 0, []), (26, .istore_n 1, []), (27, .iconst 0, []), (28, .istore_n 2, []), (29, .iload_n 2, []), (30, .aload_n 0, []), (31, .getfield 28, [0, 2018, 4, 6]), (34, .arraylength, []), (35, .if_icmp .ge 35, [70]), (38, .aload_n 0, []), (39, .getfield 28, [0, 2018, 4, 6]), (42, .iload_n 2, []), (43, .baload, []), (44, .bipush 32, []), (46, .if_icmp .ne 18, [64]), (49, .aload_n 0, []), (50, .aload_n 0, []), (51, .getfield 28, [0, 2018, 4, 6]), (54, .iload_n 1, []), (55, .iload_n 2, []), (56, .invokevirtual 102, [41, 3, 4, 5102, 5104, 3, 1005]), (59, .pop, []), (60, .iload_n 2, []), (61, .iconst 1, []), (62, .iadd, []), (63, .istore_n 1, []), (64, .iinc 2 1, [])]
def ev_b39_1 : List ev_I := [(67, .goto (-38), [29]), (70, .return_, [])]
def ev_b39 : List ev_I := ev_b39_0 ++ (ev_b39_1)
/-- java/util/Arrays.fill([II)V -/
def ev_b40 : List ev_I := [(0, .iconst 0, []), (1, .istore_n 2, []), (2, .aload_n 0, []), (3, .arraylength, []), (4, .istore_n 3, []), (5, .iload_n 2, []), (6, .iload_n 3, []), (7, .if_icmp .ge 13, [20]), (10, .aload_n 0, []), (11, .iload_n 2, []), (12, .iload_n 1, []), (13, .iastore, []), (14, .iinc 2 1, []), (17, .goto (-12), [5]), (20, .return_, [])]
/-- PathProver$Lexer.numberOf([BII)I -/
def ev_b41_0 : List ev_I := [(0, .iconst 0, []), (1, .istore 4, []), (3, .iload_n 2, []), (4, .istore 5, []), (6, .iload 5, []), (8, .iload_n 3, []), (9, .if_icmp .ge 21, [30]), (12, .iload 4, []), (14, .bipush 31, []), (16, .imul, []), (17, .aload_n 1, []), (18, .iload 5, []), (20, .baload, []), (21, .iadd, []), (22, .istore 4, []), (24, .iinc 5 1, []), (27, .goto (-21), [6]), (30, .iload 4, []), (32, .iload 4, []), (34, .bipush 8, []), (36, .iushr, []), (37, .ixor, []), (38, .sipush 255, []), (41, .iand, []), (42, .istore 5, []), (44, .aload_n 0, []), (45, .getfield 42, [0, 2022, 4, 10]), (48, .iload 5, []), (50, .iaload, []), (51, .istore 6, []), (53, .iconst 0, []), (54, .istore 7, []), (56, .iload 7, []), (58, .aload_n 0, []), (59, .getfield 39, [0, 2021, 4, 9]), (62, .getfield 121, [1, 1072, 10, 2]), (65, .if_icmp .ge 41, [106]), (68, .iload 6, []), (70, .ifCond .lt 36, [106]), (73, .aload_n 0, [])]
def ev_b41_1 : List ev_I := [(74, .iload 6, []), (76, .aload_n 1, []), (77, .iload_n 2, []), (78, .iload_n 3, []), (82, .ifCond .eq 6, [88]), (85, .iload 6, []), (87, .ireturn, []), (88, .aload_n 0, []), (89, .getfield 39, [0, 2021, 4, 9]), (92, .iload 6, []), (94, .iconst 2, []), (95, .invokevirtual 128, [46, 2, 10, 5110, 5111, 5112, 1003]), (98, .istore 6, []), (100, .iinc 7 1, []), (103, .goto (-47), [56]), (106, .aload_n 0, []), (107, .aload_n 1, []), (108, .iload_n 2, []), (109, .iload_n 3, []), (110, .iload 5, []), (112, .invokevirtual 131, [42, 4, 4, 5114, 5116, 5, 1005]), (115, .ireturn, [])]
def ev_b41 : List ev_I := ev_b41_0 ++ (ev_b41_1)
/-- PathProver$Lexer.keepWord([BIII)I -/
def ev_b42_0 : List ev_I := [(0, .iload_n 3, []), (1, .iload_n 2, []), (2, .isub, []), (3, .istore 5, []), (5, .aload_n 0, []), (6, .getfield 93, [0, 2020, 4, 8]), (9, .iload 5, []), (11, .iadd, []), (12, .aload_n 0, []), (13, .getfield 36, [0, 2019, 4, 7]), (16, .arraylength, []), (17, .if_icmp .le 24, [41]), (20, .aload_n 0, []), (21, .aload_n 0, []), (22, .getfield 36, [0, 2019, 4, 7]), (25, .iconst 2, []), (26, .aload_n 0, []), (27, .getfield 36, [0, 2019, 4, 7]), (30, .arraylength, []), (31, .imul, []), (32, .iload 5, []), (34, .iadd, []), (35, .invokestatic 135, [102, 2, 5118, 5035, 1014]), (38, .putfield 36, [0, 2019, 4, 7, 2]), (41, .aload_n 1, []), (42, .iload_n 2, []), (43, .aload_n 0, []), (44, .getfield 36, [0, 2019, 4, 7]), (47, .aload_n 0, []), (48, .getfield 93, [0, 2020, 4, 8]), (51, .iload 5, []), (53, .invokestatic 139, [5119]), (56, .aload_n 0, []), (57, .getfield 39, [0, 2021, 4, 9]), (60, .aload_n 0, []), (61, .getfield 93, [0, 2020, 4, 8]), (64, .iload 5, []), (66, .aload_n 0, []), (67, .getfield 42, [0, 2022, 4, 10]), (70, .iload 4, [])]
def ev_b42_1 : List ev_I := [(72, .iaload, []), (73, .iconst (-1), []), (74, .invokevirtual 86, [17, 4, 10, 5120, 2146, 2147, 1003]), (77, .istore 6, []), (79, .aload_n 0, []), (80, .getfield 42, [0, 2022, 4, 10]), (83, .iload 4, []), (85, .iload 6, []), (87, .iastore, []), (88, .aload_n 0, []), (89, .dup, []), (90, .getfield 93, [0, 2020, 4, 8]), (93, .iload 5, []), (95, .iadd, []), (96, .putfield 93, [0, 2020, 4, 8, 0]), (99, .iload 6, []), (101, .ireturn, [])]
def ev_b42 : List ev_I := ev_b42_0 ++ (ev_b42_1)
/-- PathProver$Lexer.skipBlanks()V -/
def ev_b43_0 : List ev_I := [(0, .iconst 0, []), (1, .istore_n 1, []), (2, .aload_n 0, []), (3, .getfield 52, [0, 2013, 4, 2]), (6, .aload_n 0, []), (7, .getfield 49, [0, 2012, 4, 1]), (10, .if_icmp .ge 110, [120]), (13, .aload_n 0, []), (14, .getfield 46, [0, 2011, 4, 0]), (17, .aload_n 0, []), (18, .getfield 52, [0, 2013, 4, 2]), (21, .baload, []), (22, .istore_n 2, []), (23, .iload_n 1, []), (24, .ifCond .eq 18, [42]), (27, .iload_n 2, []), (28, .bipush 10, []), (30, .if_icmp .eq 7, [37]), (33, .iconst 1, []), (34, .goto 4, [38]), (37, .iconst 0, []), (38, .istore_n 1, []), (39, .goto 68, [107]), (42, .iload_n 2, []), (43, .bipush 45, []), (45, .if_icmp .ne 37, [82]), (48, .aload_n 0, []), (49, .getfield 52, [0, 2013, 4, 2]), (52, .iconst 1, []), (53, .iadd, []), (54, .aload_n 0, []), (55, .getfield 49, [0, 2012, 4, 1]), (58, .if_icmp .ge 24, [82]), (61, .aload_n 0, []), (62, .getfield 46, [0, 2011, 4, 0]), (65, .aload_n 0, []), (66, .getfield 52, [0, 2013, 4, 2]), (69, .iconst 1, []), (70, .iadd, []), (71, .baload, [])]
def ev_b43_1 : List ev_I := [(72, .bipush 45, []), (74, .if_icmp .ne 8, [82]), (77, .iconst 1, []), (78, .istore_n 1, []), (79, .goto 28, [107]), (82, .iload_n 2, []), (83, .bipush 9, []), (85, .if_icmp .eq 22, [107]), (88, .iload_n 2, []), (89, .bipush 10, []), (91, .if_icmp .eq 16, [107]), (94, .iload_n 2, []), (95, .bipush 13, []), (97, .if_icmp .eq 10, [107]), (100, .iload_n 2, []), (101, .bipush 32, []), (103, .if_icmp .eq 4, [107]), (106, .return_, []), (107, .aload_n 0, []), (108, .dup, []), (109, .getfield 52, [0, 2013, 4, 2]), (112, .iconst 1, []), (113, .iadd, []), (114, .putfield 52, [0, 2013, 4, 2, 0]), (117, .goto (-115), [2]), (120, .return_, [])]
def ev_b43 : List ev_I := ev_b43_0 ++ (ev_b43_1)
/-- PathProver$Parser.advance()V -/
def ev_b44 : List ev_I := [(0, .aload_n 0, []), (1, .aload_n 0, []), (2, .getfield 41, [0, 2054, 7, 3]), (5, .iconst 1, []), (6, .iadd, []), (7, .aload_n 0, []), (8, .getfield 12, [0, 2051, 7, 0]), (11, .getfield 83, [1, 2017, 4, 5]), (14, .getfield 96, [1, 1068, 10, 2]), (17, .iconst 1, []), (18, .isub, []), (19, .invokestatic 110, [45, 2, 5208, 2160, 1015]), (22, .putfield 41, [0, 2054, 7, 3, 0]), (25, .aload_n 0, []), (26, .aload_n 0, []), (27, .getfield 12, [0, 2051, 7, 0]), (30, .getfield 83, [1, 2017, 4, 5]), (33, .aload_n 0, []), (34, .getfield 41, [0, 2054, 7, 3]), (37, .iconst 0, []), (38, .invokevirtual 86, [46, 2, 10, 5209, 5111, 5112, 1003]), (41, .putfield 56, [0, 2055, 7, 4, 0]), (44, .aload_n 0, []), (45, .aload_n 0, []), (46, .getfield 12, [0, 2051, 7, 0]), (49, .getfield 83, [1, 2017, 4, 5]), (52, .aload_n 0, []), (53, .getfield 41, [0, 2054, 7, 3]), (56, .iconst 1, []), (57, .invokevirtual 86, [46, 2, 10, 5209, 5111, 5112, 1003]), (60, .putfield 115, [0, 2056, 7, 5, 0]), (63, .return_, [])]
/-- java/lang/Math.min(II)I -/
def ev_b45 : List ev_I := [(0, .iload_n 0, []), (1, .iload_n 1, []), (2, .if_icmp .gt 7, [9]), (5, .iload_n 0, []), (6, .goto 4, [10]), (9, .iload_n 1, []), (10, .ireturn, [])]
/-- PathProver$Rows.get(II)I -/
def ev_b46 : List ev_I := [(0, .iload_n 1, []), (1, .ifCond .lt 19, [20]), (4, .iload_n 1, []), (5, .aload_n 0, []), (6, .getfield 17, [0, 1063, 10, 2]), (9, .if_icmp .ge 11, [20]), (12, .iload_n 2, []), (13, .aload_n 0, []), (14, .getfield 7, [0, 1061, 10, 0]), (17, .if_icmp .lt 7, [24]), (20, .iconst 0, []), (21, .goto 16, [37]), (24, .aload_n 0, []), (25, .getfield 13, [0, 1062, 10, 1]), (28, .iload_n 1, []), (29, .aload_n 0, []), (30, .getfield 7, [0, 1061, 10, 0]), (33, .imul, []), (34, .iload_n 2, []), (35, .iadd, []), (36, .iaload, []), (37, .ireturn, [])]
/-- PathProver$Parser.module()Z -/
def ev_b47 : List ev_I := [(0, .aload_n 0, []), (1, .iconst 0, []), (2, .invokevirtual 118, [48, 1, 7, 5215, 5217, 12, 1004]), (5, .ifCond .ne 5, [10]), (8, .iconst 0, []), (9, .ireturn, []), (10, .aload_n 0, []), (11, .getfield 27, [0, 2053, 7, 2]), (14, .aload_n 0, []), (15, .getfield 115, [0, 2056, 7, 5]), (21, .aload_n 0, []), (22, .iconst 1, []), (23, .putfield 48, [0, 2057, 7, 6, 0]), (26, .aload_n 0, []), (27, .bipush 112, []), (29, .invokevirtual 118, [48, 1, 7, 5215, 5217, 12, 1004]), (32, .ifCond .eq 23, [55]), (35, .aload_n 0, []), (36, .getfield 56, [0, 2055, 7, 4]), (39, .bipush 64, []), (41, .if_icmp .ne 10, [51]), (44, .aload_n 0, []), (48, .ifCond .eq 7, [55]), (51, .iconst 1, []), (52, .goto 4, [56]), (55, .iconst 0, []), (56, .ireturn, [])]
/-- PathProver$Parser.take(I)Z -/
def ev_b48 : List ev_I := [(0, .aload_n 0, []), (1, .getfield 56, [0, 2055, 7, 4]), (4, .iload_n 1, []), (5, .if_icmp .eq 5, [10]), (8, .iconst 0, []), (9, .ireturn, []), (10, .aload_n 0, []), (11, .invokevirtual 45, [44, 0, 7, 5204, 5206, 10, 1004]), (14, .iconst 1, []), (15, .ireturn, [])]
/-- PathProverModel.read()I -/
def ev_b49_0 : List ev_I := [(0, .aload_n 0, []), (1, .iconst 0, []), (2, .putfield 226, [0, 13026, 1, 0, 0]), (5, .aload_n 0, []), (6, .iconst (-1), []), (7, .putfield 14, [0, 13029, 1, 3, 0]), (10, .aload_n 0, []), (11, .getfield 495, [0, 13043, 1, 18]), (14, .astore_n 1, []), (15, .aload_n 0, []), (16, .invokevirtual 750, [50, 0, 1, 13207, 13209, 184, 1021]), (19, .aload_n 0, []), (20, .new 500, [15013, 15014, 1036, 16]), (23, .dup, []), (27, .putfield 495, [0, 13043, 1, 18, 2]), (30, .aload_n 0, []), (34, .aload_n 0, []), (35, .aload_n 0, []), (36, .ldc_w 490, [15119, 113, 78]), (42, .aconst_null, []), (43, .aconst_null, []), (47, .astore_n 2, []), (48, .aload_n 0, []), (52, .aload_n 0, []), (56, .aload_n 0, []), (60, .aload_n 0, []), (64, .aload_n 0, []), (65, .getfield 495, [0, 13043, 1, 18]), (68, .aload_n 0, []), (69, .getfield 146, [0, 13041, 1, 16]), (72, .putfield 769, [2, 15047, 16, 16, 2]), (75, .aload_n 0, []), (76, .getfield 495, [0, 13043, 1, 18]), (79, .aload_n 0, []), (80, .getfield 395, [0, 13042, 1, 17]), (83, .putfield 770, [2, 15048, 16, 17, 0]), (86, .goto 35, [121]), (89, .astore_n 2, []), (90, .aload_n 0, []), (91, .aload_n 0, [])]
def ev_b49_1 : List ev_I := [(92, .getfield 238, [0, 13034, 1, 8]), (95, .putfield 14, [0, 13029, 1, 3, 0]), (98, .aload_n 0, []), (99, .iconst 1, []), (100, .putfield 226, [0, 13026, 1, 0, 0]), (103, .goto 18, [121]), (106, .astore_n 2, []), (107, .aload_n 0, []), (108, .iconst 2, []), (109, .putfield 226, [0, 13026, 1, 0, 0]), (112, .goto 9, [121]), (115, .astore_n 2, []), (116, .aload_n 0, []), (117, .iconst 3, []), (118, .putfield 226, [0, 13026, 1, 0, 0]), (121, .aload_n 0, []), (122, .iconst 0, []), (123, .putfield 229, [0, 13028, 1, 2, 0]), (126, .aload_n 0, []), (127, .getfield 226, [0, 13026, 1, 0]), (130, .ifCond .le 47, [177]), (133, .aload_n 0, []), (134, .aload_n 1, []), (135, .putfield 495, [0, 13043, 1, 18, 2]), (138, .aload_n 0, []), (139, .getfield 495, [0, 13043, 1, 18]), (142, .ifnull 28, [170]), (145, .aload_n 0, []), (146, .aload_n 0, []), (147, .getfield 495, [0, 13043, 1, 18]), (150, .getfield 769, [2, 15047, 16, 16]), (153, .putfield 146, [0, 13041, 1, 16, 2]), (156, .aload_n 0, []), (157, .aload_n 0, []), (158, .getfield 495, [0, 13043, 1, 18]), (161, .getfield 770, [2, 15048, 16, 17]), (164, .putfield 395, [0, 13042, 1, 17, 0]), (167, .goto 8, [175]), (170, .aload_n 0, []), (171, .iconst 0, [])]
def ev_b49_2 : List ev_I := [(172, .putfield 395, [0, 13042, 1, 17, 0]), (175, .iconst 0, []), (176, .ireturn, []), (177, .aload_n 0, []), (181, .aload_n 0, []), (182, .iconst (-1), []), (183, .putfield 187, [0, 13060, 1, 36, 0]), (186, .aload_n 0, []), (187, .iconst 0, []), (188, .putfield 774, [0, 13062, 1, 38, 0]), (191, .aload_n 0, []), (192, .iconst (-1), []), (193, .putfield 193, [0, 13063, 1, 39, 0]), (196, .aload_n 0, []), (197, .getfield 495, [0, 13043, 1, 18]), (200, .getfield 563, [2, 15041, 16, 12]), (203, .ireturn, [])]
def ev_b49 : List ev_I := ev_b49_0 ++ (ev_b49_1 ++ (ev_b49_2))
/-- PathProverModel.parse()V -/
def ev_b50_0 : List ev_I := [(0, .aload_n 0, []), (1, .iconst 0, []), (2, .putfield 443, [0, 13040, 1, 15, 0]), (5, .aload_n 0, []), (6, .bipush 16, []), (8, .anewarray 18, [12193, 3, 12194]), (11, .putfield 146, [0, 13041, 1, 16, 2]), (14, .aload_n 0, []), (15, .iconst 0, []), (16, .putfield 395, [0, 13042, 1, 17, 0]), (19, .aload_n 0, []), (20, .iconst 0, []), (21, .putfield 308, [0, 13037, 1, 12, 0]), (24, .aload_n 0, []), (25, .iconst 0, []), (26, .putfield 232, [0, 13032, 1, 6, 0]), (29, .aload_n 0, []), (30, .invokevirtual 302, [51, 0, 1, 13211, 13213, 185, 1021]), (33, .aload_n 0, []), (34, .getfield 443, [0, 13040, 1, 15]), (37, .aload_n 0, []), (38, .getfield 142, [0, 13039, 1, 14]), (41, .arraylength, []), (42, .if_icmp .ne 43, [85]), (45, .iconst 2, []), (46, .aload_n 0, []), (47, .getfield 443, [0, 13040, 1, 15]), (50, .imul, []), (51, .anewarray 140, [13010, 6, 13011]), (54, .astore_n 1, []), (55, .iconst 0, []), (56, .istore_n 2, []), (57, .iload_n 2, []), (58, .aload_n 0, []), (59, .getfield 443, [0, 13040, 1, 15]), (62, .if_icmp .ge 18, [80]), (65, .aload_n 1, []), (66, .iload_n 2, []), (67, .aload_n 0, []), (68, .getfield 142, [0, 13039, 1, 14])]
def ev_b50_1 : List ev_I := [(71, .iload_n 2, []), (72, .aaload, []), (73, .aastore, []), (74, .iinc 2 1, []), (77, .goto (-20), [57]), (80, .aload_n 0, []), (81, .aload_n 1, []), (82, .putfield 142, [0, 13039, 1, 14, 2]), (85, .aload_n 0, []), (86, .getfield 142, [0, 13039, 1, 14]), (89, .aload_n 0, []), (90, .dup, []), (91, .getfield 443, [0, 13040, 1, 15]), (94, .dup_x1, []), (95, .iconst 1, []), (96, .iadd, []), (97, .putfield 443, [0, 13040, 1, 15, 0]), (100, .aload_n 0, []), (101, .invokevirtual 446, [53, 0, 1, 14007, 14009, 189, 1021]), (104, .aastore, []), (105, .aload_n 0, []), (106, .getfield 241, [0, 13033, 1, 7]), (109, .ifCond .ne (-76), [33]), (112, .return_, [])]
def ev_b50 : List ev_I := ev_b50_0 ++ (ev_b50_1)
/-- PathProverModel.advance()V -/
def ev_b51_0 : List ev_I := [(0, .aload_n 0, []), (1, .invokevirtual 235, [52, 0, 1, 13215, 13217, 186, 1021]), (4, .aload_n 0, []), (5, .aload_n 0, []), (6, .getfield 232, [0, 13032, 1, 6]), (9, .putfield 238, [0, 13034, 1, 8, 0]), (12, .aload_n 0, []), (13, .getfield 232, [0, 13032, 1, 6]), (16, .aload_n 0, []), (17, .getfield 229, [0, 13028, 1, 2]), (20, .if_icmp .ne 9, [29]), (23, .aload_n 0, []), (24, .iconst 0, []), (25, .putfield 241, [0, 13033, 1, 7, 0]), (28, .return_, []), (29, .aload_n 0, []), (30, .aload_n 0, []), (31, .getfield 232, [0, 13032, 1, 6]), (37, .ifCond .eq 91, [128]), (40, .aload_n 0, []), (41, .aload_n 0, []), (42, .getfield 232, [0, 13032, 1, 6]), (48, .ifCond .ne 14, [62]), (51, .aload_n 0, []), (52, .aload_n 0, []), (53, .getfield 232, [0, 13032, 1, 6]), (59, .ifCond .eq 16, [75]), (62, .aload_n 0, []), (63, .dup, []), (64, .getfield 232, [0, 13032, 1, 6]), (67, .iconst 1, []), (68, .iadd, []), (69, .putfield 232, [0, 13032, 1, 6, 0]), (72, .goto (-32), [40]), (75, .aload_n 0, []), (76, .iconst 2, []), (77, .putfield 241, [0, 13033, 1, 7, 0]), (83, .dup, []), (87, .astore_n 1, []), (88, .aload_n 0, [])]
def ev_b51_1 : List ev_I := [(89, .getfield 238, [0, 13034, 1, 8]), (92, .istore_n 2, []), (93, .iload_n 2, []), (94, .aload_n 0, []), (95, .getfield 232, [0, 13032, 1, 6]), (98, .if_icmp .ge 21, [119]), (101, .aload_n 1, []), (102, .aload_n 0, []), (103, .getfield 8, [0, 13027, 1, 1]), (106, .iload_n 2, []), (107, .baload, []), (108, .i2c, []), (112, .pop, []), (113, .iinc 2 1, []), (116, .goto (-23), [93]), (119, .aload_n 0, []), (120, .aload_n 1, []), (124, .putfield 262, [0, 13036, 1, 11, 2]), (127, .return_, []), (128, .aload_n 0, []), (129, .aload_n 0, []), (130, .getfield 232, [0, 13032, 1, 6]), (136, .ifCond .eq 82, [218]), (139, .aload_n 0, []), (140, .iconst 0, []), (141, .putfield 266, [0, 13035, 1, 10, 0]), (144, .aload_n 0, []), (145, .aload_n 0, []), (146, .getfield 232, [0, 13032, 1, 6]), (152, .ifCond .eq 46, [198]), (155, .aload_n 0, []), (156, .ldc_w 269, [14003, 40000]), (159, .bipush 10, []), (161, .aload_n 0, []), (162, .getfield 266, [0, 13035, 1, 10]), (165, .imul, []), (166, .aload_n 0, []), (167, .getfield 8, [0, 13027, 1, 1]), (170, .aload_n 0, []), (171, .getfield 232, [0, 13032, 1, 6])]
def ev_b51_2 : List ev_I := [(174, .baload, []), (175, .iadd, []), (176, .bipush 48, []), (178, .isub, []), (179, .invokestatic 270, [45, 2, 14004, 2160, 1015]), (182, .putfield 266, [0, 13035, 1, 10, 0]), (185, .aload_n 0, []), (186, .dup, []), (187, .getfield 232, [0, 13032, 1, 6]), (190, .iconst 1, []), (191, .iadd, []), (192, .putfield 232, [0, 13032, 1, 6, 0]), (195, .goto (-51), [144]), (198, .aload_n 0, []), (199, .aload_n 0, []), (200, .getfield 266, [0, 13035, 1, 10]), (203, .sipush 32767, []), (206, .if_icmp .le 7, [213]), (209, .iconst 1, []), (210, .goto 4, [214]), (213, .iconst 3, []), (214, .putfield 241, [0, 13033, 1, 7, 0]), (217, .return_, []), (218, .aload_n 0, []), (219, .iconst 1, []), (220, .putfield 241, [0, 13033, 1, 7, 0]), (223, .iconst 0, []), (224, .istore_n 1, []), (225, .iload_n 1, []), (226, .aload_n 0, []), (227, .getfield 74, [0, 13030, 1, 4]), (230, .arraylength, []), (231, .if_icmp .ge 132, [363]), (234, .aload_n 0, []), (235, .getfield 241, [0, 13033, 1, 7]), (238, .iconst 1, []), (239, .if_icmp .ne 124, [363]), (242, .aload_n 0, []), (243, .getfield 232, [0, 13032, 1, 6]), (246, .aload_n 0, [])]
def ev_b51_3 : List ev_I := [(247, .getfield 74, [0, 13030, 1, 4]), (250, .iload_n 1, []), (251, .aaload, []), (252, .invokevirtual 276, [6, 0, 999, 14005, 1204, 1205, 1006]), (255, .iadd, []), (256, .aload_n 0, []), (257, .getfield 229, [0, 13028, 1, 2]), (260, .if_icmp .gt 7, [267]), (263, .iconst 1, []), (264, .goto 4, [268]), (267, .iconst 0, []), (268, .istore_n 2, []), (269, .iconst 0, []), (270, .istore_n 3, []), (271, .iload_n 3, []), (272, .aload_n 0, []), (273, .getfield 74, [0, 13030, 1, 4]), (276, .iload_n 1, []), (277, .aaload, []), (278, .invokevirtual 276, [6, 0, 999, 14005, 1204, 1205, 1006]), (281, .if_icmp .ge 43, [324]), (284, .iload_n 2, []), (285, .ifCond .eq 39, [324]), (288, .aload_n 0, []), (289, .getfield 8, [0, 13027, 1, 1]), (292, .aload_n 0, []), (293, .getfield 232, [0, 13032, 1, 6]), (296, .iload_n 3, []), (297, .iadd, []), (298, .baload, []), (299, .aload_n 0, []), (300, .getfield 74, [0, 13030, 1, 4]), (303, .iload_n 1, []), (304, .aaload, []), (305, .iload_n 3, []), (306, .invokevirtual 280, [8, 1, 999, 14006, 1214, 1215, 1006]), (309, .if_icmp .ne 7, [316]), (312, .iconst 1, []), (313, .goto 4, [317]), (316, .iconst 0, [])]
def ev_b51_4 : List ev_I := [(317, .istore_n 2, []), (318, .iinc 3 1, []), (321, .goto (-50), [271]), (324, .iload_n 2, []), (325, .ifCond .ne 6, [331]), (328, .goto 29, [357]), (331, .aload_n 0, []), (332, .bipush 10, []), (334, .iload_n 1, []), (335, .iadd, []), (336, .putfield 241, [0, 13033, 1, 7, 0]), (339, .aload_n 0, []), (340, .dup, []), (341, .getfield 232, [0, 13032, 1, 6]), (344, .aload_n 0, []), (345, .getfield 74, [0, 13030, 1, 4]), (348, .iload_n 1, []), (349, .aaload, []), (350, .invokevirtual 276, [6, 0, 999, 14005, 1204, 1205, 1006]), (353, .iadd, []), (354, .putfield 232, [0, 13032, 1, 6, 0]), (357, .iinc 1 1, []), (360, .goto (-135), [225]), (363, .return_, [])]
def ev_b51 : List ev_I := ev_b51_0 ++ (ev_b51_1 ++ (ev_b51_2 ++ (ev_b51_3 ++ (ev_b51_4))))
/-- PathProverModel.skip()V -/
def ev_b52_0 : List ev_I := [(0, .aload_n 0, []), (1, .getfield 232, [0, 13032, 1, 6]), (4, .aload_n 0, []), (5, .getfield 229, [0, 13028, 1, 2]), (8, .if_icmp .ge 127, [135]), (11, .aload_n 0, []), (12, .getfield 8, [0, 13027, 1, 1]), (15, .aload_n 0, []), (16, .getfield 232, [0, 13032, 1, 6]), (19, .baload, []), (20, .istore_n 1, []), (21, .iload_n 1, []), (22, .bipush 9, []), (24, .if_icmp .eq 21, [45]), (27, .iload_n 1, []), (28, .bipush 10, []), (30, .if_icmp .eq 15, [45]), (33, .iload_n 1, []), (34, .bipush 13, []), (36, .if_icmp .eq 9, [45]), (39, .iload_n 1, []), (40, .bipush 32, []), (42, .if_icmp .ne 16, [58]), (45, .aload_n 0, []), (46, .dup, []), (47, .getfield 232, [0, 13032, 1, 6]), (50, .iconst 1, []), (51, .iadd, []), (52, .putfield 232, [0, 13032, 1, 6, 0]), (55, .goto 77, [132]), (58, .iload_n 1, []), (59, .bipush 45, []), (61, .if_icmp .ne 70, [131]), (64, .aload_n 0, []), (65, .getfield 232, [0, 13032, 1, 6]), (68, .iconst 1, []), (69, .iadd, []), (70, .aload_n 0, []), (71, .getfield 229, [0, 13028, 1, 2]), (74, .if_icmp .ge 57, [131])]
def ev_b52_1 : List ev_I := [(77, .aload_n 0, []), (78, .getfield 8, [0, 13027, 1, 1]), (81, .aload_n 0, []), (82, .getfield 232, [0, 13032, 1, 6]), (85, .iconst 1, []), (86, .iadd, []), (87, .baload, []), (88, .bipush 45, []), (90, .if_icmp .ne 41, [131]), (93, .aload_n 0, []), (94, .getfield 232, [0, 13032, 1, 6]), (97, .aload_n 0, []), (98, .getfield 229, [0, 13028, 1, 2]), (101, .if_icmp .ge 31, [132]), (104, .aload_n 0, []), (105, .getfield 8, [0, 13027, 1, 1]), (108, .aload_n 0, []), (109, .getfield 232, [0, 13032, 1, 6]), (112, .baload, []), (113, .bipush 10, []), (115, .if_icmp .eq 17, [132]), (118, .aload_n 0, []), (119, .dup, []), (120, .getfield 232, [0, 13032, 1, 6]), (123, .iconst 1, []), (124, .iadd, []), (125, .putfield 232, [0, 13032, 1, 6, 0]), (128, .goto (-35), [93]), (131, .return_, []), (132, .goto (-132), [0]), (135, .return_, [])]
def ev_b52 : List ev_I := ev_b52_0 ++ (ev_b52_1)
/-- PathProverModel.module()LPathProverModel$Module; -/
def ev_b53_0 : List ev_I := [(0, .aload_n 0, []), (1, .ldc 78, [12222, 28, 28]), (3, .invokevirtual 341, [54, 1, 1, 14011, 14013, 190, 1021]), (6, .new 140, [13010, 14032, 1034, 17]), (9, .dup, []), (10, .aload_n 0, []), (17, .astore_n 1, []), (18, .aload_n 0, []), (19, .ldc 34, [12202, 8, 8]), (21, .invokevirtual 294, [55, 1, 1, 14015, 14017, 191, 1021]), (24, .ifCond .eq 69, [93]), (27, .aload_n 0, []), (28, .invokevirtual 302, [51, 0, 1, 13211, 13213, 185, 1021]), (31, .aload_n 1, []), (32, .getfield 426, [2, 14131, 17, 1]), (35, .aload_n 0, []), (36, .ldc_w 429, [14142, 99, 68]), (39, .aload_n 0, []), (43, .aconst_null, []), (50, .astore_n 2, []), (51, .aload_n 0, []), (52, .ldc 46, [12208, 14, 14]), (54, .invokevirtual 294, [55, 1, 1, 14015, 14017, 191, 1021]), (57, .ifCond .eq 30, [87]), (60, .aload_n 0, []), (61, .invokevirtual 302, [51, 0, 1, 13211, 13213, 185, 1021]), (64, .aload_n 1, []), (65, .getfield 426, [2, 14131, 17, 1]), (68, .aload_n 0, []), (69, .ldc_w 429, [14142, 99, 68]), (72, .aload_n 0, []), (76, .aconst_null, []), (83, .astore_n 2, []), (84, .goto (-33), [51]), (87, .aload_n 0, []), (88, .ldc 36, [12203, 9, 9]), (90, .invokevirtual 341, [54, 1, 1, 14011, 14013, 190, 1021]), (93, .aload_n 0, []), (94, .getfield 241, [0, 13033, 1, 7]), (97, .ifCond .eq 184, [281])]
def ev_b53_1 : List ev_I := [(100, .aload_n 0, []), (101, .ldc 78, [12222, 28, 28]), (103, .invokevirtual 294, [55, 1, 1, 14015, 14017, 191, 1021]), (106, .ifCond .ne 175, [281]), (109, .aload_n 0, []), (110, .aload_n 0, []), (111, .ldc 80, [12223, 29, 29]), (113, .invokevirtual 294, [55, 1, 1, 14015, 14017, 191, 1021]), (116, .ifCond .ne 66, [182]), (119, .aload_n 0, []), (120, .ldc 82, [12224, 30, 30]), (122, .invokevirtual 294, [55, 1, 1, 14015, 14017, 191, 1021]), (125, .ifCond .ne 57, [182]), (128, .aload_n 0, []), (129, .ldc 84, [12225, 31, 31]), (131, .invokevirtual 294, [55, 1, 1, 14015, 14017, 191, 1021]), (134, .ifCond .ne 48, [182]), (137, .aload_n 0, []), (138, .ldc 90, [12228, 34, 34]), (140, .invokevirtual 294, [55, 1, 1, 14015, 14017, 191, 1021]), (143, .ifCond .ne 39, [182]), (146, .aload_n 0, []), (147, .ldc 92, [12229, 35, 35]), (149, .invokevirtual 294, [55, 1, 1, 14015, 14017, 191, 1021]), (152, .ifCond .ne 30, [182]), (155, .aload_n 0, []), (156, .ldc 94, [12230, 36, 36]), (158, .invokevirtual 294, [55, 1, 1, 14015, 14017, 191, 1021]), (161, .ifCond .ne 21, [182]), (164, .aload_n 0, []), (165, .ldc 96, [12231, 37, 37]), (167, .invokevirtual 294, [55, 1, 1, 14015, 14017, 191, 1021]), (170, .ifCond .ne 12, [182]), (173, .aload_n 0, []), (174, .ldc 98, [12232, 38, 38]), (176, .invokevirtual 294, [55, 1, 1, 14015, 14017, 191, 1021]), (179, .ifCond .eq 7, [186]), (182, .iconst 1, []), (183, .goto 4, [187]), (186, .iconst 0, [])]
def ev_b53_2 : List ev_I := [(187, .invokevirtual 298, [56, 1, 1, 14027, 14029, 192, 1021]), (190, .istore_n 2, []), (191, .aload_n 0, []), (192, .getfield 262, [0, 13036, 1, 11]), (195, .astore_n 3, []), (196, .aload_n 0, []), (197, .invokevirtual 302, [51, 0, 1, 13211, 13213, 185, 1021]), (200, .aload_n 3, []), (201, .ldc 80, [12223, 29, 29]), (203, .invokevirtual 284, [113, 1, 999, 14019, 14020, 14021, 1006]), (206, .ifCond .eq 11, [217]), (209, .aload_n 0, []), (210, .aload_n 1, []), (214, .goto 64, [278]), (217, .aload_n 3, []), (218, .ldc 82, [12224, 30, 30]), (220, .invokevirtual 284, [113, 1, 999, 14019, 14020, 14021, 1006]), (223, .ifCond .eq 11, [234]), (226, .aload_n 0, []), (227, .aload_n 1, []), (231, .goto 47, [278]), (234, .aload_n 3, []), (235, .ldc 84, [12225, 31, 31]), (237, .invokevirtual 284, [113, 1, 999, 14019, 14020, 14021, 1006]), (240, .ifCond .eq 11, [251]), (243, .aload_n 0, []), (244, .aload_n 1, []), (248, .goto 30, [278]), (251, .aload_n 1, []), (252, .getfield 416, [2, 14134, 17, 2]), (255, .aload_n 0, []), (256, .aload_n 3, []), (260, .aload_n 0, []), (270, .astore 4, []), (272, .aload_n 0, []), (273, .ldc 48, [12209, 15, 15]), (275, .invokevirtual 341, [54, 1, 1, 14011, 14013, 190, 1021]), (278, .goto (-185), [93]), (281, .aload_n 1, []), (282, .areturn, [])]
def ev_b53 : List ev_I := ev_b53_0 ++ (ev_b53_1 ++ (ev_b53_2))
/-- PathProverModel.expect(Ljava/lang/String;)V -/
def ev_b54 : List ev_I := [(0, .aload_n 0, []), (1, .aload_n 0, []), (2, .aload_n 1, []), (3, .invokevirtual 294, [55, 1, 1, 14015, 14017, 191, 1021]), (6, .invokevirtual 298, [56, 1, 1, 14027, 14029, 192, 1021]), (9, .istore_n 2, []), (10, .aload_n 0, []), (11, .invokevirtual 302, [51, 0, 1, 13211, 13213, 185, 1021]), (14, .return_, [])]
/-- PathProverModel.is(Ljava/lang/String;)Z -/
def ev_b55 : List ev_I := [(0, .aload_n 0, []), (1, .getfield 241, [0, 13033, 1, 7]), (4, .iconst 2, []), (5, .if_icmp .ne 12, [17]), (8, .aload_n 0, []), (9, .getfield 262, [0, 13036, 1, 11]), (12, .aload_n 1, []), (13, .invokevirtual 284, [113, 1, 999, 14019, 14020, 14021, 1006]), (16, .ireturn, []), (17, .aload_n 0, []), (18, .getfield 241, [0, 13033, 1, 7]), (21, .bipush 10, []), (23, .if_icmp .lt 26, [49]), (26, .aload_n 0, []), (27, .getfield 74, [0, 13030, 1, 4]), (30, .aload_n 0, []), (31, .getfield 241, [0, 13033, 1, 7]), (34, .bipush 10, []), (36, .isub, []), (37, .aaload, []), (38, .aload_n 1, []), (39, .invokevirtual 284, [113, 1, 999, 14019, 14020, 14021, 1006]), (42, .ifCond .eq 7, [49]), (45, .iconst 1, []), (46, .goto 4, [50]), (49, .iconst 0, []), (50, .ireturn, [])]
/-- PathProverModel.can(Z)Z -/
def ev_b56 : List ev_I := [(0, .iload_n 1, []), (1, .ifCond .ne 11, [12]), (4, .new 291, [13204, 5055, 1027, 0, 0]), (7, .dup, []), (8, .invokespecial 293, [14031, 0]), (11, .athrow, []), (12, .iconst 1, []), (13, .ireturn, [])]
/-- PathProver.place()I -/
def ev_b57 : List ev_I := [(0, .aload_n 0, []), (1, .getfield 13, [0, 4153, 0, 2]), (4, .ireturn, [])]
/-- PathProverModel.place()I -/
def ev_b58 : List ev_I := [(0, .aload_n 0, []), (1, .iconst 0, []), (2, .putfield 226, [0, 13026, 1, 0, 0]), (5, .aload_n 0, []), (6, .getfield 14, [0, 13029, 1, 3]), (9, .ireturn, [])]
/-- PathProverLaw.check(LPathProver;I[J)I -/
def ev_b59 : List ev_I := [(0, .aload_n 2, []), (1, .iconst 0, []), (2, .aload_n 0, []), (3, .iload_n 1, []), (4, .invokevirtual 27, [60, 1, 0, 7143, 7144, 7145, 1001]), (7, .ifCond .eq 7, [14]), (10, .lconst 1, []), (11, .goto 4, [15]), (14, .lconst 0, []), (15, .lastore, []), (16, .goto 9, [25]), (19, .astore_n 3, []), (20, .iconst 1, []), (21, .ireturn, []), (22, .astore_n 3, []), (23, .iconst 2, []), (24, .ireturn, []), (25, .iconst 0, []), (26, .ireturn, [])]
/-- PathProver.check(I)Z -/
def ev_b60 : List ev_I := [(0, .aload_n 0, []), (1, .iload_n 1, []), (2, .aload_n 0, []), (3, .getfield 20, [0, 4155, 0, 4]), (6, .getfield 128, [1, 1145, 6, 17]), (9, .getfield 132, [1, 1071, 10, 2]), (12, .invokevirtual 137, [61, 2, 0, 7147, 7149, 78, 1001]), (15, .aload_n 0, []), (16, .invokevirtual 141, [64, 0, 0, 7151, 7153, 79, 1001]), (19, .aload_n 0, []), (23, .aload_n 0, []), (27, .aload_n 0, []), (28, .getfield 71, [0, 4162, 0, 11]), (31, .iload_n 1, []), (35, .aload_n 0, []), (39, .aload_n 0, []), (40, .getfield 71, [0, 4162, 0, 11]), (43, .iload_n 1, []), (47, .ireturn, [])]
/-- PathProver.needNumber(II)V -/
def ev_b61 : List ev_I := [(0, .iload_n 1, []), (1, .ifCond .lt 15, [16]), (4, .aload_n 0, []), (5, .getfield 115, [0, 4154, 0, 3]), (8, .ifCond .eq 16, [24]), (11, .iload_n 1, []), (12, .iload_n 2, []), (13, .if_icmp .lt 11, [24]), (16, .new 101, [5054, 5055, 1027, 0, 0]), (19, .dup, []), (20, .invokespecial 103, [5063, 0]), (23, .athrow, []), (24, .return_, [])]
/-- PathProverModel.check(I)Z -/
def ev_b62_0 : List ev_I := [(0, .aload_n 0, []), (1, .iconst 0, []), (2, .putfield 226, [0, 13026, 1, 0, 0]), (5, .aload_n 0, []), (6, .iload_n 1, []), (7, .invokevirtual 823, [63, 1, 1, 16144, 16146, 273, 1021]), (10, .ifCond .eq 17, [27]), (13, .aload_n 0, []), (14, .iconst 1, []), (15, .invokevirtual 820, [32, 1, 1, 16128, 16130, 272, 1021]), (18, .ifCond .le 7, [25]), (21, .iconst 1, []), (22, .goto 4, [26]), (25, .iconst 0, []), (26, .ireturn, []), (27, .aload_n 0, []), (28, .getfield 495, [0, 13043, 1, 18]), (31, .ifnonnull 17, [48]), (34, .aload_n 0, []), (35, .iconst 2, []), (36, .invokevirtual 820, [32, 1, 1, 16128, 16130, 272, 1021]), (39, .ifCond .le 7, [46]), (42, .iconst 1, []), (43, .goto 4, [47]), (46, .iconst 0, []), (47, .ireturn, []), (48, .aload_n 0, []), (52, .astore_n 2, []), (53, .aload_n 0, []), (54, .iload_n 1, []), (55, .aload_n 2, []), (59, .aload_n 0, []), (60, .dup, []), (61, .getfield 733, [0, 13076, 1, 52]), (64, .iconst 1, []), (65, .isub, []), (66, .putfield 733, [0, 13076, 1, 52, 0]), (69, .iconst 0, []), (70, .istore_n 3, []), (71, .iload_n 3, [])]
def ev_b62_1 : List ev_I := [(72, .aload_n 0, []), (73, .getfield 686, [0, 13053, 1, 28]), (76, .if_icmp .ge 30, [106]), (79, .aload_n 0, []), (80, .getfield 178, [0, 13057, 1, 33]), (83, .iload_n 3, []), (87, .ifCond .eq 13, [100]), (90, .aload_n 2, []), (91, .iload_n 3, []), (95, .ifCond .ne 5, [100]), (98, .iconst 0, []), (99, .ireturn, []), (100, .iinc 3 1, []), (103, .goto (-32), [71]), (106, .iconst 1, []), (107, .ireturn, [])]
def ev_b62 : List ev_I := ev_b62_0 ++ (ev_b62_1)
/-- PathProverModel.noSpec(I)Z -/
def ev_b63 : List ev_I := [(0, .iload_n 1, []), (1, .ifCond .lt 21, [22]), (4, .aload_n 0, []), (5, .getfield 495, [0, 13043, 1, 18]), (8, .ifnull 18, [26]), (11, .iload_n 1, []), (12, .aload_n 0, []), (13, .getfield 495, [0, 13043, 1, 18]), (16, .getfield 563, [2, 15041, 16, 12]), (19, .if_icmp .lt 7, [26]), (22, .iconst 1, []), (23, .goto 4, [27]), (26, .iconst 0, []), (27, .ireturn, [])]
/-- PathProver.needModel()V -/
def ev_b64 : List ev_I := [(0, .aload_n 0, []), (1, .getfield 115, [0, 4154, 0, 3]), (4, .ifCond .ne 11, [15]), (7, .new 338, [7155, 7156, 1038, 0, 1]), (10, .dup, []), (11, .invokespecial 340, [7164, 1]), (14, .athrow, []), (15, .return_, [])]
/-- PathProverLaw.states(LPathProver;II[J)I -/
def ev_b65 : List ev_I := [(0, .aload_n 3, []), (1, .iconst 0, []), (2, .aload_n 0, []), (3, .iload_n 1, []), (4, .iload_n 2, []), (5, .invokevirtual 33, [66, 2, 0, 12040, 12041, 12042, 1001]), (8, .i2l, []), (9, .lastore, []), (10, .goto 11, [21]), (13, .astore 4, []), (15, .iconst 1, []), (16, .ireturn, []), (17, .astore 4, []), (19, .iconst 2, []), (20, .ireturn, []), (21, .iconst 0, []), (22, .ireturn, [])]
/-- PathProver.states(II)I -/
def ev_b66_0 : List ev_I := [(0, .iload_n 1, []), (1, .ifCond .lt 21, [22]), (4, .iload_n 1, []), (5, .iconst 5, []), (6, .if_icmp .gt 16, [22]), (9, .iload_n 2, []), (10, .ifCond .lt 12, [22]), (13, .iload_n 1, []), (14, .iconst 5, []), (15, .if_icmp .eq 15, [30]), (18, .iload_n 2, []), (19, .ifCond .eq 11, [30]), (22, .new 101, [5054, 5055, 1027, 0, 0]), (25, .dup, []), (26, .invokespecial 103, [5063, 0]), (29, .athrow, []), (30, .iload_n 1, []), (31, .iconst 5, []), (32, .if_icmp .ne 18, [50]), (35, .aload_n 0, []), (36, .iload_n 2, []), (37, .aload_n 0, []), (38, .getfield 20, [0, 4155, 0, 4]), (41, .getfield 128, [1, 1145, 6, 17]), (44, .getfield 132, [1, 1071, 10, 2]), (47, .invokevirtual 137, [61, 2, 0, 7147, 7149, 78, 1001]), (50, .aload_n 0, []), (51, .invokevirtual 141, [64, 0, 0, 7151, 7153, 79, 1001]), (54, .aload_n 0, []), (58, .aload_n 0, []), (62, .iload_n 1, []), (63, .iconst 5, []), (64, .if_icmp .ne 15, [79]), (67, .aload_n 0, []), (68, .getfield 71, [0, 4162, 0, 11]), (71, .iload_n 2, []), (75, .aload_n 0, []), (79, .aload_n 0, []), (80, .getfield 71, [0, 4162, 0, 11]), (83, .iload_n 1, [])]
def ev_b66_1 : List ev_I := [(84, .iload_n 2, []), (88, .ireturn, [])]
def ev_b66 : List ev_I := ev_b66_0 ++ (ev_b66_1)
/-- PathProverModel.states(II)I -/
def ev_b67_0 : List ev_I := [(0, .aload_n 0, []), (1, .iconst 0, []), (2, .putfield 226, [0, 13026, 1, 0, 0]), (5, .iload_n 1, []), (6, .ifCond .lt 30, [36]), (9, .iload_n 1, []), (10, .iconst 5, []), (11, .if_icmp .gt 25, [36]), (14, .iload_n 1, []), (15, .iconst 5, []), (16, .if_icmp .ge 7, [23]), (19, .iload_n 2, []), (20, .ifCond .ne 16, [36]), (23, .iload_n 1, []), (24, .iconst 5, []), (25, .if_icmp .ne 17, [42]), (28, .aload_n 0, []), (29, .iload_n 2, []), (30, .invokevirtual 823, [63, 1, 1, 16144, 16146, 273, 1021]), (33, .ifCond .eq 9, [42]), (36, .aload_n 0, []), (37, .iconst 1, []), (38, .invokevirtual 820, [32, 1, 1, 16128, 16130, 272, 1021]), (41, .ireturn, []), (42, .aload_n 0, []), (43, .getfield 495, [0, 13043, 1, 18]), (46, .ifnonnull 9, [55]), (49, .aload_n 0, []), (50, .iconst 2, []), (51, .invokevirtual 820, [32, 1, 1, 16128, 16130, 272, 1021]), (54, .ireturn, []), (55, .aload_n 0, []), (59, .astore_n 3, []), (60, .iload_n 1, []), (61, .iconst 5, []), (62, .if_icmp .ne 9, [71]), (65, .aload_n 0, []), (66, .iload_n 2, []), (67, .aload_n 3, []), (71, .aload_n 0, [])]
def ev_b67_1 : List ev_I := [(72, .dup, []), (73, .getfield 733, [0, 13076, 1, 52]), (76, .iconst 1, []), (77, .isub, []), (78, .putfield 733, [0, 13076, 1, 52, 0]), (81, .iconst 0, []), (82, .istore 4, []), (84, .iconst 0, []), (85, .istore 5, []), (87, .iload 5, []), (89, .aload_n 0, []), (90, .getfield 686, [0, 13053, 1, 28]), (93, .if_icmp .ge 153, [246]), (96, .iload_n 1, []), (97, .ifCond .ne 15, [112]), (100, .aload_n 0, []), (101, .getfield 174, [0, 13056, 1, 32]), (104, .iload 5, []), (109, .goto 114, [223]), (112, .iload_n 1, []), (113, .iconst 1, []), (114, .if_icmp .ne 15, [129]), (117, .aload_n 0, []), (118, .getfield 178, [0, 13057, 1, 33]), (121, .iload 5, []), (126, .goto 97, [223]), (129, .iload_n 1, []), (130, .iconst 2, []), (131, .if_icmp .ne 15, [146]), (134, .aload_n 0, []), (135, .getfield 184, [0, 13059, 1, 35]), (138, .iload 5, []), (143, .goto 80, [223]), (146, .iload_n 1, []), (147, .iconst 3, []), (148, .if_icmp .ne 35, [183]), (151, .aload_n 0, []), (152, .getfield 184, [0, 13059, 1, 35]), (155, .iload 5, []), (160, .ifCond .eq 19, [179])]
def ev_b67_2 : List ev_I := [(163, .aload_n 0, []), (164, .getfield 181, [0, 13058, 1, 34]), (167, .iload 5, []), (172, .ifCond .eq 7, [179]), (175, .iconst 1, []), (176, .goto 47, [223]), (179, .iconst 0, []), (180, .goto 43, [223]), (183, .iload_n 1, []), (184, .iconst 4, []), (185, .if_icmp .ne 32, [217]), (188, .aload_n 0, []), (189, .getfield 184, [0, 13059, 1, 35]), (192, .iload 5, []), (197, .ifCond .eq 16, [213]), (200, .aload_n 0, []), (201, .iload 5, []), (206, .ifCond .ne 7, [213]), (209, .iconst 1, []), (210, .goto 13, [223]), (213, .iconst 0, []), (214, .goto 9, [223]), (217, .aload_n 3, []), (218, .iload 5, []), (223, .istore 6, []), (225, .iload 4, []), (227, .iload 6, []), (229, .ifCond .eq 7, [236]), (232, .iconst 1, []), (233, .goto 4, [237]), (236, .iconst 0, []), (237, .iadd, []), (238, .istore 4, []), (240, .iinc 5 1, []), (243, .goto (-156), [87]), (246, .iload 4, []), (248, .ireturn, [])]
def ev_b67 : List ev_I := ev_b67_0 ++ (ev_b67_1 ++ (ev_b67_2))
/-- PathProverLaw.count(LPathProver;I[J)I -/
def ev_b68 : List ev_I := [(0, .aload_n 2, []), (1, .iconst 0, []), (2, .aload_n 0, []), (3, .iload_n 1, []), (4, .invokevirtual 37, [69, 1, 0, 12059, 12060, 12061, 1001]), (7, .i2l, []), (8, .lastore, []), (9, .goto 9, [18]), (12, .astore_n 3, []), (13, .iconst 1, []), (14, .ireturn, []), (15, .astore_n 3, []), (16, .iconst 2, []), (17, .ireturn, []), (18, .iconst 0, []), (19, .ireturn, [])]
/-- PathProver.count(I)I -/
def ev_b69_0 : List ev_I := [(0, .iload_n 1, []), (1, .ifCond .lt 9, [10]), (4, .iload_n 1, []), (5, .bipush 7, []), (7, .if_icmp .le 11, [18]), (10, .new 101, [5054, 5055, 1027, 0, 0]), (13, .dup, []), (14, .invokespecial 103, [5063, 0]), (17, .athrow, []), (18, .aload_n 0, []), (19, .invokevirtual 141, [64, 0, 0, 7151, 7153, 79, 1001]), (22, .iload_n 1, []), (23, .tableswitch 109 0 6 #[41, 52, 60, 71, 82, 93, 101], [132, 64, 75, 83, 94, 105, 116, 124]), (64, .aload_n 0, []), (65, .getfield 20, [0, 4155, 0, 4]), (68, .getfield 160, [1, 1138, 6, 15]), (71, .getfield 132, [1, 1071, 10, 2]), (74, .ireturn, []), (75, .aload_n 0, []), (76, .getfield 20, [0, 4155, 0, 4]), (82, .ireturn, []), (83, .aload_n 0, []), (84, .getfield 20, [0, 4155, 0, 4]), (87, .getfield 167, [1, 1125, 6, 11]), (90, .getfield 132, [1, 1071, 10, 2]), (93, .ireturn, []), (94, .aload_n 0, []), (95, .getfield 20, [0, 4155, 0, 4]), (98, .getfield 128, [1, 1145, 6, 17]), (101, .getfield 132, [1, 1071, 10, 2]), (104, .ireturn, []), (105, .aload_n 0, []), (106, .getfield 20, [0, 4155, 0, 4]), (109, .getfield 170, [1, 1142, 6, 16]), (112, .getfield 132, [1, 1071, 10, 2]), (115, .ireturn, []), (116, .aload_n 0, []), (117, .getfield 71, [0, 4162, 0, 11]), (120, .getfield 173, [1, 4089, 8, 11]), (123, .ireturn, [])]
def ev_b69_1 : List ev_I := [(124, .aload_n 0, []), (125, .getfield 71, [0, 4162, 0, 11]), (128, .getfield 176, [1, 4091, 8, 12]), (131, .ireturn, []), (132, .aload_n 0, []), (133, .getfield 75, [0, 4164, 0, 13]), (136, .ifCond .lt 7, [143]), (139, .iconst 1, []), (140, .goto 4, [144]), (143, .iconst 0, []), (144, .ireturn, [])]
def ev_b69 : List ev_I := ev_b69_0 ++ (ev_b69_1)
/-- PathProverModel.count(I)I -/
def ev_b70_0 : List ev_I := [(0, .aload_n 0, []), (1, .iconst 0, []), (2, .putfield 226, [0, 13026, 1, 0, 0]), (5, .iload_n 1, []), (6, .ifCond .lt 9, [15]), (9, .iload_n 1, []), (10, .bipush 7, []), (12, .if_icmp .le 9, [21]), (15, .aload_n 0, []), (16, .iconst 1, []), (17, .invokevirtual 820, [32, 1, 1, 16128, 16130, 272, 1021]), (20, .ireturn, []), (21, .aload_n 0, []), (22, .getfield 495, [0, 13043, 1, 18]), (25, .ifnonnull 9, [34]), (28, .aload_n 0, []), (29, .iconst 2, []), (30, .invokevirtual 820, [32, 1, 1, 16128, 16130, 272, 1021]), (33, .ireturn, []), (34, .iload_n 1, []), (35, .tableswitch 91 0 6 #[41, 49, 57, 65, 73, 81, 86], [126, 76, 84, 92, 100, 108, 116, 121]), (76, .aload_n 0, []), (77, .getfield 495, [0, 13043, 1, 18]), (80, .getfield 555, [2, 15030, 16, 5]), (83, .ireturn, []), (84, .aload_n 0, []), (85, .getfield 495, [0, 13043, 1, 18]), (88, .getfield 644, [2, 15031, 16, 6]), (91, .ireturn, []), (92, .aload_n 0, []), (93, .getfield 495, [0, 13043, 1, 18]), (96, .getfield 518, [2, 15024, 16, 1]), (99, .ireturn, []), (100, .aload_n 0, []), (101, .getfield 495, [0, 13043, 1, 18]), (104, .getfield 563, [2, 15041, 16, 12]), (107, .ireturn, []), (108, .aload_n 0, []), (109, .getfield 495, [0, 13043, 1, 18]), (112, .getfield 572, [2, 15046, 16, 15])]
def ev_b70_1 : List ev_I := [(115, .ireturn, []), (116, .aload_n 0, []), (117, .getfield 774, [0, 13062, 1, 38]), (120, .ireturn, []), (121, .aload_n 0, []), (122, .getfield 193, [0, 13063, 1, 39]), (125, .ireturn, []), (126, .aload_n 0, []), (127, .getfield 187, [0, 13060, 1, 36]), (130, .ifCond .ge 7, [137]), (133, .iconst 0, []), (134, .goto 4, [138]), (137, .iconst 1, []), (138, .ireturn, [])]
def ev_b70 : List ev_I := ev_b70_0 ++ (ev_b70_1)
/-- PathProverLaw.show(LPathProver;I[J)I -/
def ev_b71 : List ev_I := [(0, .aload_n 2, []), (1, .iconst 0, []), (2, .aload_n 0, []), (3, .iload_n 1, []), (4, .invokevirtual 40, [72, 1, 0, 12067, 12068, 12069, 1001]), (7, .i2l, []), (8, .lastore, []), (9, .goto 15, [24]), (12, .astore_n 3, []), (13, .iconst 1, []), (14, .ireturn, []), (15, .astore_n 3, []), (16, .iconst 2, []), (17, .ireturn, []), (18, .astore_n 3, []), (19, .iconst 3, []), (20, .ireturn, []), (21, .astore_n 3, []), (22, .iconst 4, []), (23, .ireturn, []), (24, .iconst 0, []), (25, .ireturn, [])]
/-- PathProver.show(I)I -/
def ev_b72_0 : List ev_I := [(0, .aload_n 0, []), (1, .iload_n 1, []), (2, .aload_n 0, []), (3, .getfield 20, [0, 4155, 0, 4]), (6, .getfield 128, [1, 1145, 6, 17]), (9, .getfield 132, [1, 1071, 10, 2]), (12, .invokevirtual 137, [61, 2, 0, 7147, 7149, 78, 1001]), (15, .aload_n 0, []), (16, .invokevirtual 141, [64, 0, 0, 7151, 7153, 79, 1001]), (19, .aload_n 0, []), (23, .aload_n 0, []), (27, .aload_n 0, []), (28, .getfield 71, [0, 4162, 0, 11]), (31, .iload_n 1, []), (35, .aload_n 0, []), (39, .aload_n 0, []), (40, .getfield 71, [0, 4162, 0, 11]), (43, .iload_n 1, []), (47, .istore_n 2, []), (48, .iload_n 2, []), (49, .ifCond .ge 11, [60]), (52, .new 112, [7100, 7101, 1030, 0, 2]), (55, .dup, []), (56, .invokespecial 114, [7109, 2]), (59, .athrow, []), (60, .aload_n 0, []), (61, .getfield 71, [0, 4162, 0, 11]), (64, .iload_n 1, []), (68, .aload_n 0, []), (72, .aload_n 0, []), (73, .getfield 71, [0, 4162, 0, 11]), (76, .iload_n 1, []), (80, .aload_n 0, []), (84, .aload_n 0, []), (85, .getfield 71, [0, 4162, 0, 11]), (88, .iload_n 1, []), (89, .iload_n 2, []), (93, .aload_n 0, []), (97, .aload_n 0, []), (98, .getfield 71, [0, 4162, 0, 11])]
def ev_b72_1 : List ev_I := [(104, .istore_n 3, []), (105, .aload_n 0, []), (109, .iload_n 3, []), (110, .sipush 2000, []), (113, .if_icmp .le 11, [124]), (116, .new 82, [4207, 4208, 1026, 0, 3]), (119, .dup, []), (120, .invokespecial 84, [5010, 3]), (123, .athrow, []), (124, .iload_n 3, []), (125, .ireturn, [])]
def ev_b72 : List ev_I := ev_b72_0 ++ (ev_b72_1)
/-- PathProverModel.show(I)I -/
def ev_b73_0 : List ev_I := [(0, .aload_n 0, []), (1, .iconst 0, []), (2, .putfield 226, [0, 13026, 1, 0, 0]), (5, .aload_n 0, []), (6, .iload_n 1, []), (7, .invokevirtual 823, [63, 1, 1, 16144, 16146, 273, 1021]), (10, .ifCond .eq 9, [19]), (13, .aload_n 0, []), (14, .iconst 1, []), (15, .invokevirtual 820, [32, 1, 1, 16128, 16130, 272, 1021]), (18, .ireturn, []), (19, .aload_n 0, []), (20, .getfield 495, [0, 13043, 1, 18]), (23, .ifnonnull 9, [32]), (26, .aload_n 0, []), (27, .iconst 2, []), (28, .invokevirtual 820, [32, 1, 1, 16128, 16130, 272, 1021]), (31, .ireturn, []), (32, .aload_n 0, []), (33, .getfield 495, [0, 13043, 1, 18]), (36, .getfield 560, [2, 15038, 16, 10]), (39, .iload_n 1, []), (40, .aaload, []), (41, .astore_n 2, []), (42, .aload_n 2, []), (43, .ldc 104, [12235, 41, 41]), (48, .ifCond .ne 39, [87]), (51, .aload_n 2, []), (52, .ldc 116, [13001, 47, 47]), (57, .ifCond .ne 30, [87]), (60, .aload_n 2, []), (61, .ldc 106, [12236, 42, 42]), (66, .ifCond .ne 21, [87]), (69, .aload_n 2, []), (70, .ldc 110, [12238, 44, 44]), (75, .ifCond .ne 12, [87]), (78, .aload_n 2, []), (79, .ldc 114, [13000, 46, 46]), (84, .ifCond .eq 7, [91]), (87, .iconst 1, [])]
def ev_b73_1 : List ev_I := [(88, .goto 4, [92]), (91, .iconst 0, []), (92, .istore_n 3, []), (93, .iload_n 3, []), (94, .ifCond .ne 27, [121]), (97, .aload_n 2, []), (98, .ldc 108, [12237, 43, 43]), (103, .ifCond .ne 18, [121]), (106, .aload_n 2, []), (107, .ldc 112, [12239, 45, 45]), (112, .ifCond .ne 9, [121]), (115, .aload_n 0, []), (116, .iconst 3, []), (117, .invokevirtual 820, [32, 1, 1, 16128, 16130, 272, 1021]), (120, .ireturn, []), (121, .aload_n 0, []), (122, .getfield 733, [0, 13076, 1, 52]), (125, .istore 4, []), (127, .aload_n 0, []), (128, .iconst 0, []), (129, .putfield 833, [0, 13079, 1, 55, 0]), (132, .iload_n 3, []), (133, .ifCond .eq 20, [153]), (136, .aload_n 0, []), (137, .aload_n 2, []), (138, .aload_n 0, []), (139, .getfield 495, [0, 13043, 1, 18]), (142, .getfield 566, [2, 15040, 16, 11]), (145, .iload_n 1, []), (146, .aaload, []), (150, .goto 17, [167]), (153, .aload_n 0, []), (154, .aload_n 2, []), (155, .aload_n 0, []), (156, .getfield 495, [0, 13043, 1, 18]), (159, .getfield 566, [2, 15040, 16, 11]), (162, .iload_n 1, []), (163, .aaload, []), (167, .istore 5, []), (169, .aload_n 0, [])]
def ev_b73_2 : List ev_I := [(170, .iload 4, []), (172, .putfield 733, [0, 13076, 1, 52, 0]), (175, .iload 5, []), (177, .ifCond .ne 9, [186]), (180, .aload_n 0, []), (181, .iconst 3, []), (182, .invokevirtual 820, [32, 1, 1, 16128, 16130, 272, 1021]), (185, .ireturn, []), (186, .aload_n 0, []), (187, .getfield 833, [0, 13079, 1, 55]), (190, .sipush 2000, []), (193, .if_icmp .le 9, [202]), (196, .aload_n 0, []), (197, .iconst 4, []), (198, .invokevirtual 820, [32, 1, 1, 16128, 16130, 272, 1021]), (201, .ireturn, []), (202, .goto 17, [219]), (205, .astore 5, []), (207, .aload_n 0, []), (208, .iload 4, []), (210, .putfield 733, [0, 13076, 1, 52, 0]), (213, .aload_n 0, []), (214, .iconst 4, []), (215, .invokevirtual 820, [32, 1, 1, 16128, 16130, 272, 1021]), (218, .ireturn, []), (219, .iconst 0, []), (220, .istore 5, []), (222, .iload 5, []), (224, .aload_n 0, []), (225, .getfield 833, [0, 13079, 1, 55]), (228, .if_icmp .ge 23, [251]), (231, .aload_n 0, []), (232, .getfield 190, [0, 13061, 1, 37]), (235, .iload 5, []), (237, .aload_n 0, []), (238, .getfield 223, [0, 13078, 1, 54]), (241, .iload 5, []), (243, .iaload, []), (244, .iastore, []), (245, .iinc 5 1, [])]
def ev_b73_3 : List ev_I := [(248, .goto (-26), [222]), (251, .aload_n 0, []), (252, .aload_n 0, []), (253, .getfield 833, [0, 13079, 1, 55]), (256, .putfield 774, [0, 13062, 1, 38, 0]), (259, .aload_n 0, []), (260, .iload_n 3, []), (261, .ifCond .eq 7, [268]), (264, .iconst (-1), []), (265, .goto 7, [272]), (268, .aload_n 0, []), (269, .getfield 853, [0, 13080, 1, 56]), (272, .putfield 193, [0, 13063, 1, 39, 0]), (275, .aload_n 0, []), (276, .getfield 774, [0, 13062, 1, 38]), (279, .ireturn, [])]
def ev_b73 : List ev_I := ev_b73_0 ++ (ev_b73_1 ++ (ev_b73_2 ++ (ev_b73_3)))
/-- PathProverLaw.pick(LPathProver;I[J)I -/
def ev_b74 : List ev_I := [(0, .aload_n 2, []), (1, .iconst 0, []), (2, .aload_n 0, []), (3, .iload_n 1, []), (4, .invokevirtual 43, [75, 1, 0, 12103, 12104, 12105, 1001]), (7, .i2l, []), (8, .lastore, []), (9, .goto 12, [21]), (12, .astore_n 3, []), (13, .iconst 1, []), (14, .ireturn, []), (15, .astore_n 3, []), (16, .iconst 2, []), (17, .ireturn, []), (18, .astore_n 3, []), (19, .iconst 3, []), (20, .ireturn, []), (21, .iconst 0, []), (22, .ireturn, [])]
/-- PathProver.pick(I)I -/
def ev_b75 : List ev_I := [(0, .aload_n 0, []), (1, .iload_n 1, []), (2, .invokevirtual 195, [76, 1, 0, 12107, 12109, 180, 1001]), (5, .aload_n 0, []), (6, .invokevirtual 141, [64, 0, 0, 7151, 7153, 79, 1001]), (9, .aload_n 0, []), (10, .iload_n 1, []), (11, .aload_n 0, []), (12, .getfield 71, [0, 4162, 0, 11]), (15, .getfield 173, [1, 4089, 8, 11]), (18, .if_icmp .ge 15, [33]), (21, .aload_n 0, []), (22, .getfield 71, [0, 4162, 0, 11]), (25, .getfield 198, [1, 4086, 8, 9]), (28, .iload_n 1, []), (29, .iaload, []), (30, .goto 4, [34]), (33, .iconst (-1), []), (37, .ireturn, [])]
/-- PathProver.needPlain(I)V -/
def ev_b76 : List ev_I := [(0, .iload_n 1, []), (1, .ifCond .ge 11, [12]), (4, .new 101, [5054, 5055, 1027, 0, 0]), (7, .dup, []), (8, .invokespecial 103, [5063, 0]), (11, .athrow, []), (12, .return_, [])]
/-- PathProverModel.pick(I)I -/
def ev_b77 : List ev_I := [(0, .aload_n 0, []), (1, .iconst 0, []), (2, .putfield 226, [0, 13026, 1, 0, 0]), (5, .iload_n 1, []), (6, .ifCond .ge 9, [15]), (9, .aload_n 0, []), (10, .iconst 1, []), (11, .invokevirtual 820, [32, 1, 1, 16128, 16130, 272, 1021]), (14, .ireturn, []), (15, .aload_n 0, []), (16, .getfield 495, [0, 13043, 1, 18]), (19, .ifnonnull 9, [28]), (22, .aload_n 0, []), (23, .iconst 2, []), (24, .invokevirtual 820, [32, 1, 1, 16128, 16130, 272, 1021]), (27, .ireturn, []), (28, .iload_n 1, []), (29, .aload_n 0, []), (30, .getfield 774, [0, 13062, 1, 38]), (33, .if_icmp .lt 11, [44]), (36, .aload_n 0, []), (37, .iconst 3, []), (38, .invokevirtual 820, [32, 1, 1, 16128, 16130, 272, 1021]), (41, .goto 13, [54]), (44, .aload_n 0, []), (45, .aload_n 0, []), (46, .getfield 190, [0, 13061, 1, 37]), (49, .iload_n 1, []), (50, .iaload, []), (54, .ireturn, [])]
/-- PathProverLaw.first(LPathProver;I[J)I -/
def ev_b78 : List ev_I := [(0, .aload_n 2, []), (1, .iconst 0, []), (2, .aload_n 0, []), (3, .iload_n 1, []), (4, .invokevirtual 46, [79, 1, 0, 12119, 12120, 12121, 1001]), (7, .i2l, []), (8, .lastore, []), (9, .goto 12, [21]), (12, .astore_n 3, []), (13, .iconst 1, []), (14, .ireturn, []), (15, .astore_n 3, []), (16, .iconst 2, []), (17, .ireturn, []), (18, .astore_n 3, []), (19, .iconst 3, []), (20, .ireturn, []), (21, .iconst 0, []), (22, .ireturn, [])]
/-- PathProver.first(I)I -/
def ev_b79 : List ev_I := [(0, .aload_n 0, []), (1, .iload_n 1, []), (2, .invokevirtual 195, [76, 1, 0, 12107, 12109, 180, 1001]), (5, .aload_n 0, []), (6, .invokevirtual 141, [64, 0, 0, 7151, 7153, 79, 1001]), (9, .aload_n 0, []), (13, .aload_n 0, []), (17, .aload_n 0, []), (18, .aload_n 0, []), (19, .getfield 71, [0, 4162, 0, 11]), (22, .iload_n 1, []), (29, .ireturn, [])]
/-- PathProverModel.first(I)I -/
def ev_b80_0 : List ev_I := [(0, .aload_n 0, []), (1, .iconst 0, []), (2, .putfield 226, [0, 13026, 1, 0, 0]), (5, .iload_n 1, []), (6, .ifCond .ge 9, [15]), (9, .aload_n 0, []), (10, .iconst 1, []), (11, .invokevirtual 820, [32, 1, 1, 16128, 16130, 272, 1021]), (14, .ireturn, []), (15, .aload_n 0, []), (16, .getfield 495, [0, 13043, 1, 18]), (19, .ifnonnull 9, [28]), (22, .aload_n 0, []), (23, .iconst 2, []), (24, .invokevirtual 820, [32, 1, 1, 16128, 16130, 272, 1021]), (27, .ireturn, []), (28, .iload_n 1, []), (29, .istore_n 2, []), (30, .iconst 0, []), (31, .istore_n 3, []), (32, .iload_n 3, []), (33, .aload_n 0, []), (34, .getfield 686, [0, 13053, 1, 28]), (37, .if_icmp .ge 36, [73]), (40, .aload_n 0, []), (41, .getfield 178, [0, 13057, 1, 33]), (44, .iload_n 3, []), (48, .ifCond .ne 6, [54]), (51, .goto 16, [67]), (54, .iload_n 2, []), (55, .ifCond .ne 9, [64]), (58, .aload_n 0, []), (59, .iload_n 3, []), (63, .ireturn, []), (64, .iinc 2 (-1), []), (67, .iinc 3 1, []), (70, .goto (-38), [32]), (73, .aload_n 0, []), (74, .iconst 3, []), (75, .invokevirtual 820, [32, 1, 1, 16128, 16130, 272, 1021])]
def ev_b80_1 : List ev_I := [(78, .ireturn, [])]
def ev_b80 : List ev_I := ev_b80_0 ++ (ev_b80_1)
/-- PathProverLaw.step(LPathProver;I[J)I -/
def ev_b81 : List ev_I := [(0, .aload_n 2, []), (1, .iconst 0, []), (2, .aload_n 0, []), (3, .iload_n 1, []), (4, .invokevirtual 49, [82, 1, 0, 12134, 12135, 12136, 1001]), (7, .i2l, []), (8, .lastore, []), (9, .goto 15, [24]), (12, .astore_n 3, []), (13, .iconst 1, []), (14, .ireturn, []), (15, .astore_n 3, []), (16, .iconst 2, []), (17, .ireturn, []), (18, .astore_n 3, []), (19, .iconst 3, []), (20, .ireturn, []), (21, .astore_n 3, []), (22, .iconst 4, []), (23, .ireturn, []), (24, .iconst 0, []), (25, .ireturn, [])]
/-- PathProver.step(I)I -/
def ev_b82 : List ev_I := [(0, .aload_n 0, []), (1, .iload_n 1, []), (2, .invokevirtual 195, [76, 1, 0, 12107, 12109, 180, 1001]), (5, .aload_n 0, []), (6, .invokevirtual 141, [64, 0, 0, 7151, 7153, 79, 1001]), (9, .aload_n 0, []), (13, .aload_n 0, []), (14, .getfield 62, [0, 4161, 0, 10]), (17, .aload_n 0, []), (18, .getfield 75, [0, 4164, 0, 13]), (24, .aload_n 0, []), (28, .aload_n 0, []), (29, .aload_n 0, []), (30, .getfield 71, [0, 4162, 0, 11]), (33, .iload_n 1, []), (40, .ireturn, [])]
/-- PathProverModel.step(I)I -/
def ev_b83_0 : List ev_I := [(0, .aload_n 0, []), (1, .iconst 0, []), (2, .putfield 226, [0, 13026, 1, 0, 0]), (5, .iload_n 1, []), (6, .ifCond .ge 9, [15]), (9, .aload_n 0, []), (10, .iconst 1, []), (11, .invokevirtual 820, [32, 1, 1, 16128, 16130, 272, 1021]), (14, .ireturn, []), (15, .aload_n 0, []), (16, .getfield 495, [0, 13043, 1, 18]), (19, .ifnonnull 9, [28]), (22, .aload_n 0, []), (23, .iconst 2, []), (24, .invokevirtual 820, [32, 1, 1, 16128, 16130, 272, 1021]), (27, .ireturn, []), (28, .aload_n 0, []), (29, .getfield 187, [0, 13060, 1, 36]), (32, .ifCond .ge 9, [41]), (35, .aload_n 0, []), (36, .iconst 3, []), (37, .invokevirtual 820, [32, 1, 1, 16128, 16130, 272, 1021]), (40, .ireturn, []), (41, .aload_n 0, []), (42, .aload_n 0, []), (43, .getfield 187, [0, 13060, 1, 36]), (49, .aload_n 0, []), (53, .istore_n 2, []), (54, .iconst 0, []), (55, .istore_n 3, []), (56, .iload_n 3, []), (57, .iload_n 1, []), (58, .if_icmp .ge 18, [76]), (61, .iload_n 2, []), (62, .ifCond .lt 14, [76]), (65, .aload_n 0, []), (69, .istore_n 2, []), (70, .iinc 3 1, []), (73, .goto (-17), [56]), (76, .iload_n 2, [])]
def ev_b83_1 : List ev_I := [(77, .ifCond .ge 11, [88]), (80, .aload_n 0, []), (81, .iconst 4, []), (82, .invokevirtual 820, [32, 1, 1, 16128, 16130, 272, 1021]), (85, .goto 8, [93]), (88, .aload_n 0, []), (89, .iload_n 2, []), (93, .ireturn, [])]
def ev_b83 : List ev_I := ev_b83_0 ++ (ev_b83_1)
/-- PathProverLaw.value(LPathProver;I[J)I -/
def ev_b84 : List ev_I := [(0, .aload_n 2, []), (1, .iconst 0, []), (2, .aload_n 0, []), (3, .iload_n 1, []), (4, .invokevirtual 52, [85, 1, 0, 12150, 12151, 12152, 1001]), (7, .i2l, []), (8, .lastore, []), (9, .goto 12, [21]), (12, .astore_n 3, []), (13, .iconst 1, []), (14, .ireturn, []), (15, .astore_n 3, []), (16, .iconst 2, []), (17, .ireturn, []), (18, .astore_n 3, []), (19, .iconst 3, []), (20, .ireturn, []), (21, .iconst 0, []), (22, .ireturn, [])]
/-- PathProver.value(I)I -/
def ev_b85 : List ev_I := [(0, .aload_n 0, []), (1, .iload_n 1, []), (2, .aload_n 0, []), (3, .getfield 20, [0, 4155, 0, 4]), (6, .getfield 160, [1, 1138, 6, 15]), (9, .getfield 132, [1, 1071, 10, 2]), (12, .invokevirtual 137, [61, 2, 0, 7147, 7149, 78, 1001]), (15, .aload_n 0, []), (16, .invokevirtual 141, [64, 0, 0, 7151, 7153, 79, 1001]), (19, .aload_n 0, []), (23, .aload_n 0, []), (24, .getfield 71, [0, 4162, 0, 11]), (27, .iload_n 1, []), (28, .aload_n 0, []), (29, .getfield 75, [0, 4164, 0, 13]), (35, .ireturn, [])]
/-- PathProverModel.value(I)I -/
def ev_b86_0 : List ev_I := [(0, .aload_n 0, []), (1, .iconst 0, []), (2, .putfield 226, [0, 13026, 1, 0, 0]), (5, .iload_n 1, []), (6, .ifCond .lt 21, [27]), (9, .aload_n 0, []), (10, .getfield 495, [0, 13043, 1, 18]), (13, .ifnull 20, [33]), (16, .iload_n 1, []), (17, .aload_n 0, []), (18, .getfield 495, [0, 13043, 1, 18]), (21, .getfield 555, [2, 15030, 16, 5]), (24, .if_icmp .lt 9, [33]), (27, .aload_n 0, []), (28, .iconst 1, []), (29, .invokevirtual 820, [32, 1, 1, 16128, 16130, 272, 1021]), (32, .ireturn, []), (33, .aload_n 0, []), (34, .getfield 495, [0, 13043, 1, 18]), (37, .ifnonnull 9, [46]), (40, .aload_n 0, []), (41, .iconst 2, []), (42, .invokevirtual 820, [32, 1, 1, 16128, 16130, 272, 1021]), (45, .ireturn, []), (46, .aload_n 0, []), (47, .getfield 187, [0, 13060, 1, 36]), (50, .ifCond .ge 9, [59]), (53, .aload_n 0, []), (54, .iconst 3, []), (55, .invokevirtual 820, [32, 1, 1, 16128, 16130, 272, 1021]), (58, .ireturn, []), (59, .aload_n 0, []), (60, .aload_n 0, []), (61, .getfield 187, [0, 13060, 1, 36]), (67, .aload_n 0, []), (68, .getfield 495, [0, 13043, 1, 18]), (71, .getfield 557, [2, 15029, 16, 4]), (74, .iload_n 1, []), (75, .aaload, []), (76, .astore_n 2, [])]
def ev_b86_1 : List ev_I := [(77, .aload_n 2, []), (78, .ldc_w 386, [14161, 100, 69]), (84, .ifCond .eq 27, [111]), (87, .aload_n 2, []), (88, .getfield 402, [2, 14100, 18, 1]), (91, .iconst 0, []), (92, .aaload, []), (93, .ldc_w 377, [14166, 101, 70]), (99, .ifCond .eq 12, [111]), (102, .aload_n 0, []), (103, .getfield 165, [0, 13054, 1, 30]), (106, .iload_n 1, []), (107, .iaload, []), (108, .goto 14, [122]), (111, .aload_n 0, []), (112, .iload_n 1, []), (113, .aload_n 0, []), (114, .getfield 165, [0, 13054, 1, 30]), (117, .iload_n 1, []), (118, .iaload, []), (122, .ireturn, [])]
def ev_b86 : List ev_I := ev_b86_0 ++ (ev_b86_1)
/-- PathProverLaw.holds(LPathProver;I[J)I -/
def ev_b87 : List ev_I := [(0, .aload_n 2, []), (1, .iconst 0, []), (2, .aload_n 0, []), (3, .iload_n 1, []), (4, .invokevirtual 55, [88, 1, 0, 12164, 12165, 12166, 1001]), (7, .ifCond .eq 7, [14]), (10, .lconst 1, []), (11, .goto 4, [15]), (14, .lconst 0, []), (15, .lastore, []), (16, .goto 12, [28]), (19, .astore_n 3, []), (20, .iconst 1, []), (21, .ireturn, []), (22, .astore_n 3, []), (23, .iconst 2, []), (24, .ireturn, []), (25, .astore_n 3, []), (26, .iconst 3, []), (27, .ireturn, []), (28, .iconst 0, []), (29, .ireturn, [])]
/-- PathProver.holds(I)Z -/
def ev_b88 : List ev_I := [(0, .aload_n 0, []), (1, .iload_n 1, []), (2, .aload_n 0, []), (3, .getfield 20, [0, 4155, 0, 4]), (6, .getfield 128, [1, 1145, 6, 17]), (9, .getfield 132, [1, 1071, 10, 2]), (12, .invokevirtual 137, [61, 2, 0, 7147, 7149, 78, 1001]), (15, .aload_n 0, []), (16, .invokevirtual 141, [64, 0, 0, 7151, 7153, 79, 1001]), (19, .aload_n 0, []), (23, .aload_n 0, []), (24, .getfield 71, [0, 4162, 0, 11]), (27, .iload_n 1, []), (31, .aload_n 0, []), (35, .aload_n 0, []), (36, .getfield 71, [0, 4162, 0, 11]), (39, .iload_n 1, []), (40, .aload_n 0, []), (41, .getfield 75, [0, 4164, 0, 13]), (47, .ireturn, [])]
/-- PathProverModel.holds(I)Z -/
def ev_b89_0 : List ev_I := [(0, .aload_n 0, []), (1, .iconst 0, []), (2, .putfield 226, [0, 13026, 1, 0, 0]), (5, .aload_n 0, []), (6, .iload_n 1, []), (7, .invokevirtual 823, [63, 1, 1, 16144, 16146, 273, 1021]), (10, .ifCond .eq 17, [27]), (13, .aload_n 0, []), (14, .iconst 1, []), (15, .invokevirtual 820, [32, 1, 1, 16128, 16130, 272, 1021]), (18, .ifCond .le 7, [25]), (21, .iconst 1, []), (22, .goto 4, [26]), (25, .iconst 0, []), (26, .ireturn, []), (27, .aload_n 0, []), (28, .getfield 495, [0, 13043, 1, 18]), (31, .ifnonnull 17, [48]), (34, .aload_n 0, []), (35, .iconst 2, []), (36, .invokevirtual 820, [32, 1, 1, 16128, 16130, 272, 1021]), (39, .ifCond .le 7, [46]), (42, .iconst 1, []), (43, .goto 4, [47]), (46, .iconst 0, []), (47, .ireturn, []), (48, .aload_n 0, []), (49, .getfield 187, [0, 13060, 1, 36]), (52, .ifCond .ge 17, [69]), (55, .aload_n 0, []), (56, .iconst 3, []), (57, .invokevirtual 820, [32, 1, 1, 16128, 16130, 272, 1021]), (60, .ifCond .le 7, [67]), (63, .iconst 1, []), (64, .goto 4, [68]), (67, .iconst 0, []), (68, .ireturn, []), (69, .aload_n 0, []), (73, .astore_n 2, []), (74, .aload_n 0, [])]
def ev_b89_1 : List ev_I := [(75, .iload_n 1, []), (76, .aload_n 2, []), (80, .aload_n 0, []), (81, .dup, []), (82, .getfield 733, [0, 13076, 1, 52]), (85, .iconst 1, []), (86, .isub, []), (87, .putfield 733, [0, 13076, 1, 52, 0]), (90, .aload_n 2, []), (91, .aload_n 0, []), (92, .getfield 187, [0, 13060, 1, 36]), (98, .ireturn, [])]
def ev_b89 : List ev_I := ev_b89_0 ++ (ev_b89_1)
/-- PathProverLaw.tidy(LPathProver;I[J)I -/
def ev_b90 : List ev_I := [(0, .aload_n 2, []), (1, .iconst 0, []), (2, .aload_n 0, []), (3, .iload_n 1, []), (4, .invokevirtual 58, [91, 1, 0, 12175, 12176, 12177, 1001]), (7, .i2l, []), (8, .lastore, []), (9, .goto 9, [18]), (12, .astore_n 3, []), (13, .iconst 1, []), (14, .ireturn, []), (15, .astore_n 3, []), (16, .iconst 2, []), (17, .ireturn, []), (18, .iconst 0, []), (19, .ireturn, [])]
/-- PathProver.tidy(I)I -/
def ev_b91 : List ev_I := [(0, .iload_n 1, []), (1, .ifCond .lt 8, [9]), (4, .iload_n 1, []), (5, .iconst 3, []), (6, .if_icmp .le 11, [17]), (9, .new 101, [5054, 5055, 1027, 0, 0]), (12, .dup, []), (13, .invokespecial 103, [5063, 0]), (16, .athrow, []), (17, .aload_n 0, []), (18, .invokevirtual 141, [64, 0, 0, 7151, 7153, 79, 1001]), (21, .aload_n 0, []), (22, .getfield 20, [0, 4155, 0, 4]), (25, .getfield 128, [1, 1145, 6, 17]), (28, .getfield 132, [1, 1071, 10, 2]), (31, .ireturn, [])]
/-- PathProverModel.tidy(I)I -/
def ev_b92 : List ev_I := [(0, .aload_n 0, []), (1, .iconst 0, []), (2, .putfield 226, [0, 13026, 1, 0, 0]), (5, .iload_n 1, []), (6, .ifCond .lt 8, [14]), (9, .iload_n 1, []), (10, .iconst 3, []), (11, .if_icmp .le 9, [20]), (14, .aload_n 0, []), (15, .iconst 1, []), (16, .invokevirtual 820, [32, 1, 1, 16128, 16130, 272, 1021]), (19, .ireturn, []), (20, .aload_n 0, []), (21, .getfield 495, [0, 13043, 1, 18]), (24, .ifnonnull 9, [33]), (27, .aload_n 0, []), (28, .iconst 2, []), (29, .invokevirtual 820, [32, 1, 1, 16128, 16130, 272, 1021]), (32, .ireturn, []), (33, .aload_n 0, []), (34, .getfield 495, [0, 13043, 1, 18]), (37, .getfield 563, [2, 15041, 16, 12]), (40, .ireturn, [])]
/-- PathProverLaw.faults(LPathProver;I[J)I -/
def ev_b93 : List ev_I := [(0, .aload_n 2, []), (1, .iconst 0, []), (2, .aload_n 0, []), (3, .iload_n 1, []), (4, .invokevirtual 61, [94, 1, 0, 12182, 12183, 12184, 1001]), (7, .i2l, []), (8, .lastore, []), (9, .goto 6, [15]), (12, .astore_n 3, []), (13, .iconst 1, []), (14, .ireturn, []), (15, .iconst 0, []), (16, .ireturn, [])]
/-- PathProver.faults(I)I -/
def ev_b94 : List ev_I := [(0, .iload_n 1, []), (1, .ifCond .lt 8, [9]), (4, .iload_n 1, []), (5, .iconst 2, []), (6, .if_icmp .le 11, [17]), (9, .new 101, [5054, 5055, 1027, 0, 0]), (12, .dup, []), (13, .invokespecial 103, [5063, 0]), (16, .athrow, []), (17, .iload_n 1, []), (18, .iconst 2, []), (19, .if_icmp .ne 13, [32]), (22, .aload_n 0, []), (23, .getfield 71, [0, 4162, 0, 11]), (26, .getfield 224, [1, 4092, 8, 13]), (29, .goto 4, [33]), (32, .iconst 0, []), (33, .ireturn, [])]
/-- PathProverModel.faults(I)I -/
def ev_b95 : List ev_I := [(0, .aload_n 0, []), (1, .iconst 0, []), (2, .putfield 226, [0, 13026, 1, 0, 0]), (5, .iload_n 1, []), (6, .ifCond .lt 8, [14]), (9, .iload_n 1, []), (10, .iconst 2, []), (11, .if_icmp .le 11, [22]), (14, .aload_n 0, []), (15, .iconst 1, []), (16, .invokevirtual 820, [32, 1, 1, 16128, 16130, 272, 1021]), (19, .goto 4, [23]), (22, .iconst 0, []), (23, .ireturn, [])]
/-- java/lang/Math.max(II)I -/
def ev_b96 : List ev_I := [(0, .iload_n 0, []), (1, .iload_n 1, []), (2, .if_icmp .lt 7, [9]), (5, .iload_n 0, []), (6, .goto 4, [10]), (9, .iload_n 1, []), (10, .ireturn, [])]
/-- java/lang/Math.abs(I)I -/
def ev_b97 : List ev_I := [(0, .iload_n 0, []), (1, .ifCond .ge 8, [9]), (4, .iload_n 0, []), (5, .ineg, []), (6, .goto 4, [10]), (9, .iload_n 0, []), (10, .ireturn, [])]
/-- java/util/Arrays.fill([IIII)V -/
def ev_b98 : List ev_I := [(0, .aload_n 0, []), (1, .arraylength, []), (2, .iload_n 1, []), (3, .iload_n 2, []), (4, .invokestatic 13, [100, 3, 7197, 7198, 1014]), (7, .iload_n 1, []), (8, .istore 4, []), (10, .iload 4, []), (12, .iload_n 2, []), (13, .if_icmp .ge 14, [27]), (16, .aload_n 0, []), (17, .iload 4, []), (19, .iload_n 3, []), (20, .iastore, []), (21, .iinc 4 1, []), (24, .goto (-14), [10]), (27, .return_, [])]
/-- java/util/Arrays.fill([JIIJ)V -/
def ev_b99 : List ev_I := [(0, .aload_n 0, []), (1, .arraylength, []), (2, .iload_n 1, []), (3, .iload_n 2, []), (4, .invokestatic 13, [100, 3, 7197, 7198, 1014]), (7, .iload_n 1, []), (8, .istore 5, []), (10, .iload 5, []), (12, .iload_n 2, []), (13, .if_icmp .ge 14, [27]), (16, .aload_n 0, []), (17, .iload 5, []), (19, .lload_n 3, []), (20, .lastore, []), (21, .iinc 5 1, []), (24, .goto (-14), [10]), (27, .return_, [])]
/-- java/util/Arrays.rangeCheck(III)V -/
def ev_b100 : List ev_I := [(0, .iload_n 1, []), (1, .iload_n 2, []), (2, .if_icmp .le 44, [46]), (5, .new 43, [7200, 5055, 1027, 0, 0]), (8, .dup, []), (12, .dup, []), (16, .ldc 48, [7231, 58, 58]), (21, .iload_n 1, []), (25, .ldc 57, [8092, 59, 59]), (30, .iload_n 2, []), (34, .ldc 59, [8093, 60, 9]), (45, .athrow, []), (46, .iload_n 1, []), (47, .ifCond .ge 12, [59]), (53, .dup, []), (54, .iload_n 1, []), (58, .athrow, []), (59, .iload_n 2, []), (60, .iload_n 0, []), (61, .if_icmp .le 12, [73]), (67, .dup, []), (68, .iload_n 2, []), (72, .athrow, []), (73, .return_, [])]
/-- java/util/Arrays.copyOf([II)[I -/
def ev_b101 : List ev_I := [(0, .iload_n 1, []), (1, .aload_n 0, []), (2, .arraylength, []), (3, .if_icmp .ne 11, [14]), (6, .aload_n 0, []), (13, .areturn, []), (14, .iload_n 1, []), (15, .newarray .int, [1082, 0]), (17, .astore_n 2, []), (18, .aload_n 0, []), (19, .iconst 0, []), (20, .aload_n 2, []), (21, .iconst 0, []), (22, .aload_n 0, []), (23, .arraylength, []), (24, .iload_n 1, []), (25, .invokestatic 304, [45, 2, 2159, 2160, 1015]), (28, .invokestatic 150, [2162]), (31, .aload_n 2, []), (32, .areturn, [])]
/-- java/util/Arrays.copyOf([BI)[B -/
def ev_b102 : List ev_I := [(0, .iload_n 1, []), (1, .aload_n 0, []), (2, .arraylength, []), (3, .if_icmp .ne 11, [14]), (6, .aload_n 0, []), (13, .areturn, []), (14, .iload_n 1, []), (15, .newarray .byte, [1081, 1]), (17, .astore_n 2, []), (18, .aload_n 0, []), (19, .iconst 0, []), (20, .aload_n 2, []), (21, .iconst 0, []), (22, .aload_n 0, []), (23, .arraylength, []), (24, .iload_n 1, []), (25, .invokestatic 304, [45, 2, 2159, 2160, 1015]), (28, .invokestatic 150, [2162]), (31, .aload_n 2, []), (32, .areturn, [])]
/-- java/lang/Long.bitCount(J)I -/
def ev_b103_0 : List ev_I := [(0, .lload_n 0, []), (1, .lload_n 0, []), (2, .iconst 1, []), (3, .lushr, []), (4, .ldc2_w 314, [9100, 6148914691236517205]), (7, .land, []), (8, .lsub, []), (9, .lstore_n 0, []), (10, .lload_n 0, []), (11, .ldc2_w 316, [9101, 3689348814741910323]), (14, .land, []), (15, .lload_n 0, []), (16, .iconst 2, []), (17, .lushr, []), (18, .ldc2_w 316, [9101, 3689348814741910323]), (21, .land, []), (22, .ladd, []), (23, .lstore_n 0, []), (24, .lload_n 0, []), (25, .lload_n 0, []), (26, .iconst 4, []), (27, .lushr, []), (28, .ladd, []), (29, .ldc2_w 318, [9102, 1085102592571150095]), (32, .land, []), (33, .lstore_n 0, []), (34, .lload_n 0, []), (35, .lload_n 0, []), (36, .bipush 8, []), (38, .lushr, []), (39, .ladd, []), (40, .lstore_n 0, []), (41, .lload_n 0, []), (42, .lload_n 0, []), (43, .bipush 16, []), (45, .lushr, []), (46, .ladd, []), (47, .lstore_n 0, []), (48, .lload_n 0, []), (49, .lload_n 0, [])]
def ev_b103_1 : List ev_I := [(50, .bipush 32, []), (52, .lushr, []), (53, .ladd, []), (54, .lstore_n 0, []), (55, .lload_n 0, []), (56, .l2i, []), (57, .bipush 127, []), (59, .iand, []), (60, .ireturn, [])]
def ev_b103 : List ev_I := ev_b103_0 ++ (ev_b103_1)
/-- java/lang/Long.numberOfTrailingZeros(J)I -/
def ev_b104 : List ev_I := [(0, .lload_n 0, []), (1, .l2i, []), (2, .istore_n 2, []), (3, .iload_n 2, []), (4, .ifCond .ne 17, [21]), (7, .bipush 32, []), (9, .lload_n 0, []), (10, .bipush 32, []), (12, .lushr, []), (13, .l2i, []), (14, .invokestatic 311, [105, 1, 9106, 9107, 1029]), (17, .iadd, []), (18, .goto 7, [25]), (21, .iload_n 2, []), (22, .invokestatic 311, [105, 1, 9106, 9107, 1029]), (25, .ireturn, [])]
/-- java/lang/Integer.numberOfTrailingZeros(I)I -/
def ev_b105_0 : List ev_I := [(0, .iload_n 0, []), (1, .iconst (-1), []), (2, .ixor, []), (3, .iload_n 0, []), (4, .iconst 1, []), (5, .isub, []), (6, .iand, []), (7, .istore_n 0, []), (8, .iload_n 0, []), (9, .ifCond .gt 8, [17]), (12, .iload_n 0, []), (13, .bipush 32, []), (15, .iand, []), (16, .ireturn, []), (17, .iconst 1, []), (18, .istore_n 1, []), (19, .iload_n 0, []), (20, .ldc_w 264, [7099, 65536]), (23, .if_icmp .le 11, [34]), (26, .iinc 1 16, []), (29, .iload_n 0, []), (30, .bipush 16, []), (32, .iushr, []), (33, .istore_n 0, []), (34, .iload_n 0, []), (35, .sipush 256, []), (38, .if_icmp .le 11, [49]), (41, .iinc 1 8, []), (44, .iload_n 0, []), (45, .bipush 8, []), (47, .iushr, []), (48, .istore_n 0, []), (49, .iload_n 0, []), (50, .bipush 16, []), (52, .if_icmp .le 10, [62]), (55, .iinc 1 4, []), (58, .iload_n 0, []), (59, .iconst 4, []), (60, .iushr, []), (61, .istore_n 0, [])]
def ev_b105_1 : List ev_I := [(62, .iload_n 0, []), (63, .iconst 4, []), (64, .if_icmp .le 10, [74]), (67, .iinc 1 2, []), (70, .iload_n 0, []), (71, .iconst 2, []), (72, .iushr, []), (73, .istore_n 0, []), (74, .iload_n 1, []), (75, .iload_n 0, []), (76, .iconst 1, []), (77, .iushr, []), (78, .iadd, []), (79, .ireturn, [])]
def ev_b105 : List ev_I := ev_b105_0 ++ (ev_b105_1)
/-- java/lang/Integer.numberOfLeadingZeros(I)I -/
def ev_b106_0 : List ev_I := [(0, .iload_n 0, []), (1, .ifCond .gt 14, [15]), (4, .iload_n 0, []), (5, .ifCond .ne 8, [13]), (8, .bipush 32, []), (10, .goto 4, [14]), (13, .iconst 0, []), (14, .ireturn, []), (15, .bipush 31, []), (17, .istore_n 1, []), (18, .iload_n 0, []), (19, .ldc_w 264, [7099, 65536]), (22, .if_icmp .lt 11, [33]), (25, .iinc 1 (-16), []), (28, .iload_n 0, []), (29, .bipush 16, []), (31, .iushr, []), (32, .istore_n 0, []), (33, .iload_n 0, []), (34, .sipush 256, []), (37, .if_icmp .lt 11, [48]), (40, .iinc 1 (-8), []), (43, .iload_n 0, []), (44, .bipush 8, []), (46, .iushr, []), (47, .istore_n 0, []), (48, .iload_n 0, []), (49, .bipush 16, []), (51, .if_icmp .lt 10, [61]), (54, .iinc 1 (-4), []), (57, .iload_n 0, []), (58, .iconst 4, []), (59, .iushr, []), (60, .istore_n 0, []), (61, .iload_n 0, []), (62, .iconst 4, []), (63, .if_icmp .lt 10, [73]), (66, .iinc 1 (-2), []), (69, .iload_n 0, []), (70, .iconst 2, [])]
def ev_b106_1 : List ev_I := [(71, .iushr, []), (72, .istore_n 0, []), (73, .iload_n 1, []), (74, .iload_n 0, []), (75, .iconst 1, []), (76, .iushr, []), (77, .isub, []), (78, .ireturn, [])]
def ev_b106 : List ev_I := ev_b106_0 ++ (ev_b106_1)
/-- java/lang/Integer.highestOneBit(I)I -/
def ev_b107 : List ev_I := [(0, .iload_n 0, []), (1, .ldc 127, [7187, 2147483648]), (3, .iload_n 0, []), (4, .invokestatic 51, [106, 1, 7188, 7097, 1029]), (7, .iushr, []), (8, .iand, []), (9, .ireturn, [])]
/-- java/lang/String.indexOf(I)I -/
def ev_b108 : List ev_I := [(0, .aload_n 0, []), (1, .iload_n 1, []), (2, .iconst 0, []), (3, .invokevirtual 633, [109, 2, 999, 5151, 5152, 5153, 1006]), (6, .ireturn, [])]
/-- java/lang/String.indexOf(II)I -/
def ev_b109 : List ev_I := [(0, .aload_n 0, []), (1, .invokevirtual 492, [9, 0, 999, 1217, 1218, 1219, 1006]), (4, .ifCond .eq 19, [23]), (7, .aload_n 0, []), (8, .getfield 9, [8153, 0]), (11, .iload_n 1, []), (12, .iload_n 2, []), (13, .aload_n 0, []), (14, .invokevirtual 505, [6, 0, 999, 5155, 1204, 1205, 1006]), (17, .invokestatic 637, [110, 4, 5156, 5157, 1007]), (20, .goto 16, [36]), (23, .aload_n 0, []), (24, .getfield 9, [8153, 0]), (27, .iload_n 1, []), (28, .iload_n 2, []), (29, .aload_n 0, []), (30, .invokevirtual 505, [6, 0, 999, 5155, 1204, 1205, 1006]), (36, .ireturn, [])]
/-- java/lang/StringLatin1.indexOf([BIII)I -/
def ev_b110 : List ev_I := [(0, .iload_n 1, []), (1, .invokestatic 88, [111, 1, 5159, 5160, 1007]), (4, .ifCond .ne 5, [9]), (7, .iconst (-1), []), (8, .ireturn, []), (9, .iload_n 2, []), (10, .iconst 0, []), (11, .invokestatic 92, [96, 2, 5162, 5163, 1015]), (14, .istore_n 2, []), (15, .iload_n 3, []), (16, .aload_n 0, []), (17, .arraylength, []), (18, .invokestatic 38, [45, 2, 5165, 2160, 1015]), (21, .istore_n 3, []), (22, .iload_n 2, []), (23, .iload_n 3, []), (24, .if_icmp .lt 5, [29]), (27, .iconst (-1), []), (28, .ireturn, []), (29, .aload_n 0, []), (30, .iload_n 1, []), (31, .iload_n 2, []), (32, .iload_n 3, []), (33, .invokestatic 95, [112, 4, 5166, 5167, 1007]), (36, .ireturn, [])]
/-- java/lang/StringLatin1.canEncode(I)Z -/
def ev_b111 : List ev_I := [(0, .iload_n 0, []), (1, .ifCond .lt 14, [15]), (4, .iload_n 0, []), (5, .sipush 255, []), (8, .if_icmp .gt 7, [15]), (11, .iconst 1, []), (12, .goto 4, [16]), (15, .iconst 0, []), (16, .ireturn, [])]
/-- java/lang/StringLatin1.indexOfChar([BIII)I -/
def ev_b112 : List ev_I := [(0, .iload_n 1, []), (1, .i2b, []), (2, .istore 4, []), (4, .iload_n 2, []), (5, .istore 5, []), (7, .iload 5, []), (9, .iload_n 3, []), (10, .if_icmp .ge 21, [31]), (13, .aload_n 0, []), (14, .iload 5, []), (16, .baload, []), (17, .iload 4, []), (19, .if_icmp .ne 6, [25]), (22, .iload 5, []), (24, .ireturn, []), (25, .iinc 5 1, []), (28, .goto (-21), [7]), (31, .iconst (-1), []), (32, .ireturn, [])]
/-- java/lang/String.equals(Ljava/lang/Object;)Z -/
def ev_b113 : List ev_I := [(0, .aload_n 0, []), (1, .aload_n 1, []), (5, .iconst 1, []), (6, .ireturn, []), (7, .aload_n 1, []), (11, .ifCond .eq 43, [54]), (14, .aload_n 1, []), (18, .astore_n 2, []), (19, .getstatic 38, [1211]), (22, .ifCond .eq 14, [36]), (25, .aload_n 0, []), (26, .getfield 15, [8154, 1]), (29, .aload_n 2, []), (30, .getfield 15, [8154, 1]), (33, .if_icmp .ne 21, [54]), (36, .aload_n 0, []), (37, .getfield 9, [8153, 0]), (40, .aload_n 2, []), (41, .getfield 9, [8153, 0]), (44, .invokestatic 541, [114, 2, 14024, 14025, 1007]), (47, .ifCond .eq 7, [54]), (50, .iconst 1, []), (51, .goto 4, [55]), (54, .iconst 0, []), (55, .ireturn, [])]
/-- java/lang/StringLatin1.equals([B[B)Z -/
def ev_b114 : List ev_I := [(0, .aload_n 0, []), (1, .arraylength, []), (2, .aload_n 1, []), (3, .arraylength, []), (4, .if_icmp .ne 30, [34]), (7, .iconst 0, []), (8, .istore_n 2, []), (9, .iload_n 2, []), (10, .aload_n 0, []), (11, .arraylength, []), (12, .if_icmp .ge 20, [32]), (15, .aload_n 0, []), (16, .iload_n 2, []), (17, .baload, []), (18, .aload_n 1, []), (19, .iload_n 2, []), (20, .baload, []), (21, .if_icmp .eq 5, [26]), (24, .iconst 0, []), (25, .ireturn, []), (26, .iinc 2 1, []), (29, .goto (-20), [9]), (32, .iconst 1, []), (33, .ireturn, []), (34, .iconst 0, []), (35, .ireturn, [])]
def ev_ms_0 : List ev_M := [(7, (some .boolean), [], ev_b0), (1, none, [], ev_b1), (1, none, [], ev_b2), (3, none, [], ev_b3), (1, none, [], ev_b4), (2, none, [], ev_b5), (1, (some .int), [], ev_b6), (1, (some .byte), [], ev_b7), (2, (some .char), [], ev_b8), (1, (some .boolean), [], ev_b9), (2, (some .char), [], ev_b10), (2, none, [], ev_b11), (3, (some .int), [], ev_b12), (1, none, [], ev_b13), (1, none, [], ev_b14), (1, none, [], ev_b15), (2, none, [], ev_b16), (7, (some .int), [], ev_b17), (1, none, [], ev_b18), (2, none, [], ev_b19), (3, none, [], ev_b20), (3, none, [], ev_b21), (1, none, [], ev_b22), (1, none, [], ev_b23)]
def ev_ms_1 : List ev_M := [(8, (some .int), [(0, 16, 19, 3)], ev_b24), (6, (some .int), [], ev_b25), (3, none, [], ev_b26), (8, (some .int), [], ev_b27), (1, (some .int), [], ev_b28), (4, (some .int), [(0, 9, 12, 0)], ev_b29), (2, (some .int), [], ev_b30), (2, (some .int), [], ev_b31), (2, (some .int), [], ev_b32), (3, (some .int), [(0, 8, 11, 0), (0, 8, 14, 2), (0, 8, 17, 3)], ev_b33), (4, (some .int), [], ev_b34), (6, (some .int), [], ev_b35), (1, none, [], ev_b36), (1, none, [], ev_b37), (5, none, [], ev_b38), (3, none, [], ev_b39), (4, none, [], ev_b40), (8, (some .int), [], ev_b41), (7, (some .int), [], ev_b42), (3, none, [], ev_b43), (1, none, [], ev_b44), (2, (some .int), [], ev_b45), (3, (some .int), [], ev_b46), (1, (some .boolean), [], ev_b47)]
def ev_ms_2 : List ev_M := [(2, (some .boolean), [], ev_b48), (3, (some .int), [(15, 86, 89, 0), (15, 86, 106, 2), (15, 86, 115, 3)], ev_b49), (3, none, [], ev_b50), (4, none, [], ev_b51), (2, none, [], ev_b52), (5, (some (.object "PathProverModel$Module")), [], ev_b53), (3, none, [], ev_b54), (2, (some .boolean), [], ev_b55), (2, (some .boolean), [], ev_b56), (1, (some .int), [], ev_b57), (1, (some .int), [], ev_b58), (4, (some .int), [(0, 16, 19, 0), (0, 16, 22, 1)], ev_b59), (2, (some .boolean), [], ev_b60), (3, none, [], ev_b61), (4, (some .boolean), [], ev_b62), (2, (some .boolean), [], ev_b63), (1, none, [], ev_b64), (5, (some .int), [(0, 10, 13, 0), (0, 10, 17, 1)], ev_b65), (3, (some .int), [], ev_b66), (7, (some .int), [], ev_b67), (4, (some .int), [(0, 9, 12, 0), (0, 9, 15, 1)], ev_b68), (2, (some .int), [], ev_b69), (2, (some .int), [], ev_b70), (4, (some .int), [(0, 9, 12, 0), (0, 9, 15, 1), (0, 9, 18, 2), (0, 9, 21, 3)], ev_b71)]
def ev_ms_3 : List ev_M := [(4, (some .int), [], ev_b72), (6, (some .int), [(132, 185, 205, 3), (186, 201, 205, 3)], ev_b73), (4, (some .int), [(0, 9, 12, 0), (0, 9, 15, 1), (0, 9, 18, 3)], ev_b74), (2, (some .int), [], ev_b75), (2, none, [], ev_b76), (2, (some .int), [], ev_b77), (4, (some .int), [(0, 9, 12, 0), (0, 9, 15, 1), (0, 9, 18, 3)], ev_b78), (2, (some .int), [], ev_b79), (4, (some .int), [], ev_b80), (4, (some .int), [(0, 9, 12, 0), (0, 9, 15, 1), (0, 9, 18, 2), (0, 9, 21, 3)], ev_b81), (2, (some .int), [], ev_b82), (4, (some .int), [], ev_b83), (4, (some .int), [(0, 9, 12, 0), (0, 9, 15, 1), (0, 9, 18, 2)], ev_b84), (2, (some .int), [], ev_b85), (3, (some .int), [], ev_b86), (4, (some .int), [(0, 16, 19, 0), (0, 16, 22, 1), (0, 16, 25, 2)], ev_b87), (2, (some .boolean), [], ev_b88), (3, (some .boolean), [], ev_b89), (4, (some .int), [(0, 9, 12, 0), (0, 9, 15, 1)], ev_b90), (2, (some .int), [], ev_b91), (2, (some .int), [], ev_b92), (4, (some .int), [(0, 9, 12, 0)], ev_b93), (2, (some .int), [], ev_b94), (2, (some .int), [], ev_b95)]
def ev_ms_4 : List ev_M := [(2, (some .int), [], ev_b96), (1, (some .int), [], ev_b97), (5, none, [], ev_b98), (6, none, [], ev_b99), (3, none, [], ev_b100), (3, (some (.array .int)), [], ev_b101), (3, (some (.array .byte)), [], ev_b102), (2, (some .int), [], ev_b103), (3, (some .int), [], ev_b104), (2, (some .int), [], ev_b105), (2, (some .int), [], ev_b106), (1, (some .int), [], ev_b107), (2, (some .int), [], ev_b108), (3, (some .int), [], ev_b109), (4, (some .int), [], ev_b110), (1, (some .boolean), [], ev_b111), (6, (some .int), [], ev_b112), (3, (some .boolean), [], ev_b113), (3, (some .boolean), [], ev_b114)]
def ev_mss : List (List ev_M) := [ev_ms_0, ev_ms_1, ev_ms_2, ev_ms_3, ev_ms_4]
def ev_ms (j : Nat) : Option ev_M := match ev_mss[j / 24]? with
  | some l => l[j % 24]?
  | none => none
