/-! the classes: names, fields in the order of the small machine, their types, a fresh object -/
def pgF_0 : u_T := fun k => match k with
  | 0 => ("MarkovDesk", "tokens", "LMarkovDesk$Tokens;", true)
  | 1 => ("MarkovDesk", "model", "LMarkovDesk$Model;", true)
  | 2 => ("MarkovDesk", "reader", "LMarkovDesk$Reader;", true)
  | 3 => ("MarkovDesk", "space", "LMarkovDesk$Space;", true)
  | 4 => ("MarkovDesk", "planner", "LMarkovDesk$Planner;", true)
  | 5 => ("MarkovDesk", "greatest", "LMarkovDesk$Answer;", true)
  | 6 => ("MarkovDesk", "smallest", "LMarkovDesk$Answer;", true)
  | 7 => ("MarkovDesk", "walk", "LMarkovDesk$Walk;", true)
  | 8 => ("MarkovDesk", "result", "LMarkovDesk$Ratio;", true)
  | 9 => ("MarkovDesk", "claimTop", "[LMarkovDesk$Nat;", true)
  | 10 => ("MarkovDesk", "claimBelow", "[LMarkovDesk$Nat;", true)
  | 11 => ("MarkovDesk", "left", "LMarkovDesk$Nat;", true)
  | _ => ("MarkovDesk", "right", "LMarkovDesk$Nat;", true)
def pgY_0 : Nat → FieldType := fun k => match k with
  | 0 => .object "MarkovDesk$Tokens"
  | 1 => .object "MarkovDesk$Model"
  | 2 => .object "MarkovDesk$Reader"
  | 3 => .object "MarkovDesk$Space"
  | 4 => .object "MarkovDesk$Planner"
  | 5 => .object "MarkovDesk$Answer"
  | 6 => .object "MarkovDesk$Answer"
  | 7 => .object "MarkovDesk$Walk"
  | 8 => .object "MarkovDesk$Ratio"
  | 9 => .array (.object "MarkovDesk$Nat")
  | 10 => .array (.object "MarkovDesk$Nat")
  | 11 => .object "MarkovDesk$Nat"
  | _ => .object "MarkovDesk$Nat"
def pgI_0 : Nat → Bool := fun k => match k with
  | 0 => true
  | 1 => true
  | 2 => true
  | 3 => true
  | 4 => true
  | 5 => true
  | 6 => true
  | 7 => true
  | 8 => true
  | 9 => true
  | 10 => true
  | 11 => true
  | _ => true
def pgD_0 : List Value := [.null, .null, .null, .null, .null, .null, .null, .null, .null, .null, .null, .null, .null]
def pgF_1 : u_T := fun k => match k with
  | 0 => ("MarkovDesk$Answer", "least", "Z", true)
  | 1 => ("MarkovDesk$Answer", "policy", "[I", true)
  | 2 => ("MarkovDesk$Answer", "open", "[Z", true)
  | 3 => ("MarkovDesk$Answer", "top", "[LMarkovDesk$Nat;", true)
  | 4 => ("MarkovDesk$Answer", "below", "LMarkovDesk$Nat;", true)
  | 5 => ("MarkovDesk$Answer", "policies", "I", false)
  | 6 => ("MarkovDesk$Answer", "found", "Z", false)
  | _ => ("MarkovDesk$Answer", "told", "Z", false)
def pgY_1 : Nat → FieldType := fun k => match k with
  | 0 => .boolean
  | 1 => .array .int
  | 2 => .array .boolean
  | 3 => .array (.object "MarkovDesk$Nat")
  | 4 => .object "MarkovDesk$Nat"
  | 5 => .int
  | 6 => .boolean
  | _ => .boolean
def pgI_1 : Nat → Bool := fun k => match k with
  | 0 => true
  | 1 => true
  | 2 => true
  | 3 => true
  | 4 => true
  | 5 => false
  | 6 => false
  | _ => false
def pgD_1 : List Value := [.int 0, .null, .null, .null, .null, .int 0, .int 0, .int 0]
def pgF_2 : u_T := fun k => match k with
  | 0 => ("MarkovDesk$Equations", "cells", "[LMarkovDesk$Nat;", true)
  | 1 => ("MarkovDesk$Equations", "solution", "[LMarkovDesk$Nat;", true)
  | 2 => ("MarkovDesk$Equations", "level", "[I", true)
  | 3 => ("MarkovDesk$Equations", "one", "LMarkovDesk$Nat;", true)
  | 4 => ("MarkovDesk$Equations", "nowhere", "LMarkovDesk$Nat;", true)
  | 5 => ("MarkovDesk$Equations", "wide", "LMarkovDesk$Nat;", true)
  | 6 => ("MarkovDesk$Equations", "away", "LMarkovDesk$Nat;", true)
  | _ => ("MarkovDesk$Equations", "many", "I", false)
def pgY_2 : Nat → FieldType := fun k => match k with
  | 0 => .array (.object "MarkovDesk$Nat")
  | 1 => .array (.object "MarkovDesk$Nat")
  | 2 => .array .int
  | 3 => .object "MarkovDesk$Nat"
  | 4 => .object "MarkovDesk$Nat"
  | 5 => .object "MarkovDesk$Nat"
  | 6 => .object "MarkovDesk$Nat"
  | _ => .int
def pgI_2 : Nat → Bool := fun k => match k with
  | 0 => true
  | 1 => true
  | 2 => true
  | 3 => true
  | 4 => true
  | 5 => true
  | 6 => true
  | _ => false
def pgD_2 : List Value := [.null, .null, .null, .null, .null, .null, .null, .int 0]
def pgF_3 : u_T := fun k => match k with
  | 0 => ("MarkovDesk$Machine", "op", "[I", true)
  | 1 => ("MarkovDesk$Machine", "with", "[I", true)
  | 2 => ("MarkovDesk$Machine", "stack", "[I", true)
  | 3 => ("MarkovDesk$Machine", "used", "I", false)
  | _ => ("MarkovDesk$Machine", "broken", "Z", false)
def pgY_3 : Nat → FieldType := fun k => match k with
  | 0 => .array .int
  | 1 => .array .int
  | 2 => .array .int
  | 3 => .int
  | _ => .boolean
def pgI_3 : Nat → Bool := fun k => match k with
  | 0 => true
  | 1 => true
  | 2 => true
  | 3 => false
  | _ => false
def pgD_3 : List Value := [.null, .null, .null, .int 0, .int 0]
def pgF_4 : u_T := fun k => match k with
  | 0 => ("MarkovDesk$Model", "ready", "Z", false)
  | 1 => ("MarkovDesk$Model", "modules", "I", false)
  | 2 => ("MarkovDesk$Model", "actions", "I", false)
  | 3 => ("MarkovDesk$Model", "target", "I", false)
  | 4 => ("MarkovDesk$Model", "variables", "I", false)
  | 5 => ("MarkovDesk$Model", "type", "[I", true)
  | 6 => ("MarkovDesk$Model", "low", "[I", true)
  | 7 => ("MarkovDesk$Model", "high", "[I", true)
  | 8 => ("MarkovDesk$Model", "begin", "[I", true)
  | 9 => ("MarkovDesk$Model", "commands", "I", false)
  | 10 => ("MarkovDesk$Model", "guard", "[I", true)
  | 11 => ("MarkovDesk$Model", "home", "[I", true)
  | 12 => ("MarkovDesk$Model", "action", "[I", true)
  | 13 => ("MarkovDesk$Model", "below", "[J", true)
  | 14 => ("MarkovDesk$Model", "firstUpdate", "[I", true)
  | 15 => ("MarkovDesk$Model", "updates", "I", false)
  | 16 => ("MarkovDesk$Model", "top", "[J", true)
  | 17 => ("MarkovDesk$Model", "firstStep", "[I", true)
  | 18 => ("MarkovDesk$Model", "steps", "I", false)
  | 19 => ("MarkovDesk$Model", "stepVariable", "[I", true)
  | _ => ("MarkovDesk$Model", "stepCode", "[I", true)
def pgY_4 : Nat → FieldType := fun k => match k with
  | 0 => .boolean
  | 1 => .int
  | 2 => .int
  | 3 => .int
  | 4 => .int
  | 5 => .array .int
  | 6 => .array .int
  | 7 => .array .int
  | 8 => .array .int
  | 9 => .int
  | 10 => .array .int
  | 11 => .array .int
  | 12 => .array .int
  | 13 => .array .long
  | 14 => .array .int
  | 15 => .int
  | 16 => .array .long
  | 17 => .array .int
  | 18 => .int
  | 19 => .array .int
  | _ => .array .int
def pgI_4 : Nat → Bool := fun k => match k with
  | 0 => false
  | 1 => false
  | 2 => false
  | 3 => false
  | 4 => false
  | 5 => true
  | 6 => true
  | 7 => true
  | 8 => true
  | 9 => false
  | 10 => true
  | 11 => true
  | 12 => true
  | 13 => true
  | 14 => true
  | 15 => false
  | 16 => true
  | 17 => true
  | 18 => false
  | 19 => true
  | _ => true
def pgD_4 : List Value := [.int 0, .int 0, .int 0, .int 0, .int 0, .null, .null, .null, .null, .int 0, .null, .null, .null, .null, .null, .int 0, .null, .null, .int 0, .null, .null]
def pgF_5 : u_T := fun k => match k with
  | 0 => ("MarkovDesk$Nat", "limb", "[I", true)
  | _ => ("MarkovDesk$Nat", "size", "I", false)
def pgY_5 : Nat → FieldType := fun k => match k with
  | 0 => .array .int
  | _ => .int
def pgI_5 : Nat → Bool := fun k => match k with
  | 0 => true
  | _ => false
def pgD_5 : List Value := [.null, .int 0]
def pgF_6 : u_T := fun k => match k with
  | 0 => ("MarkovDesk$Planner", "space", "LMarkovDesk$Space;", true)
  | 1 => ("MarkovDesk$Planner", "equations", "LMarkovDesk$Equations;", true)
  | 2 => ("MarkovDesk$Planner", "row", "[I", true)
  | 3 => ("MarkovDesk$Planner", "factor", "LMarkovDesk$Nat;", true)
  | 4 => ("MarkovDesk$Planner", "sum", "LMarkovDesk$Nat;", true)
  | 5 => ("MarkovDesk$Planner", "best", "LMarkovDesk$Nat;", true)
  | 6 => ("MarkovDesk$Planner", "left", "LMarkovDesk$Nat;", true)
  | _ => ("MarkovDesk$Planner", "right", "LMarkovDesk$Nat;", true)
def pgY_6 : Nat → FieldType := fun k => match k with
  | 0 => .object "MarkovDesk$Space"
  | 1 => .object "MarkovDesk$Equations"
  | 2 => .array .int
  | 3 => .object "MarkovDesk$Nat"
  | 4 => .object "MarkovDesk$Nat"
  | 5 => .object "MarkovDesk$Nat"
  | 6 => .object "MarkovDesk$Nat"
  | _ => .object "MarkovDesk$Nat"
def pgI_6 : Nat → Bool := fun k => match k with
  | 0 => true
  | 1 => true
  | 2 => true
  | 3 => true
  | 4 => true
  | 5 => true
  | 6 => true
  | _ => true
def pgD_6 : List Value := [.null, .null, .null, .null, .null, .null, .null, .null]
def pgF_7 : u_T := fun k => match k with
  | 0 => ("MarkovDesk$Ratio", "top", "LMarkovDesk$Nat;", true)
  | 1 => ("MarkovDesk$Ratio", "below", "LMarkovDesk$Nat;", true)
  | 2 => ("MarkovDesk$Ratio", "first", "LMarkovDesk$Nat;", true)
  | 3 => ("MarkovDesk$Ratio", "second", "LMarkovDesk$Nat;", true)
  | _ => ("MarkovDesk$Ratio", "quotient", "LMarkovDesk$Nat;", true)
def pgY_7 : Nat → FieldType := fun k => match k with
  | 0 => .object "MarkovDesk$Nat"
  | 1 => .object "MarkovDesk$Nat"
  | 2 => .object "MarkovDesk$Nat"
  | 3 => .object "MarkovDesk$Nat"
  | _ => .object "MarkovDesk$Nat"
def pgI_7 : Nat → Bool := fun k => match k with
  | 0 => true
  | 1 => true
  | 2 => true
  | 3 => true
  | _ => true
def pgD_7 : List Value := [.null, .null, .null, .null, .null]
def pgF_8 : u_T := fun k => match k with
  | 0 => ("MarkovDesk$Reader", "tokens", "LMarkovDesk$Tokens;", true)
  | 1 => ("MarkovDesk$Reader", "machine", "LMarkovDesk$Machine;", true)
  | 2 => ("MarkovDesk$Reader", "model", "LMarkovDesk$Model;", true)
  | 3 => ("MarkovDesk$Reader", "nameToken", "[I", true)
  | 4 => ("MarkovDesk$Reader", "nameRole", "[I", true)
  | 5 => ("MarkovDesk$Reader", "nameHolds", "[I", true)
  | 6 => ("MarkovDesk$Reader", "actionToken", "[I", true)
  | 7 => ("MarkovDesk$Reader", "waitKind", "[I", true)
  | 8 => ("MarkovDesk$Reader", "waitRank", "[I", true)
  | 9 => ("MarkovDesk$Reader", "waitPlace", "[I", true)
  | 10 => ("MarkovDesk$Reader", "waitType", "[I", true)
  | 11 => ("MarkovDesk$Reader", "waitJump", "[I", true)
  | 12 => ("MarkovDesk$Reader", "waiting", "I", false)
  | 13 => ("MarkovDesk$Reader", "nested", "I", false)
  | 14 => ("MarkovDesk$Reader", "type", "I", false)
  | 15 => ("MarkovDesk$Reader", "wantsOperand", "Z", false)
  | 16 => ("MarkovDesk$Reader", "variablesKnown", "Z", false)
  | 17 => ("MarkovDesk$Reader", "names", "I", false)
  | 18 => ("MarkovDesk$Reader", "ownFrom", "I", false)
  | 19 => ("MarkovDesk$Reader", "at", "I", false)
  | _ => ("MarkovDesk$Reader", "wrongAt", "I", false)
def pgY_8 : Nat → FieldType := fun k => match k with
  | 0 => .object "MarkovDesk$Tokens"
  | 1 => .object "MarkovDesk$Machine"
  | 2 => .object "MarkovDesk$Model"
  | 3 => .array .int
  | 4 => .array .int
  | 5 => .array .int
  | 6 => .array .int
  | 7 => .array .int
  | 8 => .array .int
  | 9 => .array .int
  | 10 => .array .int
  | 11 => .array .int
  | 12 => .int
  | 13 => .int
  | 14 => .int
  | 15 => .boolean
  | 16 => .boolean
  | 17 => .int
  | 18 => .int
  | 19 => .int
  | _ => .int
def pgI_8 : Nat → Bool := fun k => match k with
  | 0 => true
  | 1 => true
  | 2 => true
  | 3 => true
  | 4 => true
  | 5 => true
  | 6 => true
  | 7 => true
  | 8 => true
  | 9 => true
  | 10 => true
  | 11 => true
  | 12 => false
  | 13 => false
  | 14 => false
  | 15 => false
  | 16 => false
  | 17 => false
  | 18 => false
  | 19 => false
  | _ => false
def pgD_8 : List Value := [.null, .null, .null, .null, .null, .null, .null, .null, .null, .null, .null, .null, .int 0, .int 0, .int 0, .int 0, .int 0, .int 0, .int 0, .int 0, .int 0]
def pgF_9 : u_T := fun k => match k with
  | 0 => ("MarkovDesk$Space", "machine", "LMarkovDesk$Machine;", true)
  | 1 => ("MarkovDesk$Space", "model", "LMarkovDesk$Model;", true)
  | 2 => ("MarkovDesk$Space", "rows", "[I", true)
  | 3 => ("MarkovDesk$Space", "next", "[I", true)
  | 4 => ("MarkovDesk$Space", "target", "[Z", true)
  | 5 => ("MarkovDesk$Space", "firstChoice", "[I", true)
  | 6 => ("MarkovDesk$Space", "firstOutcome", "[I", true)
  | 7 => ("MarkovDesk$Space", "below", "[J", true)
  | 8 => ("MarkovDesk$Space", "reached", "[I", true)
  | 9 => ("MarkovDesk$Space", "top", "[J", true)
  | 10 => ("MarkovDesk$Space", "enabled", "[Z", true)
  | 11 => ("MarkovDesk$Space", "offer", "[I", true)
  | 12 => ("MarkovDesk$Space", "firstOffer", "[I", true)
  | 13 => ("MarkovDesk$Space", "taken", "[I", true)
  | 14 => ("MarkovDesk$Space", "parties", "I", false)
  | 15 => ("MarkovDesk$Space", "states", "I", false)
  | 16 => ("MarkovDesk$Space", "choices", "I", false)
  | 17 => ("MarkovDesk$Space", "outcomes", "I", false)
  | _ => ("MarkovDesk$Space", "ready", "Z", false)
def pgY_9 : Nat → FieldType := fun k => match k with
  | 0 => .object "MarkovDesk$Machine"
  | 1 => .object "MarkovDesk$Model"
  | 2 => .array .int
  | 3 => .array .int
  | 4 => .array .boolean
  | 5 => .array .int
  | 6 => .array .int
  | 7 => .array .long
  | 8 => .array .int
  | 9 => .array .long
  | 10 => .array .boolean
  | 11 => .array .int
  | 12 => .array .int
  | 13 => .array .int
  | 14 => .int
  | 15 => .int
  | 16 => .int
  | 17 => .int
  | _ => .boolean
def pgI_9 : Nat → Bool := fun k => match k with
  | 0 => true
  | 1 => true
  | 2 => true
  | 3 => true
  | 4 => true
  | 5 => true
  | 6 => true
  | 7 => true
  | 8 => true
  | 9 => true
  | 10 => true
  | 11 => true
  | 12 => true
  | 13 => true
  | 14 => false
  | 15 => false
  | 16 => false
  | 17 => false
  | _ => false
def pgD_9 : List Value := [.null, .null, .null, .null, .null, .null, .null, .null, .null, .null, .null, .null, .null, .null, .int 0, .int 0, .int 0, .int 0, .int 0]
def pgF_10 : u_T := fun k => match k with
  | 0 => ("MarkovDesk$Tokens", "octet", "[I", true)
  | 1 => ("MarkovDesk$Tokens", "kind", "[I", true)
  | 2 => ("MarkovDesk$Tokens", "place", "[I", true)
  | 3 => ("MarkovDesk$Tokens", "length", "[I", true)
  | 4 => ("MarkovDesk$Tokens", "number", "[I", true)
  | 5 => ("MarkovDesk$Tokens", "fed", "I", false)
  | 6 => ("MarkovDesk$Tokens", "textEnd", "I", false)
  | _ => ("MarkovDesk$Tokens", "made", "I", false)
def pgY_10 : Nat → FieldType := fun k => match k with
  | 0 => .array .int
  | 1 => .array .int
  | 2 => .array .int
  | 3 => .array .int
  | 4 => .array .int
  | 5 => .int
  | 6 => .int
  | _ => .int
def pgI_10 : Nat → Bool := fun k => match k with
  | 0 => true
  | 1 => true
  | 2 => true
  | 3 => true
  | 4 => true
  | 5 => false
  | 6 => false
  | _ => false
def pgD_10 : List Value := [.null, .null, .null, .null, .null, .int 0, .int 0, .int 0]
def pgF_11 : u_T := fun k => match k with
  | 0 => ("MarkovDesk$Walk", "space", "LMarkovDesk$Space;", true)
  | 1 => ("MarkovDesk$Walk", "mass", "[LMarkovDesk$Nat;", true)
  | 2 => ("MarkovDesk$Walk", "moved", "[LMarkovDesk$Nat;", true)
  | 3 => ("MarkovDesk$Walk", "below", "LMarkovDesk$Nat;", true)
  | 4 => ("MarkovDesk$Walk", "arrived", "LMarkovDesk$Nat;", true)
  | 5 => ("MarkovDesk$Walk", "portion", "LMarkovDesk$Nat;", true)
  | 6 => ("MarkovDesk$Walk", "common", "LMarkovDesk$Nat;", true)
  | 7 => ("MarkovDesk$Walk", "rest", "LMarkovDesk$Nat;", true)
  | 8 => ("MarkovDesk$Walk", "factor", "LMarkovDesk$Nat;", true)
  | _ => ("MarkovDesk$Walk", "quotient", "LMarkovDesk$Nat;", true)
def pgY_11 : Nat → FieldType := fun k => match k with
  | 0 => .object "MarkovDesk$Space"
  | 1 => .array (.object "MarkovDesk$Nat")
  | 2 => .array (.object "MarkovDesk$Nat")
  | 3 => .object "MarkovDesk$Nat"
  | 4 => .object "MarkovDesk$Nat"
  | 5 => .object "MarkovDesk$Nat"
  | 6 => .object "MarkovDesk$Nat"
  | 7 => .object "MarkovDesk$Nat"
  | 8 => .object "MarkovDesk$Nat"
  | _ => .object "MarkovDesk$Nat"
def pgI_11 : Nat → Bool := fun k => match k with
  | 0 => true
  | 1 => true
  | 2 => true
  | 3 => true
  | 4 => true
  | 5 => true
  | 6 => true
  | 7 => true
  | 8 => true
  | _ => true
def pgD_11 : List Value := [.null, .null, .null, .null, .null, .null, .null, .null, .null, .null]
def pgF_12 : u_T := fun k => match k with
  | 0 => ("MarkovDeskModel", "words", "[Ljava/lang/String;", true)
  | 1 => ("MarkovDeskModel", "signs", "[Ljava/lang/String;", true)
  | 2 => ("MarkovDeskModel", "err", "I", false)
  | 3 => ("MarkovDeskModel", "fed", "I", false)
  | 4 => ("MarkovDeskModel", "wrong", "I", false)
  | 5 => ("MarkovDeskModel", "letters", "I", false)
  | 6 => ("MarkovDeskModel", "there", "Z", false)
  | 7 => ("MarkovDeskModel", "octets", "[I", true)
  | 8 => ("MarkovDeskModel", "text", "[I", true)
  | 9 => ("MarkovDeskModel", "kind", "I", false)
  | 10 => ("MarkovDeskModel", "word", "I", false)
  | 11 => ("MarkovDeskModel", "from", "I", false)
  | 12 => ("MarkovDeskModel", "to", "I", false)
  | 13 => ("MarkovDeskModel", "tokens", "I", false)
  | 14 => ("MarkovDeskModel", "names", "I", false)
  | 15 => ("MarkovDeskModel", "vars", "I", false)
  | 16 => ("MarkovDeskModel", "modules", "I", false)
  | 17 => ("MarkovDeskModel", "commands", "I", false)
  | 18 => ("MarkovDeskModel", "actions", "I", false)
  | 19 => ("MarkovDeskModel", "nameFrom", "[I", true)
  | 20 => ("MarkovDeskModel", "nameSize", "[I", true)
  | 21 => ("MarkovDeskModel", "nameKind", "[I", true)
  | 22 => ("MarkovDeskModel", "nameValue", "[I", true)
  | 23 => ("MarkovDeskModel", "actionFrom", "[I", true)
  | 24 => ("MarkovDeskModel", "actionSize", "[I", true)
  | 25 => ("MarkovDeskModel", "varModule", "[I", true)
  | 26 => ("MarkovDeskModel", "low", "[I", true)
  | 27 => ("MarkovDeskModel", "high", "[I", true)
  | 28 => ("MarkovDeskModel", "first", "[I", true)
  | 29 => ("MarkovDeskModel", "commandModule", "[I", true)
  | 30 => ("MarkovDeskModel", "commandAction", "[I", true)
  | 31 => ("MarkovDeskModel", "guard", "[I", true)
  | 32 => ("MarkovDeskModel", "updates", "[I", true)
  | 33 => ("MarkovDeskModel", "over", "[I", true)
  | 34 => ("MarkovDeskModel", "under", "[I", true)
  | 35 => ("MarkovDeskModel", "setTo", "[I", true)
  | 36 => ("MarkovDeskModel", "isBool", "[Z", true)
  | 37 => ("MarkovDeskModel", "target", "I", false)
  | 38 => ("MarkovDeskModel", "phase", "I", false)
  | 39 => ("MarkovDeskModel", "code", "[I", true)
  | 40 => ("MarkovDeskModel", "codes", "I", false)
  | 41 => ("MarkovDeskModel", "deep", "I", false)
  | 42 => ("MarkovDeskModel", "bool", "Z", false)
  | 43 => ("MarkovDeskModel", "broken", "Z", false)
  | 44 => ("MarkovDeskModel", "stack", "[I", true)
  | 45 => ("MarkovDeskModel", "now", "[I", true)
  | 46 => ("MarkovDeskModel", "explored", "Z", false)
  | 47 => ("MarkovDeskModel", "states", "I", false)
  | 48 => ("MarkovDeskModel", "choices", "I", false)
  | 49 => ("MarkovDeskModel", "outcomes", "I", false)
  | 50 => ("MarkovDeskModel", "value", "[I", true)
  | 51 => ("MarkovDeskModel", "firstChoice", "[I", true)
  | 52 => ("MarkovDeskModel", "firstOutcome", "[I", true)
  | 53 => ("MarkovDeskModel", "goesTo", "[I", true)
  | 54 => ("MarkovDeskModel", "next", "[I", true)
  | 55 => ("MarkovDeskModel", "taken", "[I", true)
  | 56 => ("MarkovDeskModel", "step", "[I", true)
  | 57 => ("MarkovDeskModel", "chosen", "[I", true)
  | 58 => ("MarkovDeskModel", "isTarget", "[Z", true)
  | 59 => ("MarkovDeskModel", "holds", "[Z", true)
  | 60 => ("MarkovDeskModel", "above", "[I", true)
  | 61 => ("MarkovDeskModel", "below", "[I", true)
  | 62 => ("MarkovDeskModel", "problem", "I", false)
  | 63 => ("MarkovDeskModel", "product", "LMarkovDeskModel$Whole;", true)
  | 64 => ("MarkovDeskModel", "factor", "LMarkovDeskModel$Whole;", true)
  | 65 => ("MarkovDeskModel", "sumOver", "LMarkovDeskModel$Whole;", true)
  | 66 => ("MarkovDeskModel", "sumUnder", "LMarkovDeskModel$Whole;", true)
  | 67 => ("MarkovDeskModel", "extra", "LMarkovDeskModel$Whole;", true)
  | 68 => ("MarkovDeskModel", "left", "LMarkovDeskModel$Whole;", true)
  | 69 => ("MarkovDeskModel", "right", "LMarkovDeskModel$Whole;", true)
  | 70 => ("MarkovDeskModel", "part1", "LMarkovDeskModel$Whole;", true)
  | 71 => ("MarkovDeskModel", "part2", "LMarkovDeskModel$Whole;", true)
  | 72 => ("MarkovDeskModel", "part3", "LMarkovDeskModel$Whole;", true)
  | 73 => ("MarkovDeskModel", "solved", "[Z", true)
  | 74 => ("MarkovDeskModel", "known", "[Z", true)
  | 75 => ("MarkovDeskModel", "zero", "[Z", true)
  | 76 => ("MarkovDeskModel", "policy", "[I", true)
  | 77 => ("MarkovDeskModel", "looked", "[I", true)
  | 78 => ("MarkovDeskModel", "unknown", "[I", true)
  | 79 => ("MarkovDeskModel", "index", "[I", true)
  | 80 => ("MarkovDeskModel", "got", "[I", true)
  | 81 => ("MarkovDeskModel", "value0", "[LMarkovDeskModel$Whole;", true)
  | 82 => ("MarkovDeskModel", "det", "[LMarkovDeskModel$Whole;", true)
  | 83 => ("MarkovDeskModel", "w", "[LMarkovDeskModel$Whole;", true)
  | 84 => ("MarkovDeskModel", "toTarget", "[LMarkovDeskModel$Whole;", true)
  | 85 => ("MarkovDeskModel", "diagonal", "[LMarkovDeskModel$Whole;", true)
  | 86 => ("MarkovDeskModel", "claimOver", "[LMarkovDeskModel$Whole;", true)
  | 87 => ("MarkovDeskModel", "claimUnder", "[LMarkovDeskModel$Whole;", true)
  | 88 => ("MarkovDeskModel", "now1", "[LMarkovDeskModel$Whole;", true)
  | 89 => ("MarkovDeskModel", "next1", "[LMarkovDeskModel$Whole;", true)
  | 90 => ("MarkovDeskModel", "over1", "LMarkovDeskModel$Whole;", true)
  | 91 => ("MarkovDeskModel", "under1", "LMarkovDeskModel$Whole;", true)
  | 92 => ("MarkovDeskModel", "base", "LMarkovDeskModel$Whole;", true)
  | 93 => ("MarkovDeskModel", "bestOver", "LMarkovDeskModel$Whole;", true)
  | 94 => ("MarkovDeskModel", "bestUnder", "LMarkovDeskModel$Whole;", true)
  | 95 => ("MarkovDeskModel", "thisOver", "LMarkovDeskModel$Whole;", true)
  | 96 => ("MarkovDeskModel", "thisUnder", "LMarkovDeskModel$Whole;", true)
  | 97 => ("MarkovDeskModel", "product1", "LMarkovDeskModel$Whole;", true)
  | 98 => ("MarkovDeskModel", "product2", "LMarkovDeskModel$Whole;", true)
  | 99 => ("MarkovDeskModel", "previous", "LMarkovDeskModel$Whole;", true)
  | 100 => ("MarkovDeskModel", "resultOver", "LMarkovDeskModel$Whole;", true)
  | 101 => ("MarkovDeskModel", "resultUnder", "LMarkovDeskModel$Whole;", true)
  | 102 => ("MarkovDeskModel", "all", "LMarkovDeskModel$Whole;", true)
  | _ => ("MarkovDeskModel", "set", "[Z", true)
def pgY_12 : Nat → FieldType := fun k => match k with
  | 0 => .array (.object "java/lang/String")
  | 1 => .array (.object "java/lang/String")
  | 2 => .int
  | 3 => .int
  | 4 => .int
  | 5 => .int
  | 6 => .boolean
  | 7 => .array .int
  | 8 => .array .int
  | 9 => .int
  | 10 => .int
  | 11 => .int
  | 12 => .int
  | 13 => .int
  | 14 => .int
  | 15 => .int
  | 16 => .int
  | 17 => .int
  | 18 => .int
  | 19 => .array .int
  | 20 => .array .int
  | 21 => .array .int
  | 22 => .array .int
  | 23 => .array .int
  | 24 => .array .int
  | 25 => .array .int
  | 26 => .array .int
  | 27 => .array .int
  | 28 => .array .int
  | 29 => .array .int
  | 30 => .array .int
  | 31 => .array .int
  | 32 => .array .int
  | 33 => .array .int
  | 34 => .array .int
  | 35 => .array .int
  | 36 => .array .boolean
  | 37 => .int
  | 38 => .int
  | 39 => .array .int
  | 40 => .int
  | 41 => .int
  | 42 => .boolean
  | 43 => .boolean
  | 44 => .array .int
  | 45 => .array .int
  | 46 => .boolean
  | 47 => .int
  | 48 => .int
  | 49 => .int
  | 50 => .array .int
  | 51 => .array .int
  | 52 => .array .int
  | 53 => .array .int
  | 54 => .array .int
  | 55 => .array .int
  | 56 => .array .int
  | 57 => .array .int
  | 58 => .array .boolean
  | 59 => .array .boolean
  | 60 => .array .int
  | 61 => .array .int
  | 62 => .int
  | 63 => .object "MarkovDeskModel$Whole"
  | 64 => .object "MarkovDeskModel$Whole"
  | 65 => .object "MarkovDeskModel$Whole"
  | 66 => .object "MarkovDeskModel$Whole"
  | 67 => .object "MarkovDeskModel$Whole"
  | 68 => .object "MarkovDeskModel$Whole"
  | 69 => .object "MarkovDeskModel$Whole"
  | 70 => .object "MarkovDeskModel$Whole"
  | 71 => .object "MarkovDeskModel$Whole"
  | 72 => .object "MarkovDeskModel$Whole"
  | 73 => .array .boolean
  | 74 => .array .boolean
  | 75 => .array .boolean
  | 76 => .array .int
  | 77 => .array .int
  | 78 => .array .int
  | 79 => .array .int
  | 80 => .array .int
  | 81 => .array (.object "MarkovDeskModel$Whole")
  | 82 => .array (.object "MarkovDeskModel$Whole")
  | 83 => .array (.object "MarkovDeskModel$Whole")
  | 84 => .array (.object "MarkovDeskModel$Whole")
  | 85 => .array (.object "MarkovDeskModel$Whole")
  | 86 => .array (.object "MarkovDeskModel$Whole")
  | 87 => .array (.object "MarkovDeskModel$Whole")
  | 88 => .array (.object "MarkovDeskModel$Whole")
  | 89 => .array (.object "MarkovDeskModel$Whole")
  | 90 => .object "MarkovDeskModel$Whole"
  | 91 => .object "MarkovDeskModel$Whole"
  | 92 => .object "MarkovDeskModel$Whole"
  | 93 => .object "MarkovDeskModel$Whole"
  | 94 => .object "MarkovDeskModel$Whole"
  | 95 => .object "MarkovDeskModel$Whole"
  | 96 => .object "MarkovDeskModel$Whole"
  | 97 => .object "MarkovDeskModel$Whole"
  | 98 => .object "MarkovDeskModel$Whole"
  | 99 => .object "MarkovDeskModel$Whole"
  | 100 => .object "MarkovDeskModel$Whole"
  | 101 => .object "MarkovDeskModel$Whole"
  | 102 => .object "MarkovDeskModel$Whole"
  | _ => .array .boolean
def pgI_12 : Nat → Bool := fun k => match k with
  | 0 => true
  | 1 => true
  | 2 => false
  | 3 => false
  | 4 => false
  | 5 => false
  | 6 => false
  | 7 => true
  | 8 => true
  | 9 => false
  | 10 => false
  | 11 => false
  | 12 => false
  | 13 => false
  | 14 => false
  | 15 => false
  | 16 => false
  | 17 => false
  | 18 => false
  | 19 => true
  | 20 => true
  | 21 => true
  | 22 => true
  | 23 => true
  | 24 => true
  | 25 => true
  | 26 => true
  | 27 => true
  | 28 => true
  | 29 => true
  | 30 => true
  | 31 => true
  | 32 => true
  | 33 => true
  | 34 => true
  | 35 => true
  | 36 => true
  | 37 => false
  | 38 => false
  | 39 => true
  | 40 => false
  | 41 => false
  | 42 => false
  | 43 => false
  | 44 => true
  | 45 => true
  | 46 => false
  | 47 => false
  | 48 => false
  | 49 => false
  | 50 => true
  | 51 => true
  | 52 => true
  | 53 => true
  | 54 => true
  | 55 => true
  | 56 => true
  | 57 => true
  | 58 => true
  | 59 => true
  | 60 => true
  | 61 => true
  | 62 => false
  | 63 => true
  | 64 => true
  | 65 => true
  | 66 => true
  | 67 => true
  | 68 => true
  | 69 => true
  | 70 => true
  | 71 => true
  | 72 => true
  | 73 => true
  | 74 => true
  | 75 => true
  | 76 => true
  | 77 => true
  | 78 => true
  | 79 => true
  | 80 => true
  | 81 => true
  | 82 => true
  | 83 => true
  | 84 => true
  | 85 => true
  | 86 => true
  | 87 => true
  | 88 => true
  | 89 => true
  | 90 => true
  | 91 => true
  | 92 => true
  | 93 => true
  | 94 => true
  | 95 => true
  | 96 => true
  | 97 => true
  | 98 => true
  | 99 => true
  | 100 => true
  | 101 => true
  | 102 => true
  | _ => true
def pgD_12 : List Value := [.null, .null, .int 0, .int 0, .int 0, .int 0, .int 0, .null, .null, .int 0, .int 0, .int 0, .int 0, .int 0, .int 0, .int 0, .int 0, .int 0, .int 0, .null, .null, .null, .null, .null, .null, .null, .null, .null, .null, .null, .null, .null, .null, .null, .null, .null, .null, .int 0, .int 0, .null, .int 0, .int 0, .int 0, .int 0, .null, .null, .int 0, .int 0, .int 0, .int 0, .null, .null, .null, .null, .null, .null, .null, .null, .null, .null, .null, .null, .int 0, .null, .null, .null, .null, .null, .null, .null, .null, .null, .null, .null, .null, .null, .null, .null, .null, .null, .null, .null, .null, .null, .null, .null, .null, .null, .null, .null, .null, .null, .null, .null, .null, .null, .null, .null, .null, .null, .null, .null, .null, .null]
def pgF_13 : u_T := fun k => match k with
  | 0 => ("MarkovDeskModel$Whole", "d", "[I", true)
  | _ => ("MarkovDeskModel$Whole", "n", "I", false)
def pgY_13 : Nat → FieldType := fun k => match k with
  | 0 => .array .int
  | _ => .int
def pgI_13 : Nat → Bool := fun k => match k with
  | 0 => true
  | _ => false
def pgD_13 : List Value := [.null, .int 0]
def pgF_14 : u_T := fun k => match k with
  | _ => ("", "", "", false)
def pgY_14 : Nat → FieldType := fun k => match k with
  | _ => .int
def pgI_14 : Nat → Bool := fun k => match k with
  | _ => false
def pgD_14 : List Value := []
def pgF_15 : u_T := fun k => match k with
  | _ => ("", "", "", false)
def pgY_15 : Nat → FieldType := fun k => match k with
  | _ => .int
def pgI_15 : Nat → Bool := fun k => match k with
  | _ => false
def pgD_15 : List Value := []
def pgF_16 : u_T := fun k => match k with
  | _ => ("", "", "", false)
def pgY_16 : Nat → FieldType := fun k => match k with
  | _ => .int
def pgI_16 : Nat → Bool := fun k => match k with
  | _ => false
def pgD_16 : List Value := []
def pgF_17 : u_T := fun k => match k with
  | _ => ("", "", "", false)
def pgY_17 : Nat → FieldType := fun k => match k with
  | _ => .int
def pgI_17 : Nat → Bool := fun k => match k with
  | _ => false
def pgD_17 : List Value := []
def pgF_18 : u_T := fun k => match k with
  | _ => ("", "", "", false)
def pgY_18 : Nat → FieldType := fun k => match k with
  | _ => .int
def pgI_18 : Nat → Bool := fun k => match k with
  | _ => false
def pgD_18 : List Value := []
def pg_cl : List vw_C := [("MarkovDesk", pgF_0, 13), ("MarkovDesk$Answer", pgF_1, 8), ("MarkovDesk$Equations", pgF_2, 8), ("MarkovDesk$Machine", pgF_3, 5), ("MarkovDesk$Model", pgF_4, 21), ("MarkovDesk$Nat", pgF_5, 2), ("MarkovDesk$Planner", pgF_6, 8), ("MarkovDesk$Ratio", pgF_7, 5), ("MarkovDesk$Reader", pgF_8, 21), ("MarkovDesk$Space", pgF_9, 19), ("MarkovDesk$Tokens", pgF_10, 8), ("MarkovDesk$Walk", pgF_11, 10), ("MarkovDeskModel", pgF_12, 104), ("MarkovDeskModel$Whole", pgF_13, 2), ("java/lang/ArithmeticException", pgF_14, 0), ("java/lang/IllegalArgumentException", pgF_15, 0), ("java/lang/IllegalStateException", pgF_16, 0), ("java/lang/IndexOutOfBoundsException", pgF_17, 0), ("java/lang/UnsupportedOperationException", pgF_18, 0)]
def pg_ft : Nat → Nat → FieldType := fun c => match c with
  | 0 => pgY_0
  | 1 => pgY_1
  | 2 => pgY_2
  | 3 => pgY_3
  | 4 => pgY_4
  | 5 => pgY_5
  | 6 => pgY_6
  | 7 => pgY_7
  | 8 => pgY_8
  | 9 => pgY_9
  | 10 => pgY_10
  | 11 => pgY_11
  | 12 => pgY_12
  | 13 => pgY_13
  | 14 => pgY_14
  | 15 => pgY_15
  | 16 => pgY_16
  | 17 => pgY_17
  | 18 => pgY_18
  | _ => fun _ => .int
def pg_fi : Nat → Nat → Bool := fun c => match c with
  | 0 => pgI_0
  | 1 => pgI_1
  | 2 => pgI_2
  | 3 => pgI_3
  | 4 => pgI_4
  | 5 => pgI_5
  | 6 => pgI_6
  | 7 => pgI_7
  | 8 => pgI_8
  | 9 => pgI_9
  | 10 => pgI_10
  | 11 => pgI_11
  | 12 => pgI_12
  | 13 => pgI_13
  | 14 => pgI_14
  | 15 => pgI_15
  | 16 => pgI_16
  | 17 => pgI_17
  | 18 => pgI_18
  | _ => fun _ => false
def pg_fd : Nat → List Value := fun c => match c with
  | 0 => pgD_0
  | 1 => pgD_1
  | 2 => pgD_2
  | 3 => pgD_3
  | 4 => pgD_4
  | 5 => pgD_5
  | 6 => pgD_6
  | 7 => pgD_7
  | 8 => pgD_8
  | 9 => pgD_9
  | 10 => pgD_10
  | 11 => pgD_11
  | 12 => pgD_12
  | 13 => pgD_13
  | 14 => pgD_14
  | 15 => pgD_15
  | 16 => pgD_16
  | 17 => pgD_17
  | 18 => pgD_18
  | _ => []
def pg_ka : Nat → Nat := fun c => match c with
  | 5 => 3
  | 13 => 4
  | 20 => 5
  | _ => 0
def pg_kc : Nat → Nat := fun k => match k with
  | 3 => 5
  | 4 => 13
  | _ => 20
/-- the Strings, by their octets -/
def pg_sb : Nat → List Int32 := fun j => match j with
  | 1 => [109, 100, 112, 32, 99, 111, 110, 115, 116, 32, 105, 110, 116, 32, 98, 111, 111, 108, 32, 109, 111, 100, 117, 108, 101, 32, 101, 110, 100, 109, 111, 100, 117, 108, 101, 32, 105, 110, 105, 116, 32, 116, 97, 114, 103, 101, 116, 32, 116, 114, 117, 101, 32, 102, 97, 108, 115, 101, 32, 109, 105, 110, 32, 109, 97, 120, 32, 109, 111, 100, 32]
  | 2 => [45, 62, 46, 46, 61, 62, 33, 61, 60, 61, 62, 61]
  | 3 => [61, 60, 62, 43, 45, 42, 47, 33, 38, 124, 63, 58, 59, 44, 39, 40, 41, 91, 93]
  | 4 => [109, 100, 112]
  | 5 => [99, 111, 110, 115, 116]
  | 6 => [105, 110, 116]
  | 7 => [98, 111, 111, 108]
  | 8 => [109, 111, 100, 117, 108, 101]
  | 9 => [101, 110, 100, 109, 111, 100, 117, 108, 101]
  | 10 => [105, 110, 105, 116]
  | 11 => [116, 97, 114, 103, 101, 116]
  | 12 => [116, 114, 117, 101]
  | 13 => [102, 97, 108, 115, 101]
  | 14 => [109, 105, 110]
  | 15 => [109, 97, 120]
  | 16 => [109, 111, 100]
  | 17 => [45, 62]
  | 18 => [46, 46]
  | 19 => [61, 62]
  | 20 => [33, 61]
  | 21 => [60, 61]
  | 22 => [62, 61]
  | 23 => [61]
  | 24 => [60]
  | 25 => [62]
  | 26 => [43]
  | 27 => [45]
  | 28 => [42]
  | 29 => [47]
  | 30 => [33]
  | 31 => [38]
  | 32 => [124]
  | 33 => [63]
  | 34 => [58]
  | 35 => [59]
  | 36 => [44]
  | 37 => [39]
  | 38 => [40]
  | 39 => [41]
  | 40 => [91]
  | 41 => [93]
  | _ => []
def pg_TT : mm_T := (pg_ft, pg_fi, pg_fd, pg_ka, pg_kc, (601024, 7293034, 6, 19, 41, pg_sb))
def pg_aT : List FieldType := [.int, .long, .boolean, .object "MarkovDesk$Nat", .object "MarkovDeskModel$Whole", .object "java/lang/String"]
def pg_wc : pg_Wc := fun c => match c with
  | 0 => ("MarkovDesk", 208, 177)
  | 1 => ("MarkovDesk$Answer", 643, 187)
  | 2 => ("MarkovDesk$Equations", 557, 184)
  | 3 => ("MarkovDesk$Machine", 216, 178)
  | 4 => ("MarkovDesk$Model", 280, 180)
  | 5 => ("MarkovDesk$Nat", 564, 185)
  | 6 => ("MarkovDesk$Planner", 551, 183)
  | 7 => ("MarkovDesk$Ratio", 730, 189)
  | 8 => ("MarkovDesk$Reader", 391, 181)
  | 9 => ("MarkovDesk$Space", 462, 182)
  | 10 => ("MarkovDesk$Tokens", 242, 179)
  | 11 => ("MarkovDesk$Walk", 689, 188)
  | 12 => ("MarkovDeskModel", 1664, 190)
  | 13 => ("MarkovDeskModel$Whole", 1711, 191)
  | 14 => ("java/lang/ArithmeticException", 1299, 204)
  | 15 => ("java/lang/IllegalArgumentException", 929, 196)
  | 16 => ("java/lang/IllegalStateException", 1268, 202)
  | 17 => ("java/lang/IndexOutOfBoundsException", 827, 195)
  | 18 => ("java/lang/UnsupportedOperationException", 1326, 205)
  | _ => ("java/lang/String", 0, 0)
/-- the class words of a row -/
def pg_cok (i : Nat) (r : vw_C) (ps : List Nat) : Bool := decide (ps.length = r.2.2) && (List.range r.2.2).all (fun k => pg_has (ps.getD k 0) (u_lay r.1 r.2.1 k)) && (List.range r.2.2).all (fun k => decide (parseFieldDescriptor (r.2.1 k).2.2.1 = some (pg_ft i k)) && decide (pg_fi i k = (r.2.1 k).2.2.2) && decide (vp_V (pg_fd i) k = defaultValue (pg_ft i k)) && (List.range k).all (fun j => decide ((r.2.1 k).2.1 ≠ (r.2.1 j).2.1))) && decide ((pg_fd i).length = r.2.2)
theorem pgk_0 : pg_cok 0 ("MarkovDesk", pgF_0, 13) [771, 773, 775, 777, 779, 781, 783, 785, 787, 789, 791, 793, 795] = true := by decide +kernel
theorem pgk_1 : pg_cok 1 ("MarkovDesk$Answer", pgF_1, 8) [671, 673, 675, 677, 679, 681, 683, 685] = true := by decide +kernel
theorem pgk_2 : pg_cok 2 ("MarkovDesk$Equations", pgF_2, 8) [598, 600, 602, 604, 606, 608, 610, 612] = true := by decide +kernel
theorem pgk_3 : pg_cok 3 ("MarkovDesk$Machine", pgF_3, 5) [229, 231, 233, 235, 237] = true := by decide +kernel
theorem pgk_4 : pg_cok 4 ("MarkovDesk$Model", pgF_4, 21) [346, 348, 350, 352, 354, 356, 358, 360, 362, 364, 366, 368, 370, 372, 374, 376, 378, 380, 382, 384, 386] = true := by decide +kernel
theorem pgk_5 : pg_cok 5 ("MarkovDesk$Nat", pgF_5, 2) [579, 581] = true := by decide +kernel
theorem pgk_6 : pg_cok 6 ("MarkovDesk$Planner", pgF_6, 8) [625, 627, 629, 631, 633, 635, 637, 639] = true := by decide +kernel
theorem pgk_7 : pg_cok 7 ("MarkovDesk$Ratio", pgF_7, 5) [745, 747, 749, 751, 753] = true := by decide +kernel
theorem pgk_8 : pg_cok 8 ("MarkovDesk$Reader", pgF_8, 21) [418, 420, 422, 424, 426, 428, 430, 432, 434, 436, 438, 440, 442, 444, 446, 448, 450, 452, 454, 456, 458] = true := by decide +kernel
theorem pgk_9 : pg_cok 9 ("MarkovDesk$Space", pgF_9, 19) [510, 512, 514, 516, 518, 520, 522, 524, 526, 528, 530, 532, 534, 536, 538, 540, 542, 544, 546] = true := by decide +kernel
theorem pgk_10 : pg_cok 10 ("MarkovDesk$Tokens", pgF_10, 8) [262, 264, 266, 268, 270, 272, 274, 276] = true := by decide +kernel
theorem pgk_11 : pg_cok 11 ("MarkovDesk$Walk", pgF_11, 10) [708, 710, 712, 714, 716, 718, 720, 722, 724, 726] = true := by decide +kernel
theorem pgk_12 : pg_cok 12 ("MarkovDeskModel", pgF_12, 104) [1842, 1844, 1846, 1848, 1850, 1852, 1854, 1856, 1858, 1860, 1862, 1864, 1866, 1868, 1870, 1872, 1874, 1876, 1878, 1880, 1882, 1884, 1886, 1888, 1890, 1892, 1894, 1896, 1898, 1900, 1902, 1904, 1906, 1908, 1910, 1912, 1914, 1916, 1918, 1920, 1922, 1924, 1926, 1928, 1930, 1932, 1934, 1936, 1938, 1940, 1942, 1944, 1946, 1948, 1950, 1952, 1954, 1956, 1958, 1960, 1962, 1964, 1966, 1968, 1970, 1972, 1974, 1976, 1978, 1980, 1982, 1984, 1986, 1988, 1990, 1992, 1994, 1996, 1998, 2000, 2002, 2004, 2006, 2008, 2010, 2012, 2014, 2016, 2018, 2020, 2022, 2024, 2026, 2028, 2030, 2032, 2034, 2036, 2038, 2040, 2042, 2044, 2046, 2048] = true := by decide +kernel
theorem pgk_13 : pg_cok 13 ("MarkovDeskModel$Whole", pgF_13, 2) [1719, 1721] = true := by decide +kernel
theorem pgk_14 : pg_cok 14 ("java/lang/ArithmeticException", pgF_14, 0) [] = true := by decide +kernel
theorem pgk_15 : pg_cok 15 ("java/lang/IllegalArgumentException", pgF_15, 0) [] = true := by decide +kernel
theorem pgk_16 : pg_cok 16 ("java/lang/IllegalStateException", pgF_16, 0) [] = true := by decide +kernel
theorem pgk_17 : pg_cok 17 ("java/lang/IndexOutOfBoundsException", pgF_17, 0) [] = true := by decide +kernel
theorem pgk_18 : pg_cok 18 ("java/lang/UnsupportedOperationException", pgF_18, 0) [] = true := by decide +kernel
theorem pg_cok_use {i : Nat} {r : vw_C} {ps : List Nat} (h : pg_cok i r ps = true) : (∀ w ∈ u_ws r.1 r.2.1 r.2.2, w ∈ pg_Ts) ∧ (∀ k, k < r.2.2 → parseFieldDescriptor (r.2.1 k).2.2.1 = some (mm_ft pg_TT i k)) ∧ (∀ a, a < r.2.2 → ∀ b, b < r.2.2 → a ≠ b → (r.2.1 a).2.1 ≠ (r.2.1 b).2.1) ∧ (∀ k, k < r.2.2 → mm_fi pg_TT i k = (r.2.1 k).2.2.2) ∧ ((mm_fd pg_TT i).length = r.2.2 ∧ ∀ j, j < r.2.2 → vp_V (mm_fd pg_TT i) j = defaultValue (mm_ft pg_TT i j)) := by
  unfold pg_cok at h
  simp only [Bool.and_eq_true, decide_eq_true_eq, List.all_eq_true, List.mem_range] at h
  obtain ⟨⟨⟨h1, h2⟩, h3⟩, h4⟩ := h
  refine ⟨fun w hw => ?_, fun k hk => (h3 k hk).1.1.1, fun a ha b hb hne => ?_, fun k hk => (h3 k hk).1.1.2, h4, fun j hj => (h3 j hj).1.2⟩
  · obtain ⟨k, hk, rfl⟩ := List.mem_map.mp hw
    exact pg_has_in (h2 k (List.mem_range.mp hk))
  · rcases Nat.lt_or_gt_of_ne hne with q | q
    · exact fun e => (h3 b hb).2 a q e.symm
    · exact (h3 a ha).2 b q
theorem pg_clOK : mm_clOK pg_Ts pg_cl pg_TT := by
  intro i r hr
  match i, hr with
  | 0, hr => cases hr; exact pg_cok_use pgk_0
  | 1, hr => cases hr; exact pg_cok_use pgk_1
  | 2, hr => cases hr; exact pg_cok_use pgk_2
  | 3, hr => cases hr; exact pg_cok_use pgk_3
  | 4, hr => cases hr; exact pg_cok_use pgk_4
  | 5, hr => cases hr; exact pg_cok_use pgk_5
  | 6, hr => cases hr; exact pg_cok_use pgk_6
  | 7, hr => cases hr; exact pg_cok_use pgk_7
  | 8, hr => cases hr; exact pg_cok_use pgk_8
  | 9, hr => cases hr; exact pg_cok_use pgk_9
  | 10, hr => cases hr; exact pg_cok_use pgk_10
  | 11, hr => cases hr; exact pg_cok_use pgk_11
  | 12, hr => cases hr; exact pg_cok_use pgk_12
  | 13, hr => cases hr; exact pg_cok_use pgk_13
  | 14, hr => cases hr; exact pg_cok_use pgk_14
  | 15, hr => cases hr; exact pg_cok_use pgk_15
  | 16, hr => cases hr; exact pg_cok_use pgk_16
  | 17, hr => cases hr; exact pg_cok_use pgk_17
  | 18, hr => cases hr; exact pg_cok_use pgk_18
  | i + 19, hr => simp [pg_cl] at hr
